theorem oi_X7_1 : Cond.methodLink RX7 1 objectInit ∈ UW := xu_mem (List.mem_of_getElem? (i := 104) (by decide +kernel)) (by decide +kernel)
theorem oi_X0_3 : Cond.methodLink RX0 3 objectInit ∈ UW := xu_mem (List.mem_of_getElem? (i := 179) (by decide +kernel)) (by decide +kernel)
theorem oi_X1_1 : Cond.methodLink RX1 1 objectInit ∈ UW := xu_mem (List.mem_of_getElem? (i := 195) (by decide +kernel)) (by decide +kernel)
theorem oi_X2_3 : Cond.methodLink RX2 3 objectInit ∈ UW := xu_mem (List.mem_of_getElem? (i := 236) (by decide +kernel)) (by decide +kernel)
theorem oi_X3_3 : Cond.methodLink RX3 3 objectInit ∈ UW := xu_mem (List.mem_of_getElem? (i := 268) (by decide +kernel)) (by decide +kernel)
theorem oi_X4_3 : Cond.methodLink RX4 3 objectInit ∈ UW := xu_mem (List.mem_of_getElem? (i := 137) (by decide +kernel)) (by decide +kernel)
theorem oi_X5_3 : Cond.methodLink RX5 3 objectInit ∈ UW := xu_mem (List.mem_of_getElem? (i := 112) (by decide +kernel)) (by decide +kernel)
theorem oi_X6_3 : Cond.methodLink RX6 3 objectInit ∈ UW := xu_mem (List.mem_of_getElem? (i := 167) (by decide +kernel)) (by decide +kernel)
theorem oi_X8_3 : Cond.methodLink RX8 3 objectInit ∈ UW := xu_mem (List.mem_of_getElem? (i := 1013) (by decide +kernel)) (by decide +kernel)
theorem kcs {Y : XY} {a f : Nat} {v : Option Nat} {b : Nat} : kc (sr Y a f v) b = kc Y b := rfl
theorem kns {Y : XY} {a f : Nat} {v : Option Nat} {b : Nat} : kn (sr Y a f v) b = kn Y b := rfl
theorem kck {Y : XY} {q c n b : Nat} (h : b < q) : kc (yK Y q c n) b = kc Y b := by simp only [kc, yK, if_neg (show ¬ b = q by omega), if_neg (show ¬ b = q + 1 by omega)]
theorem knk {Y : XY} {q c n b : Nat} (h : b < q) : kn (yK Y q c n) b = kn Y b := by simp only [kn, yK, if_neg (show ¬ b = q by omega), if_neg (show ¬ b = q + 1 by omega)]
theorem kcq {Y : XY} {q c n b : Nat} (h : b = q) : kc (yK Y q c n) b = c := by simp only [kc, yK, if_pos h]
theorem knq {Y : XY} {q c n b : Nat} (h : b = q) : kn (yK Y q c n) b = n := by simp only [kn, yK, if_pos h]
theorem kce {Y : XY} {q c n b : Nat} (h : b = q + 1) : kc (yK Y q c n) b = 9 := by simp only [kc, yK, if_neg (show ¬ b = q by omega), if_pos h]
theorem oi_i : Cond.instanceMethod objectInit ∈ UW := xu_mem (List.mem_of_getElem? (i := 105) (by decide +kernel)) (by decide +kernel)
theorem oi_c : Cond.code objectInit ⟨#[0xb1]⟩ 1 none ∈ UW := xu_mem (List.mem_of_getElem? (i := 106) (by decide +kernel)) (by decide +kernel)
theorem kl9_X7_20 : Cond.classLink RX7 20 RX5 ∈ UW := xu_mem (List.mem_of_getElem? (i := 107) (by decide +kernel)) (by decide +kernel)
theorem kl9_X7_27 : Cond.classLink RX7 27 RX4 ∈ UW := xu_mem (List.mem_of_getElem? (i := 132) (by decide +kernel)) (by decide +kernel)
theorem kl9_X7_34 : Cond.classLink RX7 34 RX6 ∈ UW := xu_mem (List.mem_of_getElem? (i := 162) (by decide +kernel)) (by decide +kernel)
theorem kl9_X6_9 : Cond.classLink RX6 9 RX1 ∈ UW := xu_mem (List.mem_of_getElem? (i := 168) (by decide +kernel)) (by decide +kernel)
theorem kl9_X6_17 : Cond.classLink RX6 17 RX2 ∈ UW := xu_mem (List.mem_of_getElem? (i := 170) (by decide +kernel)) (by decide +kernel)
theorem kl9_X6_23 : Cond.classLink RX6 23 RX3 ∈ UW := xu_mem (List.mem_of_getElem? (i := 172) (by decide +kernel)) (by decide +kernel)
theorem kl9_X6_29 : Cond.classLink RX6 29 RX0 ∈ UW := xu_mem (List.mem_of_getElem? (i := 174) (by decide +kernel)) (by decide +kernel)
theorem kl9_L_8 : Cond.classLink RL 8 RX7 ∈ UW := xu_mem (List.mem_of_getElem? (i := 99) (by decide +kernel)) (by decide +kernel)
theorem kl9_L_68 : Cond.classLink RL 68 RX8 ∈ UW := xu_mem (List.mem_of_getElem? (i := 1008) (by decide +kernel)) (by decide +kernel)
theorem kl9_X8_29 : Cond.classLink RX8 29 "[[I" ∈ UW := xu_mem (List.mem_of_getElem? (i := 1014) (by decide +kernel)) (by decide +kernel)
theorem it9_X7 : Cond.instantiable RX7 10 ∈ UW := xu_mem (List.mem_of_getElem? (i := 100) (by decide +kernel)) (by decide +kernel)
theorem it9_X5 : Cond.instantiable RX5 4 ∈ UW := xu_mem (List.mem_of_getElem? (i := 108) (by decide +kernel)) (by decide +kernel)
theorem it9_X4 : Cond.instantiable RX4 7 ∈ UW := xu_mem (List.mem_of_getElem? (i := 133) (by decide +kernel)) (by decide +kernel)
theorem it9_X6 : Cond.instantiable RX6 15 ∈ UW := xu_mem (List.mem_of_getElem? (i := 163) (by decide +kernel)) (by decide +kernel)
theorem it9_X0 : Cond.instantiable RX0 3 ∈ UW := xu_mem (List.mem_of_getElem? (i := 175) (by decide +kernel)) (by decide +kernel)
theorem it9_X1 : Cond.instantiable RX1 7 ∈ UW := xu_mem (List.mem_of_getElem? (i := 191) (by decide +kernel)) (by decide +kernel)
theorem it9_X2 : Cond.instantiable RX2 5 ∈ UW := xu_mem (List.mem_of_getElem? (i := 232) (by decide +kernel)) (by decide +kernel)
theorem it9_X3 : Cond.instantiable RX3 8 ∈ UW := xu_mem (List.mem_of_getElem? (i := 264) (by decide +kernel)) (by decide +kernel)
theorem it9_X8 : Cond.instantiable RX8 19 ∈ UW := xu_mem (List.mem_of_getElem? (i := 1009) (by decide +kernel)) (by decide +kernel)
theorem ac9_byte : Cond.arrayClass .byte ∈ UW := xu_mem (List.mem_of_getElem? (i := 130) (by decide +kernel)) (by decide +kernel)
theorem ac9_int : Cond.arrayClass .int ∈ UW := xu_mem (List.mem_of_getElem? (i := 131) (by decide +kernel)) (by decide +kernel)
theorem ao9_X1 : RX1 ∈ xAo := by decide
theorem ao9_X2 : RX2 ∈ xAo := by decide
theorem ao9_X3 : RX3 ∈ xAo := by decide
theorem ao9_X6 : RX6 ∈ xAo := by decide
theorem ac9_long : Cond.arrayClass .long ∈ UW := xu_mem (List.mem_of_getElem? (i := 1077) (by decide +kernel)) (by decide +kernel)
def yI_X0 (Y : XY) (a0 : Nat) : XY := (sr (yK (sr (yK Y (a0 + 1) 1 700) a0 0 (some (a0 + 1))) (a0 + 2) 1 16) a0 2 (some (a0 + 2)))
def mI_X0 (N : XN) (a0 : Nat) : XN := (n0 (n0 N (a0 + 1)) (a0 + 2))
theorem I_X0 {G : XG} {Y : XY} {N : XN} {a0 : Nat} (k0 : kc Y a0 = 10) (k9 : kc Y (a0 + 1) = 9) : Cm G yX0_init cX0_init 1 (xR 1 2 716) [.ref a0] Y N (yI_X0 Y a0) (mI_X0 N a0) := by
  refine x_entryM (by decide) (Nat.le_of_ble_eq_true rfl) rfl fun tb => ?_
  refine x_aload_n 0 dX0_init_0 rfl rfl ?_
  refine x_super dX0_init_1 oi_X0_3 oi_i oi_c (by decide) (Nat.le_of_ble_eq_true rfl) (Nat.le_of_ble_eq_true rfl) ?_
  refine x_aload_n 0 dX0_init_4 rfl rfl ?_
  refine x_sipush (v := 700) dX0_init_5 rfl ?_
  refine x_newP (q := (a0 + 1)) (M := 700) (kd := 1) dX0_init_8 rfl ac9_int (by decide) rfl (by decide) (Or.inl ⟨rfl, rfl, rfl⟩) (by first | exact k9 | (simp (disch := omega) only [kcs, kce])) ⟨Nat.le_of_ble_eq_true rfl, Nat.le_of_ble_eq_true rfl⟩ ?_
  refine x_putF dX0_init_10 vc_X0 xin0 tyX0_ok nmX0 fb_X0_0 fl_X0_9 ff_X0_0 rfl rfl xr_X0_0 rfl rfl (by simpa (disch := omega) only [kcs, kck] using k0) ?_
  refine x_aload_n 0 dX0_init_13 rfl rfl ?_
  refine x_bipush (v := 16) dX0_init_14 rfl ?_
  refine x_newP (q := (a0 + 2)) (M := 16) (kd := 1) dX0_init_16 rfl ac9_int (by decide) rfl (by decide) (Or.inl ⟨rfl, rfl, rfl⟩) (by first | exact k9 | (simp (disch := omega) only [kcs, kce])) ⟨Nat.le_of_ble_eq_true rfl, Nat.le_of_ble_eq_true rfl⟩ ?_
  refine x_putF dX0_init_18 vc_X0 xin0 tyX0_ok nmX0 fb_X0_2 fl_X0_15 ff_X0_2 rfl rfl xr_X0_2 rfl rfl (by simpa (disch := omega) only [kcs, kck] using k0) ?_
  exact x_mret dX0_init_21 rfl rfl rfl
def yI_X1 (Y : XY) (a0 : Nat) : XY := Y
def mI_X1 (N : XN) (a0 : Nat) : XN := N
theorem I_X1 {G : XG} {Y : XY} {N : XN} {a0 : Nat} (k0 : kc Y a0 = 11) : Cm G yX1_init cX1_init 1 (xR 1 0 0) [.ref a0] Y N (yI_X1 Y a0) (mI_X1 N a0) := by
  refine x_entryM (by decide) (Nat.le_of_ble_eq_true rfl) rfl fun tb => ?_
  refine x_aload_n 0 dX1_init_0 rfl rfl ?_
  refine x_super dX1_init_1 oi_X1_1 oi_i oi_c (by decide) (Nat.le_of_ble_eq_true rfl) (Nat.le_of_ble_eq_true rfl) ?_
  exact x_mret dX1_init_4 rfl rfl rfl
def yI_X2 (Y : XY) (a0 : Nat) : XY := (sr (yK Y (a0 + 1) 1 3) a0 3 (some (a0 + 1)))
def mI_X2 (N : XN) (a0 : Nat) : XN := (n0 N (a0 + 1))
theorem I_X2 {G : XG} {Y : XY} {N : XN} {a0 : Nat} (k0 : kc Y a0 = 12) (k9 : kc Y (a0 + 1) = 9) : Cm G yX2_init cX2_init 1 (xR 1 1 3) [.ref a0] Y N (yI_X2 Y a0) (mI_X2 N a0) := by
  refine x_entryM (by decide) (Nat.le_of_ble_eq_true rfl) rfl fun tb => ?_
  refine x_aload_n 0 dX2_init_0 rfl rfl ?_
  refine x_super dX2_init_1 oi_X2_3 oi_i oi_c (by decide) (Nat.le_of_ble_eq_true rfl) (Nat.le_of_ble_eq_true rfl) ?_
  refine x_aload_n 0 dX2_init_4 rfl rfl ?_
  refine x_iconst (v := 3) dX2_init_5 rfl ?_
  refine x_newP (q := (a0 + 1)) (M := 3) (kd := 1) dX2_init_6 rfl ac9_int (by decide) rfl (by decide) (Or.inl ⟨rfl, rfl, rfl⟩) (by first | exact k9 | (simp (disch := omega) only [kcs, kce])) ⟨Nat.le_of_ble_eq_true rfl, Nat.le_of_ble_eq_true rfl⟩ ?_
  refine x_putF dX2_init_8 vc_X2 xin2 tyX2_ok nmX2 fb_X2_3 fl_X2_9 ff_X2_3 rfl rfl xr_X2_3 rfl rfl (by simpa (disch := omega) only [kcs, kck] using k0) ?_
  exact x_mret dX2_init_11 rfl rfl rfl
def yI_X3 (Y : XY) (a0 : Nat) : XY := Y
def mI_X3 (N : XN) (a0 : Nat) : XN := N
theorem I_X3 {G : XG} {Y : XY} {N : XN} {a0 : Nat} (k0 : kc Y a0 = 13) : Cm G yX3_init cX3_init 1 (xR 1 0 0) [.ref a0] Y N (yI_X3 Y a0) (mI_X3 N a0) := by
  refine x_entryM (by decide) (Nat.le_of_ble_eq_true rfl) rfl fun tb => ?_
  refine x_aload_n 0 dX3_init_0 rfl rfl ?_
  refine x_super dX3_init_1 oi_X3_3 oi_i oi_c (by decide) (Nat.le_of_ble_eq_true rfl) (Nat.le_of_ble_eq_true rfl) ?_
  exact x_mret dX3_init_4 rfl rfl rfl
def yI_X4 (Y : XY) (a0 : Nat) : XY := Y
def mI_X4 (N : XN) (a0 : Nat) : XN := N
theorem I_X4 {G : XG} {Y : XY} {N : XN} {a0 : Nat} (k0 : kc Y a0 = 14) : Cm G yX4_init cX4_init 1 (xR 1 0 0) [.ref a0] Y N (yI_X4 Y a0) (mI_X4 N a0) := by
  refine x_entryM (by decide) (Nat.le_of_ble_eq_true rfl) rfl fun tb => ?_
  refine x_aload_n 0 dX4_init_0 rfl rfl ?_
  refine x_super dX4_init_1 oi_X4_3 oi_i oi_c (by decide) (Nat.le_of_ble_eq_true rfl) (Nat.le_of_ble_eq_true rfl) ?_
  exact x_mret dX4_init_4 rfl rfl rfl
def yI_X5 (Y : XY) (a0 : Nat) : XY := (sr (yK (sr (yK (sr (yK Y (a0 + 1) 1 701) a0 0 (some (a0 + 1))) (a0 + 2) 1 701) a0 1 (some (a0 + 2))) (a0 + 3) 1 701) a0 2 (some (a0 + 3)))
def mI_X5 (N : XN) (a0 : Nat) : XN := (n0 (n0 (n0 N (a0 + 1)) (a0 + 2)) (a0 + 3))
theorem I_X5 {G : XG} {Y : XY} {N : XN} {a0 : Nat} (k0 : kc Y a0 = 15) (k9 : kc Y (a0 + 1) = 9) : Cm G yX5_init cX5_init 1 (xR 1 3 2103) [.ref a0] Y N (yI_X5 Y a0) (mI_X5 N a0) := by
  refine x_entryM (by decide) (Nat.le_of_ble_eq_true rfl) rfl fun tb => ?_
  refine x_aload_n 0 dX5_init_0 rfl rfl ?_
  refine x_super dX5_init_1 oi_X5_3 oi_i oi_c (by decide) (Nat.le_of_ble_eq_true rfl) (Nat.le_of_ble_eq_true rfl) ?_
  refine x_aload_n 0 dX5_init_4 rfl rfl ?_
  refine x_sipush (v := 701) dX5_init_5 rfl ?_
  refine x_newP (q := (a0 + 1)) (M := 701) (kd := 1) dX5_init_8 rfl ac9_int (by decide) rfl (by decide) (Or.inl ⟨rfl, rfl, rfl⟩) (by first | exact k9 | (simp (disch := omega) only [kcs, kce])) ⟨Nat.le_of_ble_eq_true rfl, Nat.le_of_ble_eq_true rfl⟩ ?_
  refine x_putF dX5_init_10 vc_X5 xin5 tyX5_ok nmX5 fb_X5_0 fl_X5_9 ff_X5_0 rfl rfl xr_X5_0 rfl rfl (by simpa (disch := omega) only [kcs, kck] using k0) ?_
  refine x_aload_n 0 dX5_init_13 rfl rfl ?_
  refine x_sipush (v := 701) dX5_init_14 rfl ?_
  refine x_newP (q := (a0 + 2)) (M := 701) (kd := 1) dX5_init_17 rfl ac9_int (by decide) rfl (by decide) (Or.inl ⟨rfl, rfl, rfl⟩) (by first | exact k9 | (simp (disch := omega) only [kcs, kce])) ⟨Nat.le_of_ble_eq_true rfl, Nat.le_of_ble_eq_true rfl⟩ ?_
  refine x_putF dX5_init_19 vc_X5 xin5 tyX5_ok nmX5 fb_X5_1 fl_X5_15 ff_X5_1 rfl rfl xr_X5_1 rfl rfl (by simpa (disch := omega) only [kcs, kck] using k0) ?_
  refine x_aload_n 0 dX5_init_22 rfl rfl ?_
  refine x_sipush (v := 701) dX5_init_23 rfl ?_
  refine x_newP (q := (a0 + 3)) (M := 701) (kd := 1) dX5_init_26 rfl ac9_int (by decide) rfl (by decide) (Or.inl ⟨rfl, rfl, rfl⟩) (by first | exact k9 | (simp (disch := omega) only [kcs, kce])) ⟨Nat.le_of_ble_eq_true rfl, Nat.le_of_ble_eq_true rfl⟩ ?_
  refine x_putF dX5_init_28 vc_X5 xin5 tyX5_ok nmX5 fb_X5_2 fl_X5_18 ff_X5_2 rfl rfl xr_X5_2 rfl rfl (by simpa (disch := omega) only [kcs, kck] using k0) ?_
  exact x_mret dX5_init_31 rfl rfl rfl
theorem T0_X6_begin {G : XG} {Y : XY} {a0 : Nat} {N : XN} (k100 : kc Y a0 = 16) (w13 : wtO Y a0 13 10) {N9 : XN} (h : f_X6_begin Y a0 N = some N9) : Cl G yX6_begin cX6_begin 1 none (xR 1 0 0) [.ref a0] (.inl none) Y N Y N9 := by
  refine x_entry (by decide) (Nat.le_of_ble_eq_true rfl) rfl ?_
  rw [f_X6_begin] at h
  refine x_aload_n 0 dX6_begin_0 rfl rfl ?_
  refine x_iconst (v := 0) dX6_begin_1 rfl ?_
  refine x_puti dX6_begin_2 vc_X6 xin6 tyX6_ok nmX6 fb_X6_1 fl_X6_46 ff_X6_1 xr_X6_1 (nf_X6_1 _) (ft_X6_1 _) k100 ?_
  obtain ⟨N1, eN1, h⟩ := x_lt h
  refine x_nmN eN1 ?_
  refine x_aload_n 0 dX6_begin_5 rfl rfl ?_
  refine x_iconst (v := 0) dX6_begin_6 rfl ?_
  refine x_puti dX6_begin_7 vc_X6 xin6 tyX6_ok nmX6 fb_X6_3 fl_X6_50 ff_X6_3 xr_X6_3 (nf_X6_3 _) (ft_X6_3 _) k100 ?_
  obtain ⟨N2, eN2, h⟩ := x_lt h
  refine x_nmN eN2 ?_
  refine x_aload_n 0 dX6_begin_10 rfl rfl ?_
  refine x_iconst (v := 0) dX6_begin_11 rfl ?_
  refine x_puti dX6_begin_12 vc_X6 xin6 tyX6_ok nmX6 fb_X6_5 fl_X6_53 ff_X6_5 xr_X6_5 (nf_X6_5 _) (ft_X6_5 _) k100 ?_
  obtain ⟨N3, eN3, h⟩ := x_lt h
  refine x_nmN eN3 ?_
  refine x_aload_n 0 dX6_begin_15 rfl rfl ?_
  refine x_iconst (v := 0) dX6_begin_16 rfl ?_
  refine x_puti dX6_begin_17 vc_X6 xin6 tyX6_ok nmX6 fb_X6_6 fl_X6_56 ff_X6_6 xr_X6_6 (nf_X6_6 _) (ft_X6_6 _) k100 ?_
  obtain ⟨N4, eN4, h⟩ := x_lt h
  refine x_nmN eN4 ?_
  refine x_aload_n 0 dX6_begin_20 rfl rfl ?_
  refine x_iconst (v := 0) dX6_begin_21 rfl ?_
  refine x_puti dX6_begin_22 vc_X6 xin6 tyX6_ok nmX6 fb_X6_7 fl_X6_59 ff_X6_7 xr_X6_7 (nf_X6_7 _) (ft_X6_7 _) k100 ?_
  obtain ⟨N5, eN5, h⟩ := x_lt h
  refine x_nmN eN5 ?_
  refine x_aload_n 0 dX6_begin_25 rfl rfl ?_
  refine x_iconst (v := 5) dX6_begin_26 rfl ?_
  refine x_puti dX6_begin_27 vc_X6 xin6 tyX6_ok nmX6 fb_X6_8 fl_X6_62 ff_X6_8 xr_X6_8 (nf_X6_8 _) (ft_X6_8 _) k100 ?_
  obtain ⟨N6, eN6, h⟩ := x_lt h
  refine x_nmN eN6 ?_
  refine x_aload_n 0 dX6_begin_30 rfl rfl ?_
  refine x_bipush (v := 10) dX6_begin_31 rfl ?_
  refine x_puti dX6_begin_33 vc_X6 xin6 tyX6_ok nmX6 fb_X6_9 fl_X6_65 ff_X6_9 xr_X6_9 (nf_X6_9 _) (ft_X6_9 _) k100 ?_
  obtain ⟨N7, eN7, h⟩ := x_lt h
  refine x_nmN eN7 ?_
  refine x_aload_n 0 dX6_begin_36 rfl rfl ?_
  refine x_bipush (v := 10) dX6_begin_37 rfl ?_
  refine x_puti dX6_begin_39 vc_X6 xin6 tyX6_ok nmX6 fb_X6_10 fl_X6_68 ff_X6_10 xr_X6_10 (nf_X6_10 _) (ft_X6_10 _) k100 ?_
  obtain ⟨N8, eN8, h⟩ := x_lt h
  refine x_nmN eN8 ?_
  refine x_aload_n 0 dX6_begin_42 rfl rfl ?_
  refine x_bipush (v := 10) dX6_begin_43 rfl ?_
  refine x_puti dX6_begin_45 vc_X6 xin6 tyX6_ok nmX6 fb_X6_11 fl_X6_71 ff_X6_11 xr_X6_11 (nf_X6_11 _) (ft_X6_11 _) k100 ?_
  obtain ⟨N9, eN9, h⟩ := x_lt h
  refine x_nmN eN9 ?_
  refine x_aload_n 0 dX6_begin_48 rfl rfl ?_
  refine x_iconst (v := 1) dX6_begin_49 rfl ?_
  refine x_puti dX6_begin_50 vc_X6 xin6 tyX6_ok nmX6 fb_X6_12 fl_X6_74 ff_X6_12 xr_X6_12 (nf_X6_12 _) (ft_X6_12 _) k100 ?_
  obtain ⟨N10, eN10, h⟩ := x_lt h
  refine x_nmN eN10 ?_
  refine x_aload_n 0 dX6_begin_53 rfl rfl ?_
  obtain ⟨g11, k12⟩ := w13
  refine x_getr dX6_begin_54 vc_X6 xin6 fb_X6_13 fl_X6_32 xr_X6_13 k100 g11 ?_
  refine x_iconst (v := 0) dX6_begin_57 rfl ?_
  refine x_puti dX6_begin_58 vc_X0 xin0 tyX0_ok nmX0 fb_X0_1 fl_X6_77 ff_X0_1 xr_X0_1 (nf_X0_1 _) (ft_X0_1 _) k12 ?_
  obtain ⟨N13, eN13, h⟩ := x_lt h
  refine x_nmN eN13 ?_
  obtain rfl := x_so h
  exact x_vret dX6_begin_61 rfl rfl rfl
set_option maxHeartbeats 4000000 in
set_option maxRecDepth 100000 in
theorem T0_X8_layUsual_2 {G : XG} {Y : XY} {N9 : XN}: ∀ (D9 : Nat) (p_0 : Nat) (v_1 : Int32) (N : XN), kc Y p_0 = 1 → f_X8_layUsual_2 Y D9 p_0 v_1 N = some N9 → Ex G yX8_layUsual cX8_layUsual 2 none (xR 1 0 0) (.inl none) Y N9 0 0 2 [(0, .ref p_0), (1, .int v_1)] [] Y N := by
  intro D9
  induction D9 with
  | zero => intro p_0 v_1 N kk0 h; exact nomatch (show none = some _ from h)
  | succ D9 ih =>
    intro p_0 v_1 N kk0 h
    rw [f_X8_layUsual_2] at h
    refine x_iload_n 1 dX8_layUsual_2 rfl rfl ?_
    refine x_sipush (v := 1784) dX8_layUsual_3 rfl ?_
    rcases x_if h with ⟨c1, h⟩ | ⟨c1, h⟩
    · refine x_icmp_ge_t (tgt := 19) dX8_layUsual_6 (by decide) c1 ?_
      refine x_aload_n 0 dX8_layUsual_19 rfl rfl ?_
      refine x_iconst (v := 5) dX8_layUsual_20 rfl ?_
      refine x_iconst (v := 5) dX8_layUsual_21 rfl ?_
      obtain ⟨c2, h⟩ := x_ck h
      refine x_iast dX8_layUsual_22 kk0 (xb_in c2) rfl ?_
      obtain ⟨N3, eN3, h⟩ := x_lt h
      refine x_nmN eN3 ?_
      refine x_aload_n 0 dX8_layUsual_23 rfl rfl ?_
      refine x_bipush (v := 6) dX8_layUsual_24 rfl ?_
      refine x_bipush (v := 10) dX8_layUsual_26 rfl ?_
      obtain ⟨c4, h⟩ := x_ck h
      refine x_iast dX8_layUsual_28 kk0 (xb_in c4) rfl ?_
      obtain ⟨N5, eN5, h⟩ := x_lt h
      refine x_nmN eN5 ?_
      refine x_aload_n 0 dX8_layUsual_29 rfl rfl ?_
      refine x_bipush (v := 7) dX8_layUsual_30 rfl ?_
      refine x_bipush (v := 10) dX8_layUsual_32 rfl ?_
      obtain ⟨c6, h⟩ := x_ck h
      refine x_iast dX8_layUsual_34 kk0 (xb_in c6) rfl ?_
      obtain ⟨N7, eN7, h⟩ := x_lt h
      refine x_nmN eN7 ?_
      refine x_aload_n 0 dX8_layUsual_35 rfl rfl ?_
      refine x_bipush (v := 8) dX8_layUsual_36 rfl ?_
      refine x_bipush (v := 10) dX8_layUsual_38 rfl ?_
      obtain ⟨c8, h⟩ := x_ck h
      refine x_iast dX8_layUsual_40 kk0 (xb_in c8) rfl ?_
      obtain ⟨N9, eN9, h⟩ := x_lt h
      refine x_nmN eN9 ?_
      refine x_aload_n 0 dX8_layUsual_41 rfl rfl ?_
      refine x_bipush (v := 9) dX8_layUsual_42 rfl ?_
      refine x_iconst (v := 1) dX8_layUsual_44 rfl ?_
      obtain ⟨c10, h⟩ := x_ck h
      refine x_iast dX8_layUsual_45 kk0 (xb_in c10) rfl ?_
      obtain ⟨N11, eN11, h⟩ := x_lt h
      refine x_nmN eN11 ?_
      obtain rfl := x_so h
      exact x_vret dX8_layUsual_46 rfl rfl rfl
    · refine x_icmp_ge_f (tgt := 19) dX8_layUsual_6 (by decide) c1 ?_
      refine x_aload_n 0 dX8_layUsual_9 rfl rfl ?_
      refine x_iload_n 1 dX8_layUsual_10 rfl rfl ?_
      refine x_iconst (v := 0) dX8_layUsual_11 rfl ?_
      obtain ⟨c12, h⟩ := x_ck h
      refine x_iast dX8_layUsual_12 kk0 (xb_in c12) rfl ?_
      obtain ⟨N13, eN13, h⟩ := x_lt h
      refine x_nmN eN13 ?_
      refine x_iinc (L' := [(0, .ref p_0), (1, .int (v_1 + 1))]) 1 [1, 0] dX8_layUsual_13 rfl rfl (by decide) rfl ?_
      refine x_goto (tgt := 2) dX8_layUsual_16 (by decide) ?_
      exact ih p_0 (v_1 + 1) N13 kk0 h
set_option maxHeartbeats 4000000 in
set_option maxRecDepth 100000 in
theorem T0_X8_layUsual {G : XG} {Y : XY} {a0 : Nat} {N : XN} (k100 : kc Y a0 = 1) {N9 : XN} (h : f_X8_layUsual Y a0 N = some N9) : Cl G yX8_layUsual cX8_layUsual 2 none (xR 1 0 0) [.ref a0] (.inl none) Y N Y N9 := by
  refine x_entry (by decide) (Nat.le_of_ble_eq_true rfl) rfl ?_
  rw [f_X8_layUsual] at h
  refine x_iconst (v := 0) dX8_layUsual_0 rfl ?_
  refine x_istore_n (L' := [(0, .ref a0), (1, .int 0)]) [1, 0] dX8_layUsual_1 rfl (by decide) rfl ?_
  exact T0_X8_layUsual_2 (G := G) FU a0 0 N k100 h
