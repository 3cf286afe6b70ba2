theorem oi_X7_1 : Cond.methodLink RX7 1 objectInit ∈ UW := xu_mem (List.mem_of_getElem? (i := 62) (by decide +kernel)) (by decide +kernel)
theorem oi_X0_3 : Cond.methodLink RX0 3 objectInit ∈ UW := xu_mem (List.mem_of_getElem? (i := 137) (by decide +kernel)) (by decide +kernel)
theorem oi_X1_1 : Cond.methodLink RX1 1 objectInit ∈ UW := xu_mem (List.mem_of_getElem? (i := 153) (by decide +kernel)) (by decide +kernel)
theorem oi_X2_3 : Cond.methodLink RX2 3 objectInit ∈ UW := xu_mem (List.mem_of_getElem? (i := 194) (by decide +kernel)) (by decide +kernel)
theorem oi_X3_3 : Cond.methodLink RX3 3 objectInit ∈ UW := xu_mem (List.mem_of_getElem? (i := 226) (by decide +kernel)) (by decide +kernel)
theorem oi_X4_3 : Cond.methodLink RX4 3 objectInit ∈ UW := xu_mem (List.mem_of_getElem? (i := 95) (by decide +kernel)) (by decide +kernel)
theorem oi_X5_3 : Cond.methodLink RX5 3 objectInit ∈ UW := xu_mem (List.mem_of_getElem? (i := 70) (by decide +kernel)) (by decide +kernel)
theorem oi_X6_3 : Cond.methodLink RX6 3 objectInit ∈ UW := xu_mem (List.mem_of_getElem? (i := 125) (by decide +kernel)) (by decide +kernel)
theorem oi_X8_1 : Cond.methodLink RX8 1 objectInit ∈ UW := xu_mem (List.mem_of_getElem? (i := 400) (by decide +kernel)) (by decide +kernel)
theorem oi_X9_1 : Cond.methodLink RX9 1 objectInit ∈ UW := xu_mem (List.mem_of_getElem? (i := 1065) (by decide +kernel)) (by decide +kernel)
theorem oi_X10_1 : Cond.methodLink RX10 1 objectInit ∈ UW := xu_mem (List.mem_of_getElem? (i := 522) (by decide +kernel)) (by decide +kernel)
theorem oi_J5_3 : Cond.methodLink RJ5 3 objectInit ∈ UW := xu_mem (List.mem_of_getElem? (i := 1094) (by decide +kernel)) (by decide +kernel)
theorem oi_J0_1 : Cond.methodLink RJ0 1 objectInit ∈ UW := xu_mem (List.mem_of_getElem? (i := 1251) (by decide +kernel)) (by decide +kernel)
theorem kcs {Y : XY} {a f : Nat} {v : Option Nat} {b : Nat} : kc (sr Y a f v) b = kc Y b := rfl
theorem kns {Y : XY} {a f : Nat} {v : Option Nat} {b : Nat} : kn (sr Y a f v) b = kn Y b := rfl
theorem kck {Y : XY} {q c n b : Nat} (h : b < q) : kc (yK Y q c n) b = kc Y b := by simp only [kc, yK, if_neg (show ¬ b = q by omega), if_neg (show ¬ b = q + 1 by omega)]
theorem knk {Y : XY} {q c n b : Nat} (h : b < q) : kn (yK Y q c n) b = kn Y b := by simp only [kn, yK, if_neg (show ¬ b = q by omega), if_neg (show ¬ b = q + 1 by omega)]
theorem kcq {Y : XY} {q c n b : Nat} (h : b = q) : kc (yK Y q c n) b = c := by simp only [kc, yK, if_pos h]
theorem knq {Y : XY} {q c n b : Nat} (h : b = q) : kn (yK Y q c n) b = n := by simp only [kn, yK, if_pos h]
theorem kce {Y : XY} {q c n b : Nat} (h : b = q + 1) : kc (yK Y q c n) b = 9 := by simp only [kc, yK, if_neg (show ¬ b = q by omega), if_pos h]
theorem oi_i : Cond.instanceMethod objectInit ∈ UW := xu_mem (List.mem_of_getElem? (i := 63) (by decide +kernel)) (by decide +kernel)
theorem oi_c : Cond.code objectInit ⟨#[0xb1]⟩ 1 none ∈ UW := xu_mem (List.mem_of_getElem? (i := 64) (by decide +kernel)) (by decide +kernel)
theorem kl9_X7_20 : Cond.classLink RX7 20 RX5 ∈ UW := xu_mem (List.mem_of_getElem? (i := 65) (by decide +kernel)) (by decide +kernel)
theorem kl9_X7_27 : Cond.classLink RX7 27 RX4 ∈ UW := xu_mem (List.mem_of_getElem? (i := 90) (by decide +kernel)) (by decide +kernel)
theorem kl9_X7_34 : Cond.classLink RX7 34 RX6 ∈ UW := xu_mem (List.mem_of_getElem? (i := 120) (by decide +kernel)) (by decide +kernel)
theorem kl9_X6_9 : Cond.classLink RX6 9 RX1 ∈ UW := xu_mem (List.mem_of_getElem? (i := 126) (by decide +kernel)) (by decide +kernel)
theorem kl9_X6_17 : Cond.classLink RX6 17 RX2 ∈ UW := xu_mem (List.mem_of_getElem? (i := 128) (by decide +kernel)) (by decide +kernel)
theorem kl9_X6_23 : Cond.classLink RX6 23 RX3 ∈ UW := xu_mem (List.mem_of_getElem? (i := 130) (by decide +kernel)) (by decide +kernel)
theorem kl9_X6_29 : Cond.classLink RX6 29 RX0 ∈ UW := xu_mem (List.mem_of_getElem? (i := 132) (by decide +kernel)) (by decide +kernel)
theorem kl9_L_14 : Cond.classLink RL 14 RX7 ∈ UW := xu_mem (List.mem_of_getElem? (i := 57) (by decide +kernel)) (by decide +kernel)
theorem kl9_L_98 : Cond.classLink RL 98 "[I" ∈ UW := xu_mem (List.mem_of_getElem? (i := 444) (by decide +kernel)) (by decide +kernel)
theorem kl9_L_113 : Cond.classLink RL 113 RX8 ∈ UW := xu_mem (List.mem_of_getElem? (i := 395) (by decide +kernel)) (by decide +kernel)
theorem kl9_L_119 : Cond.classLink RL 119 RX10 ∈ UW := xu_mem (List.mem_of_getElem? (i := 517) (by decide +kernel)) (by decide +kernel)
theorem kl9_X8_8 : Cond.classLink RX8 8 RX8 ∈ UW := xu_mem (List.mem_of_getElem? (i := 439) (by decide +kernel)) (by decide +kernel)
theorem kl9_X8_13 : Cond.classLink RX8 13 "[I" ∈ UW := xu_mem (List.mem_of_getElem? (i := 401) (by decide +kernel)) (by decide +kernel)
theorem kl9_X9_7 : Cond.classLink RX9 7 RX9 ∈ UW := xu_mem (List.mem_of_getElem? (i := 1060) (by decide +kernel)) (by decide +kernel)
theorem kl9_X9_34 : Cond.classLink RX9 34 RJ4 ∈ UW := xu_mem (List.mem_of_getElem? (i := 1086) (by decide +kernel)) (by decide +kernel)
theorem kl9_J4_18 : Cond.classLink RJ4 18 RJ0 ∈ UW := xu_mem (List.mem_of_getElem? (i := 1243) (by decide +kernel)) (by decide +kernel)
theorem kl9_J7_45 : Cond.classLink RJ7 45 RJ4 ∈ UW := xu_mem (List.mem_of_getElem? (i := 1276) (by decide +kernel)) (by decide +kernel)
theorem kl9_J7_311 : Cond.classLink RJ7 311 "[B" ∈ UW := xu_mem (List.mem_of_getElem? (i := 1154) (by decide +kernel)) (by decide +kernel)
theorem it9_X7 : Cond.instantiable RX7 10 ∈ UW := xu_mem (List.mem_of_getElem? (i := 58) (by decide +kernel)) (by decide +kernel)
theorem it9_X5 : Cond.instantiable RX5 4 ∈ UW := xu_mem (List.mem_of_getElem? (i := 66) (by decide +kernel)) (by decide +kernel)
theorem it9_X4 : Cond.instantiable RX4 7 ∈ UW := xu_mem (List.mem_of_getElem? (i := 91) (by decide +kernel)) (by decide +kernel)
theorem it9_X6 : Cond.instantiable RX6 15 ∈ UW := xu_mem (List.mem_of_getElem? (i := 121) (by decide +kernel)) (by decide +kernel)
theorem it9_X0 : Cond.instantiable RX0 3 ∈ UW := xu_mem (List.mem_of_getElem? (i := 133) (by decide +kernel)) (by decide +kernel)
theorem it9_X1 : Cond.instantiable RX1 7 ∈ UW := xu_mem (List.mem_of_getElem? (i := 149) (by decide +kernel)) (by decide +kernel)
theorem it9_X2 : Cond.instantiable RX2 5 ∈ UW := xu_mem (List.mem_of_getElem? (i := 190) (by decide +kernel)) (by decide +kernel)
theorem it9_X3 : Cond.instantiable RX3 8 ∈ UW := xu_mem (List.mem_of_getElem? (i := 222) (by decide +kernel)) (by decide +kernel)
theorem it9_X8 : Cond.instantiable RX8 8 ∈ UW := xu_mem (List.mem_of_getElem? (i := 396) (by decide +kernel)) (by decide +kernel)
theorem it9_X10 : Cond.instantiable RX10 1 ∈ UW := xu_mem (List.mem_of_getElem? (i := 518) (by decide +kernel)) (by decide +kernel)
theorem it9_X9 : Cond.instantiable RX9 4 ∈ UW := xu_mem (List.mem_of_getElem? (i := 1061) (by decide +kernel)) (by decide +kernel)
theorem it9_J4 : Cond.instantiable RJ4 4 ∈ UW := xu_mem (List.mem_of_getElem? (i := 1087) (by decide +kernel)) (by decide +kernel)
theorem it9_J0 : Cond.instantiable RJ0 4 ∈ UW := xu_mem (List.mem_of_getElem? (i := 1244) (by decide +kernel)) (by decide +kernel)
theorem ac9_byte : Cond.arrayClass .byte ∈ UW := xu_mem (List.mem_of_getElem? (i := 88) (by decide +kernel)) (by decide +kernel)
theorem ac9_int : Cond.arrayClass .int ∈ UW := xu_mem (List.mem_of_getElem? (i := 89) (by decide +kernel)) (by decide +kernel)
theorem ao9_X1 : RX1 ∈ xAo := by decide
theorem ao9_X2 : RX2 ∈ xAo := by decide
theorem ao9_X3 : RX3 ∈ xAo := by decide
theorem ao9_X6 : RX6 ∈ xAo := by decide
theorem ac9_long : Cond.arrayClass .long ∈ UW := xu_mem (List.mem_of_getElem? (i := 501) (by decide +kernel)) (by decide +kernel)
theorem ao9_X8 : RX8 ∈ xAo := by decide
def yI_X0 (Y : XY) (a0 : Nat) : XY := (sr (yK (sr (yK Y (a0 + 1) 1 700) a0 0 (some (a0 + 1))) (a0 + 2) 1 16) a0 2 (some (a0 + 2)))
def mI_X0 (N : XN) (a0 : Nat) : XN := (n0 (n0 N (a0 + 1)) (a0 + 2))
theorem I_X0 {G : XG} {Y : XY} {N : XN} {a0 : Nat} (k0 : kc Y a0 = 10) (k9 : kc Y (a0 + 1) = 9) : Cm G yX0_init cX0_init 1 (xR 1 2 716) [.ref a0] Y N (yI_X0 Y a0) (mI_X0 N a0) := by
  refine x_entryM (by decide) (Nat.le_of_ble_eq_true rfl) rfl fun tb => ?_
  refine x_aload_n 0 dX0_init_0 rfl rfl ?_
  refine x_super dX0_init_1 oi_X0_3 oi_i oi_c (by decide) (Nat.le_of_ble_eq_true rfl) (Nat.le_of_ble_eq_true rfl) ?_
  refine x_aload_n 0 dX0_init_4 rfl rfl ?_
  refine x_sipush (v := 700) dX0_init_5 rfl ?_
  refine x_newP (q := (a0 + 1)) (M := 700) (kd := 1) dX0_init_8 rfl ac9_int (by decide) rfl (by decide) (Or.inl ⟨rfl, rfl, rfl⟩) (by first | exact k9 | (simp (disch := omega) only [kcs, kce])) ⟨Nat.le_of_ble_eq_true rfl, Nat.le_of_ble_eq_true rfl⟩ ?_
  refine x_putF dX0_init_10 vc_X0 xin0 tyX0_ok nmX0 fb_X0_0 fl_X0_9 ff_X0_0 rfl rfl xr_X0_0 rfl rfl (by simpa (disch := omega) only [kcs, kck] using k0) ?_
  refine x_aload_n 0 dX0_init_13 rfl rfl ?_
  refine x_bipush (v := 16) dX0_init_14 rfl ?_
  refine x_newP (q := (a0 + 2)) (M := 16) (kd := 1) dX0_init_16 rfl ac9_int (by decide) rfl (by decide) (Or.inl ⟨rfl, rfl, rfl⟩) (by first | exact k9 | (simp (disch := omega) only [kcs, kce])) ⟨Nat.le_of_ble_eq_true rfl, Nat.le_of_ble_eq_true rfl⟩ ?_
  refine x_putF dX0_init_18 vc_X0 xin0 tyX0_ok nmX0 fb_X0_2 fl_X0_15 ff_X0_2 rfl rfl xr_X0_2 rfl rfl (by simpa (disch := omega) only [kcs, kck] using k0) ?_
  exact x_mret dX0_init_21 rfl rfl rfl
def yI_X1 (Y : XY) (a0 : Nat) : XY := Y
def mI_X1 (N : XN) (a0 : Nat) : XN := N
theorem I_X1 {G : XG} {Y : XY} {N : XN} {a0 : Nat} (k0 : kc Y a0 = 11) : Cm G yX1_init cX1_init 1 (xR 1 0 0) [.ref a0] Y N (yI_X1 Y a0) (mI_X1 N a0) := by
  refine x_entryM (by decide) (Nat.le_of_ble_eq_true rfl) rfl fun tb => ?_
  refine x_aload_n 0 dX1_init_0 rfl rfl ?_
  refine x_super dX1_init_1 oi_X1_1 oi_i oi_c (by decide) (Nat.le_of_ble_eq_true rfl) (Nat.le_of_ble_eq_true rfl) ?_
  exact x_mret dX1_init_4 rfl rfl rfl
def yI_X2 (Y : XY) (a0 : Nat) : XY := (sr (yK Y (a0 + 1) 1 3) a0 3 (some (a0 + 1)))
def mI_X2 (N : XN) (a0 : Nat) : XN := (n0 N (a0 + 1))
theorem I_X2 {G : XG} {Y : XY} {N : XN} {a0 : Nat} (k0 : kc Y a0 = 12) (k9 : kc Y (a0 + 1) = 9) : Cm G yX2_init cX2_init 1 (xR 1 1 3) [.ref a0] Y N (yI_X2 Y a0) (mI_X2 N a0) := by
  refine x_entryM (by decide) (Nat.le_of_ble_eq_true rfl) rfl fun tb => ?_
  refine x_aload_n 0 dX2_init_0 rfl rfl ?_
  refine x_super dX2_init_1 oi_X2_3 oi_i oi_c (by decide) (Nat.le_of_ble_eq_true rfl) (Nat.le_of_ble_eq_true rfl) ?_
  refine x_aload_n 0 dX2_init_4 rfl rfl ?_
  refine x_iconst (v := 3) dX2_init_5 rfl ?_
  refine x_newP (q := (a0 + 1)) (M := 3) (kd := 1) dX2_init_6 rfl ac9_int (by decide) rfl (by decide) (Or.inl ⟨rfl, rfl, rfl⟩) (by first | exact k9 | (simp (disch := omega) only [kcs, kce])) ⟨Nat.le_of_ble_eq_true rfl, Nat.le_of_ble_eq_true rfl⟩ ?_
  refine x_putF dX2_init_8 vc_X2 xin2 tyX2_ok nmX2 fb_X2_3 fl_X2_9 ff_X2_3 rfl rfl xr_X2_3 rfl rfl (by simpa (disch := omega) only [kcs, kck] using k0) ?_
  exact x_mret dX2_init_11 rfl rfl rfl
def yI_X3 (Y : XY) (a0 : Nat) : XY := Y
def mI_X3 (N : XN) (a0 : Nat) : XN := N
theorem I_X3 {G : XG} {Y : XY} {N : XN} {a0 : Nat} (k0 : kc Y a0 = 13) : Cm G yX3_init cX3_init 1 (xR 1 0 0) [.ref a0] Y N (yI_X3 Y a0) (mI_X3 N a0) := by
  refine x_entryM (by decide) (Nat.le_of_ble_eq_true rfl) rfl fun tb => ?_
  refine x_aload_n 0 dX3_init_0 rfl rfl ?_
  refine x_super dX3_init_1 oi_X3_3 oi_i oi_c (by decide) (Nat.le_of_ble_eq_true rfl) (Nat.le_of_ble_eq_true rfl) ?_
  exact x_mret dX3_init_4 rfl rfl rfl
def yI_X4 (Y : XY) (a0 : Nat) : XY := Y
def mI_X4 (N : XN) (a0 : Nat) : XN := N
theorem I_X4 {G : XG} {Y : XY} {N : XN} {a0 : Nat} (k0 : kc Y a0 = 14) : Cm G yX4_init cX4_init 1 (xR 1 0 0) [.ref a0] Y N (yI_X4 Y a0) (mI_X4 N a0) := by
  refine x_entryM (by decide) (Nat.le_of_ble_eq_true rfl) rfl fun tb => ?_
  refine x_aload_n 0 dX4_init_0 rfl rfl ?_
  refine x_super dX4_init_1 oi_X4_3 oi_i oi_c (by decide) (Nat.le_of_ble_eq_true rfl) (Nat.le_of_ble_eq_true rfl) ?_
  exact x_mret dX4_init_4 rfl rfl rfl
def yI_X5 (Y : XY) (a0 : Nat) : XY := (sr (yK (sr (yK (sr (yK Y (a0 + 1) 1 701) a0 0 (some (a0 + 1))) (a0 + 2) 1 701) a0 1 (some (a0 + 2))) (a0 + 3) 1 701) a0 2 (some (a0 + 3)))
def mI_X5 (N : XN) (a0 : Nat) : XN := (n0 (n0 (n0 N (a0 + 1)) (a0 + 2)) (a0 + 3))
theorem I_X5 {G : XG} {Y : XY} {N : XN} {a0 : Nat} (k0 : kc Y a0 = 15) (k9 : kc Y (a0 + 1) = 9) : Cm G yX5_init cX5_init 1 (xR 1 3 2103) [.ref a0] Y N (yI_X5 Y a0) (mI_X5 N a0) := by
  refine x_entryM (by decide) (Nat.le_of_ble_eq_true rfl) rfl fun tb => ?_
  refine x_aload_n 0 dX5_init_0 rfl rfl ?_
  refine x_super dX5_init_1 oi_X5_3 oi_i oi_c (by decide) (Nat.le_of_ble_eq_true rfl) (Nat.le_of_ble_eq_true rfl) ?_
  refine x_aload_n 0 dX5_init_4 rfl rfl ?_
  refine x_sipush (v := 701) dX5_init_5 rfl ?_
  refine x_newP (q := (a0 + 1)) (M := 701) (kd := 1) dX5_init_8 rfl ac9_int (by decide) rfl (by decide) (Or.inl ⟨rfl, rfl, rfl⟩) (by first | exact k9 | (simp (disch := omega) only [kcs, kce])) ⟨Nat.le_of_ble_eq_true rfl, Nat.le_of_ble_eq_true rfl⟩ ?_
  refine x_putF dX5_init_10 vc_X5 xin5 tyX5_ok nmX5 fb_X5_0 fl_X5_9 ff_X5_0 rfl rfl xr_X5_0 rfl rfl (by simpa (disch := omega) only [kcs, kck] using k0) ?_
  refine x_aload_n 0 dX5_init_13 rfl rfl ?_
  refine x_sipush (v := 701) dX5_init_14 rfl ?_
  refine x_newP (q := (a0 + 2)) (M := 701) (kd := 1) dX5_init_17 rfl ac9_int (by decide) rfl (by decide) (Or.inl ⟨rfl, rfl, rfl⟩) (by first | exact k9 | (simp (disch := omega) only [kcs, kce])) ⟨Nat.le_of_ble_eq_true rfl, Nat.le_of_ble_eq_true rfl⟩ ?_
  refine x_putF dX5_init_19 vc_X5 xin5 tyX5_ok nmX5 fb_X5_1 fl_X5_15 ff_X5_1 rfl rfl xr_X5_1 rfl rfl (by simpa (disch := omega) only [kcs, kck] using k0) ?_
  refine x_aload_n 0 dX5_init_22 rfl rfl ?_
  refine x_sipush (v := 701) dX5_init_23 rfl ?_
  refine x_newP (q := (a0 + 3)) (M := 701) (kd := 1) dX5_init_26 rfl ac9_int (by decide) rfl (by decide) (Or.inl ⟨rfl, rfl, rfl⟩) (by first | exact k9 | (simp (disch := omega) only [kcs, kce])) ⟨Nat.le_of_ble_eq_true rfl, Nat.le_of_ble_eq_true rfl⟩ ?_
  refine x_putF dX5_init_28 vc_X5 xin5 tyX5_ok nmX5 fb_X5_2 fl_X5_18 ff_X5_2 rfl rfl xr_X5_2 rfl rfl (by simpa (disch := omega) only [kcs, kck] using k0) ?_
  exact x_mret dX5_init_31 rfl rfl rfl
theorem T0_X6_begin {G : XG} {Y : XY} {a0 : Nat} {N : XN} (k100 : kc Y a0 = 16) (w13 : wtO Y a0 13 10) {N9 : XN} (h : f_X6_begin Y a0 N = some N9) : Cl G yX6_begin cX6_begin 1 none (xR 1 0 0) [.ref a0] (.inl none) Y N Y N9 := by
  refine x_entry (by decide) (Nat.le_of_ble_eq_true rfl) rfl ?_
  rw [f_X6_begin] at h
  refine x_aload_n 0 dX6_begin_0 rfl rfl ?_
  refine x_iconst (v := 0) dX6_begin_1 rfl ?_
  refine x_puti dX6_begin_2 vc_X6 xin6 tyX6_ok nmX6 fb_X6_1 fl_X6_46 ff_X6_1 xr_X6_1 (nf_X6_1 _) (ft_X6_1 _) k100 ?_
  obtain ⟨N1, eN1, h⟩ := x_lt h
  refine x_nmN eN1 ?_
  refine x_aload_n 0 dX6_begin_5 rfl rfl ?_
  refine x_iconst (v := 0) dX6_begin_6 rfl ?_
  refine x_puti dX6_begin_7 vc_X6 xin6 tyX6_ok nmX6 fb_X6_3 fl_X6_50 ff_X6_3 xr_X6_3 (nf_X6_3 _) (ft_X6_3 _) k100 ?_
  obtain ⟨N2, eN2, h⟩ := x_lt h
  refine x_nmN eN2 ?_
  refine x_aload_n 0 dX6_begin_10 rfl rfl ?_
  refine x_iconst (v := 0) dX6_begin_11 rfl ?_
  refine x_puti dX6_begin_12 vc_X6 xin6 tyX6_ok nmX6 fb_X6_5 fl_X6_53 ff_X6_5 xr_X6_5 (nf_X6_5 _) (ft_X6_5 _) k100 ?_
  obtain ⟨N3, eN3, h⟩ := x_lt h
  refine x_nmN eN3 ?_
  refine x_aload_n 0 dX6_begin_15 rfl rfl ?_
  refine x_iconst (v := 0) dX6_begin_16 rfl ?_
  refine x_puti dX6_begin_17 vc_X6 xin6 tyX6_ok nmX6 fb_X6_6 fl_X6_56 ff_X6_6 xr_X6_6 (nf_X6_6 _) (ft_X6_6 _) k100 ?_
  obtain ⟨N4, eN4, h⟩ := x_lt h
  refine x_nmN eN4 ?_
  refine x_aload_n 0 dX6_begin_20 rfl rfl ?_
  refine x_iconst (v := 0) dX6_begin_21 rfl ?_
  refine x_puti dX6_begin_22 vc_X6 xin6 tyX6_ok nmX6 fb_X6_7 fl_X6_59 ff_X6_7 xr_X6_7 (nf_X6_7 _) (ft_X6_7 _) k100 ?_
  obtain ⟨N5, eN5, h⟩ := x_lt h
  refine x_nmN eN5 ?_
  refine x_aload_n 0 dX6_begin_25 rfl rfl ?_
  refine x_iconst (v := 5) dX6_begin_26 rfl ?_
  refine x_puti dX6_begin_27 vc_X6 xin6 tyX6_ok nmX6 fb_X6_8 fl_X6_62 ff_X6_8 xr_X6_8 (nf_X6_8 _) (ft_X6_8 _) k100 ?_
  obtain ⟨N6, eN6, h⟩ := x_lt h
  refine x_nmN eN6 ?_
  refine x_aload_n 0 dX6_begin_30 rfl rfl ?_
  refine x_bipush (v := 10) dX6_begin_31 rfl ?_
  refine x_puti dX6_begin_33 vc_X6 xin6 tyX6_ok nmX6 fb_X6_9 fl_X6_65 ff_X6_9 xr_X6_9 (nf_X6_9 _) (ft_X6_9 _) k100 ?_
  obtain ⟨N7, eN7, h⟩ := x_lt h
  refine x_nmN eN7 ?_
  refine x_aload_n 0 dX6_begin_36 rfl rfl ?_
  refine x_bipush (v := 10) dX6_begin_37 rfl ?_
  refine x_puti dX6_begin_39 vc_X6 xin6 tyX6_ok nmX6 fb_X6_10 fl_X6_68 ff_X6_10 xr_X6_10 (nf_X6_10 _) (ft_X6_10 _) k100 ?_
  obtain ⟨N8, eN8, h⟩ := x_lt h
  refine x_nmN eN8 ?_
  refine x_aload_n 0 dX6_begin_42 rfl rfl ?_
  refine x_bipush (v := 10) dX6_begin_43 rfl ?_
  refine x_puti dX6_begin_45 vc_X6 xin6 tyX6_ok nmX6 fb_X6_11 fl_X6_71 ff_X6_11 xr_X6_11 (nf_X6_11 _) (ft_X6_11 _) k100 ?_
  obtain ⟨N9, eN9, h⟩ := x_lt h
  refine x_nmN eN9 ?_
  refine x_aload_n 0 dX6_begin_48 rfl rfl ?_
  refine x_iconst (v := 1) dX6_begin_49 rfl ?_
  refine x_puti dX6_begin_50 vc_X6 xin6 tyX6_ok nmX6 fb_X6_12 fl_X6_74 ff_X6_12 xr_X6_12 (nf_X6_12 _) (ft_X6_12 _) k100 ?_
  obtain ⟨N10, eN10, h⟩ := x_lt h
  refine x_nmN eN10 ?_
  refine x_aload_n 0 dX6_begin_53 rfl rfl ?_
  obtain ⟨g11, k12⟩ := w13
  refine x_getr dX6_begin_54 vc_X6 xin6 fb_X6_13 fl_X6_32 xr_X6_13 k100 g11 ?_
  refine x_iconst (v := 0) dX6_begin_57 rfl ?_
  refine x_puti dX6_begin_58 vc_X0 xin0 tyX0_ok nmX0 fb_X0_1 fl_X6_77 ff_X0_1 xr_X0_1 (nf_X0_1 _) (ft_X0_1 _) k12 ?_
  obtain ⟨N13, eN13, h⟩ := x_lt h
  refine x_nmN eN13 ?_
  obtain rfl := x_so h
  exact x_vret dX6_begin_61 rfl rfl rfl
