/-! THE MODEL'S CONSTRUCTOR -/
theorem kcm {Y : XY} {q M K b : Nat} (h : b < q) : kc (yM Y q M K) b = kc Y b := by simp only [kc, yM, if_neg (show ¬ b = q by omega), if_neg (show ¬ (q < b ∧ b ≤ q + M) by omega), if_neg (show ¬ b = q + M + 1 by omega)]
theorem knm {Y : XY} {q M K b : Nat} (h : b < q) : kn (yM Y q M K) b = kn Y b := by simp only [kn, yM, if_neg (show ¬ b = q by omega), if_neg (show ¬ (q < b ∧ b ≤ q + M) by omega), if_neg (show ¬ b = q + M + 1 by omega)]
theorem kcmq {Y : XY} {q M K b : Nat} (h : b = q) : kc (yM Y q M K) b = 8 := by simp only [kc, yM, if_pos h]
theorem knmq {Y : XY} {q M K b : Nat} (h : b = q) : kn (yM Y q M K) b = M := by simp only [kn, yM, if_pos h]
theorem kcmr {Y : XY} {q M K b : Nat} (h : q < b) (h2 : b ≤ q + M) : kc (yM Y q M K) b = 1 := by simp only [kc, yM, if_neg (show ¬ b = q by omega), if_pos (show q < b ∧ b ≤ q + M from ⟨h, h2⟩)]
theorem knmr {Y : XY} {q M K b : Nat} (h : q < b) (h2 : b ≤ q + M) : kn (yM Y q M K) b = K := by simp only [kn, yM, if_neg (show ¬ b = q by omega), if_pos (show q < b ∧ b ≤ q + M from ⟨h, h2⟩)]
theorem kcme {Y : XY} {q M K b : Nat} (h : b = q + M + 1) : kc (yM Y q M K) b = 9 := by simp only [kc, yM, if_neg (show ¬ b = q by omega), if_neg (show ¬ (q < b ∧ b ≤ q + M) by omega), if_pos h]
theorem grm {Y : XY} {q M K b j : Nat} (h : b < q) : gr (yM Y q M K) b j = gr Y b j := by simp only [gr, yM, if_neg (show ¬ b = q by omega), if_neg (show ¬ (q < b ∧ b ≤ q + M) by omega)]
theorem grmq {Y : XY} {q M K b j : Nat} (h : b = q) (hj : j < M) : gr (yM Y q M K) b j = some (q + 1 + j) := by simp only [gr, yM, if_pos h, if_pos hj]
def yX8 (Y : XY) (m : Nat) : XY := sr (yK (sr (yK (sr (yM (sr (yK (sr (yK (sr (yK (sr (yK (sr (yK (Y) (m + 1) 1 700) m 1 (some (m + 1))) (m + 2) 1 1784) m 8 (some (m + 2))) (m + 3) 1 1784) m 9 (some (m + 3))) (m + 4) 1 584) m 10 (some (m + 4))) (m + 5) 1 584) m 11 (some (m + 5))) (m + 6) 8 1784) m 12 (some (m + 6))) (m + 15) 3 1200) m 17 (some (m + 15))) (m + 16) 1 3) m 18 (some (m + 16))
def mX80 (N : XN) (m : Nat) : XN := n0 (n0 (nM (n0 (n0 (n0 (n0 (si (n0 (N) (m + 1)) m 7 (-1)) (m + 2)) (m + 3)) (m + 4)) (m + 5)) (m + 6) 8) (m + 15)) (m + 16)
def mX8 (N : XN) (m : Nat) : XN := sd (mX80 N m) (m + 2) (eUsual ((mX80 N m).1 (m + 2)))
theorem yX8_at {Y : XY} {m : Nat} (k0 : kc Y m = 18) : kc (yX8 Y m) m = 18 ∧ (gr (yX8 Y m) m 1 = some (m + 1) ∧ kc (yX8 Y m) (m + 1) = 1 ∧ kn (yX8 Y m) (m + 1) = 700) ∧ (gr (yX8 Y m) m 8 = some (m + 2) ∧ kc (yX8 Y m) (m + 2) = 1 ∧ kn (yX8 Y m) (m + 2) = 1784) ∧ (gr (yX8 Y m) m 9 = some (m + 3) ∧ kc (yX8 Y m) (m + 3) = 1 ∧ kn (yX8 Y m) (m + 3) = 1784) ∧ (gr (yX8 Y m) m 10 = some (m + 4) ∧ kc (yX8 Y m) (m + 4) = 1 ∧ kn (yX8 Y m) (m + 4) = 584) ∧ (gr (yX8 Y m) m 11 = some (m + 5) ∧ kc (yX8 Y m) (m + 5) = 1 ∧ kn (yX8 Y m) (m + 5) = 584) ∧ (gr (yX8 Y m) m 12 = some (m + 6) ∧ kc (yX8 Y m) (m + 6) = 8 ∧ kn (yX8 Y m) (m + 6) = 8) ∧ (gr (yX8 Y m) m 17 = some (m + 15) ∧ kc (yX8 Y m) (m + 15) = 3 ∧ kn (yX8 Y m) (m + 15) = 1200) ∧ (gr (yX8 Y m) m 18 = some (m + 16) ∧ kc (yX8 Y m) (m + 16) = 1 ∧ kn (yX8 Y m) (m + 16) = 3) ∧ (∀ i, i < 8 → gr (yX8 Y m) (m + 6) i = some (m + 7 + i) ∧ kc (yX8 Y m) (m + 7 + i) = 1 ∧ kn (yX8 Y m) (m + 7 + i) = 1784) ∧ kc (yX8 Y m) (m + 17) = 9 ∧ ∀ b, b < m → kc (yX8 Y m) b = kc Y b ∧ kn (yX8 Y m) b = kn Y b ∧ ∀ j, gr (yX8 Y m) b j = gr Y b j := by
  unfold yX8
  refine ⟨?_, ?_, ?_, ?_, ?_, ?_, ?_, ?_, ?_, fun i hi => ?_, ?_, fun b hb => ?_⟩
  · simp (disch := omega) only [kcs, kns, kck, knk, kcq, knq, kce, kcm, knm, kcmq, knmq, kcmr, knmr, kcme, grs, grk, grq, grn, grm, grmq, k0]
  iterate 8
    · refine ⟨?_, ?_, ?_⟩ <;> simp (disch := omega) only [kcs, kns, kck, knk, kcq, knq, kce, kcm, knm, kcmq, knmq, kcmr, knmr, kcme, grs, grk, grq, grn, grm, grmq, k0]
  · rw [show m + 7 + i = m + 6 + 1 + i by omega]
    refine ⟨?_, ?_, ?_⟩
    · simp (disch := omega) only [kcs, kns, kck, knk, kcq, knq, kce, kcm, knm, kcmq, knmq, kcmr, knmr, kcme, grs, grk, grq, grn, grm, grmq, k0]
    · simp (disch := omega) only [kcs, kns, kck, knk, kcq, knq, kce, kcm, knm, kcmq, knmq, kcmr, knmr, kcme, grs, grk, grq, grn, grm, grmq, k0]
    · simp (disch := omega) only [kcs, kns, kck, knk, kcq, knq, kce, kcm, knm, kcmq, knmq, kcmr, knmr, kcme, grs, grk, grq, grn, grm, grmq, k0]
  · simp (disch := omega) only [kcs, kns, kck, knk, kcq, knq, kce, kcm, knm, kcmq, knmq, kcmr, knmr, kcme, grs, grk, grq, grn, grm, grmq, k0]
  · refine ⟨?_, ?_, fun j => ?_⟩ <;> simp (disch := omega) only [kcs, kns, kck, knk, kcq, knq, kce, kcm, knm, kcmq, knmq, kcmr, knmr, kcme, grs, grk, grq, grn, grm, grmq, k0]
theorem lay_X8 {Y : XY} {N : XN} {m : Nat} (k0 : kc Y m = 18) : f_X8_layUsual (yX8 Y m) (m + 2) (mX80 N m) = some (mX8 N m) := by
  have := M_layUsual (N := mX80 N m) (e := (mX80 N m).1 (m + 2)) (yX8_at k0).2.2.1.2.2
  rw [sd_self] at this
  exact this
set_option maxHeartbeats 4000000 in
set_option maxRecDepth 100000 in
theorem I_X8 {G : XG} {Y : XY} {N : XN} {m : Nat} (k0 : kc Y m = 18) (k9 : kc Y (m + 1) = 9) : Cm G yX8_init cX8_init 1 (xR 2 16 20919) [.ref m] Y N (yX8 Y m) (mX8 N m) := by
  refine x_entryM (by decide) (Nat.le_of_ble_eq_true rfl) rfl fun tb => ?_
  refine x_aload_n 0 dX8_init_0 rfl rfl ?_
  refine x_super dX8_init_1 oi_X8_3 oi_i oi_c (by decide) (Nat.le_of_ble_eq_true rfl) (Nat.le_of_ble_eq_true rfl) ?_
  refine x_aload_n 0 dX8_init_4 rfl rfl ?_
  refine x_sipush (v := 700) dX8_init_5 rfl ?_
  refine x_newP (q := m + 1) (M := 700) (kd := 1) dX8_init_8 rfl ac9_int (by decide) rfl (by decide) (Or.inl ⟨rfl, rfl, rfl⟩) k9 ⟨Nat.le_of_ble_eq_true rfl, Nat.le_of_ble_eq_true rfl⟩ ?_
  refine x_putF dX8_init_10 vc_X8 xin8 tyX8_ok nmX8 fb_X8_1 fl_X8_9 ff_X8_1 rfl rfl xr_X8_1 rfl rfl (by simp (disch := omega) only [kcs, kck, kcm, k0]) ?_
  refine x_aload_n 0 dX8_init_13 rfl rfl ?_
  refine x_iconst (v := -1) dX8_init_14 rfl ?_
  refine x_puti dX8_init_15 vc_X8 xin8 tyX8_ok nmX8 fb_X8_7 fl_X8_13 ff_X8_7 xr_X8_7 (nf_X8_7 _) (ft_X8_7 _) (by simp (disch := omega) only [kcs, kck, kcm, k0]) ?_
  refine x_aload_n 0 dX8_init_18 rfl rfl ?_
  refine x_sipush (v := 1784) dX8_init_19 rfl ?_
  refine x_newP (q := m + 2) (M := 1784) (kd := 1) dX8_init_22 rfl ac9_int (by decide) rfl (by decide) (Or.inl ⟨rfl, rfl, rfl⟩) (by simp (disch := omega) only [kcs, kce, kcme, k9]) ⟨Nat.le_of_ble_eq_true rfl, Nat.le_of_ble_eq_true rfl⟩ ?_
  refine x_putF dX8_init_24 vc_X8 xin8 tyX8_ok nmX8 fb_X8_8 fl_X8_17 ff_X8_8 rfl rfl xr_X8_8 rfl rfl (by simp (disch := omega) only [kcs, kck, kcm, k0]) ?_
  refine x_aload_n 0 dX8_init_27 rfl rfl ?_
  refine x_sipush (v := 1784) dX8_init_28 rfl ?_
  refine x_newP (q := m + 3) (M := 1784) (kd := 1) dX8_init_31 rfl ac9_int (by decide) rfl (by decide) (Or.inl ⟨rfl, rfl, rfl⟩) (by simp (disch := omega) only [kcs, kce, kcme, k9]) ⟨Nat.le_of_ble_eq_true rfl, Nat.le_of_ble_eq_true rfl⟩ ?_
  refine x_putF dX8_init_33 vc_X8 xin8 tyX8_ok nmX8 fb_X8_9 fl_X8_20 ff_X8_9 rfl rfl xr_X8_9 rfl rfl (by simp (disch := omega) only [kcs, kck, kcm, k0]) ?_
  refine x_aload_n 0 dX8_init_36 rfl rfl ?_
  refine x_sipush (v := 584) dX8_init_37 rfl ?_
  refine x_newP (q := m + 4) (M := 584) (kd := 1) dX8_init_40 rfl ac9_int (by decide) rfl (by decide) (Or.inl ⟨rfl, rfl, rfl⟩) (by simp (disch := omega) only [kcs, kce, kcme, k9]) ⟨Nat.le_of_ble_eq_true rfl, Nat.le_of_ble_eq_true rfl⟩ ?_
  refine x_putF dX8_init_42 vc_X8 xin8 tyX8_ok nmX8 fb_X8_10 fl_X8_23 ff_X8_10 rfl rfl xr_X8_10 rfl rfl (by simp (disch := omega) only [kcs, kck, kcm, k0]) ?_
  refine x_aload_n 0 dX8_init_45 rfl rfl ?_
  refine x_sipush (v := 584) dX8_init_46 rfl ?_
  refine x_newP (q := m + 5) (M := 584) (kd := 1) dX8_init_49 rfl ac9_int (by decide) rfl (by decide) (Or.inl ⟨rfl, rfl, rfl⟩) (by simp (disch := omega) only [kcs, kce, kcme, k9]) ⟨Nat.le_of_ble_eq_true rfl, Nat.le_of_ble_eq_true rfl⟩ ?_
  refine x_putF dX8_init_51 vc_X8 xin8 tyX8_ok nmX8 fb_X8_11 fl_X8_26 ff_X8_11 rfl rfl xr_X8_11 rfl rfl (by simp (disch := omega) only [kcs, kck, kcm, k0]) ?_
  refine x_aload_n 0 dX8_init_54 rfl rfl ?_
  refine x_bipush (v := 8) dX8_init_55 rfl ?_
  refine x_sipush (v := 1784) dX8_init_57 rfl ?_
  refine x_newM (q := m + 6) (M := 8) (K := 1784) dX8_init_60 kl9_X8_29 ac9_int (by decide) (by decide) rfl rfl (by decide) (by decide) (by simp (disch := omega) only [kcs, kce, kcme, k9]) ⟨Nat.le_of_ble_eq_true rfl, Nat.le_of_ble_eq_true rfl⟩ ?_
  refine x_putF dX8_init_64 vc_X8 xin8 tyX8_ok nmX8 fb_X8_12 fl_X8_31 ff_X8_12 rfl rfl xr_X8_12 rfl rfl (by simp (disch := omega) only [kcs, kck, kcm, k0]) ?_
  refine x_aload_n 0 dX8_init_67 rfl rfl ?_
  refine x_sipush (v := 1200) dX8_init_68 rfl ?_
  refine x_newP (q := m + 15) (M := 1200) (kd := 3) dX8_init_71 rfl ac9_long (by decide) rfl (by decide) (Or.inr (Or.inr ⟨rfl, rfl, rfl⟩)) (by simp (disch := omega) only [kcs, kce, kcme, k9]) ⟨Nat.le_of_ble_eq_true rfl, Nat.le_of_ble_eq_true rfl⟩ ?_
  refine x_putF dX8_init_73 vc_X8 xin8 tyX8_ok nmX8 fb_X8_17 fl_X8_34 ff_X8_17 rfl rfl xr_X8_17 rfl rfl (by simp (disch := omega) only [kcs, kck, kcm, k0]) ?_
  refine x_aload_n 0 dX8_init_76 rfl rfl ?_
  refine x_iconst (v := 3) dX8_init_77 rfl ?_
  refine x_newP (q := m + 16) (M := 3) (kd := 1) dX8_init_78 rfl ac9_int (by decide) rfl (by decide) (Or.inl ⟨rfl, rfl, rfl⟩) (by simp (disch := omega) only [kcs, kce, kcme, k9]) ⟨Nat.le_of_ble_eq_true rfl, Nat.le_of_ble_eq_true rfl⟩ ?_
  refine x_putF dX8_init_80 vc_X8 xin8 tyX8_ok nmX8 fb_X8_18 fl_X8_38 ff_X8_18 rfl rfl xr_X8_18 rfl rfl (by simp (disch := omega) only [kcs, kck, kcm, k0]) ?_
  have b0 : kc (yX8 Y m) m = 18 := by
    unfold yX8
    simp (disch := omega) only [kcs, kck, kcm, k0]
  have b1 : gr (yX8 Y m) m 8 = some (m + 2) := (yX8_at k0).2.2.1.1
  refine x_aload_n 0 dX8_init_83 rfl rfl ?_
  refine x_getr dX8_init_84 vc_X8 xin8 fb_X8_8 fl_X8_17 xr_X8_8 b0 b1 ?_
  refine x_callS (R' := xR 1 0 0) (As := [.ref (m + 2)]) (zz := yX8_layUsual) dX8_init_87 ml_X8_41 wt_X8_layUsual wn_X8 wc_X8_layUsual hp_X8_layUsual ⟨Nat.le_of_ble_eq_true rfl, Nat.le_of_ble_eq_true rfl⟩ rfl (Nat.le_of_ble_eq_true rfl) ⟨Nat.le_of_ble_eq_true rfl, Nat.le_of_ble_eq_true rfl⟩ (T0_X8_layUsual (yX8_at k0).2.2.1.2.1 (lay_X8 (N := N) k0)) ?_
  exact x_mret dX8_init_90 rfl rfl rfl
