set_option maxHeartbeats 4000000 in
set_option maxRecDepth 100000 in
theorem T_J8_newLength_cabcc {G : XG} {Y : XY} {a0 : Int32} {a1 : Int32} {a2 : Int32} {N : XN} {rz : Int32} {Nz : XN} (h : f_J8_newLength_cabcc Y a0 a1 a2 N = some (rz, Nz)) : Cn G yJ8_newLength_cabcc cJ8_newLength_cabcc 4 (some .int) (xR 2 0 0) [.int a0, .int a1, .int a2] (some (.int rz)) Y N Y Nz := by
  refine x_entryN (by decide) (Nat.le_of_ble_eq_true rfl) rfl fun tb => ?_
  rw [f_J8_newLength_cabcc] at h
  refine x_iload_n 0 dJ8_newLength_cabcc_0 rfl rfl ?_
  refine x_iload_n 1 dJ8_newLength_cabcc_1 rfl rfl ?_
  refine x_iload_n 2 dJ8_newLength_cabcc_2 rfl rfl ?_
  obtain ⟨r1, N2, e3, h⟩ := x_bd2 h
  refine x_J9_max_7cf53 dJ8_newLength_cabcc_3 ml_J8_194 e3 (Nat.le_of_ble_eq_true rfl) (Nat.le_of_ble_eq_true rfl) (Nat.le_of_ble_eq_true rfl) ⟨Nat.le_refl _, Nat.le_refl _⟩ ?_
  refine x_iadd dJ8_newLength_cabcc_6 ?_
  refine x_istore_n (L' := [(0, .int a0), (1, .int a1), (3, .int (a0 + r1))]) [1, 2, 0] dJ8_newLength_cabcc_7 rfl (by decide) rfl ?_
  refine x_iconst (v := 0) dJ8_newLength_cabcc_8 rfl ?_
  refine x_iload_n 2 dJ8_newLength_cabcc_9 rfl rfl ?_
  rcases x_if h with ⟨c4, h⟩ | ⟨c4, h⟩
  · refine x_icmp_ge_t (tgt := 21) dJ8_newLength_cabcc_10 (by decide) c4 ?_
    refine x_iload_n 0 dJ8_newLength_cabcc_21 rfl rfl ?_
    refine x_iload_n 1 dJ8_newLength_cabcc_22 rfl rfl ?_
    cases h
  · refine x_icmp_ge_f (tgt := 21) dJ8_newLength_cabcc_10 (by decide) c4 ?_
    refine x_iload_n 2 dJ8_newLength_cabcc_13 rfl rfl ?_
    refine x_ldc (v := 2147483639) dJ8_newLength_cabcc_14 kc_J8_200 ?_
    rcases x_if h with ⟨c5, h⟩ | ⟨c5, h⟩
    · refine x_icmp_gt_t (tgt := 21) dJ8_newLength_cabcc_16 (by decide) c5 ?_
      refine x_iload_n 0 dJ8_newLength_cabcc_21 rfl rfl ?_
      refine x_iload_n 1 dJ8_newLength_cabcc_22 rfl rfl ?_
      cases h
    · refine x_icmp_gt_f (tgt := 21) dJ8_newLength_cabcc_16 (by decide) c5 ?_
      refine x_iload_n 2 dJ8_newLength_cabcc_19 rfl rfl ?_
      obtain ⟨rfl, rfl⟩ := Prod.mk.inj (x_so h)
      exact x_niret dJ8_newLength_cabcc_20 rfl rfl rfl
set_option maxHeartbeats 4000000 in
set_option maxRecDepth 100000 in
theorem T_J7_checkLength_df160 {G : XG} {Y : XY} {a0 : Int32} {a1 : Int32} {N : XN} {Nz : XN} (h : f_J7_checkLength_df160 Y a0 a1 N = some Nz) : Cn G yJ7_checkLength_df160 cJ7_checkLength_df160 2 none (xR 1 0 0) [.int a0, .int a1] none Y N Y Nz := by
  refine x_entryN (by decide) (Nat.le_of_ble_eq_true rfl) rfl fun tb => ?_
  rw [f_J7_checkLength_df160] at h
  refine x_iload_n 1 dJ7_checkLength_df160_0 rfl rfl ?_
  refine x_iload_n 0 dJ7_checkLength_df160_1 rfl rfl ?_
  rcases x_if h with ⟨c1, h⟩ | ⟨c1, h⟩
  · refine x_icmp_ge_t (tgt := 37) dJ7_checkLength_df160_2 (by decide) c1 ?_
    obtain rfl := x_so h
    exact x_nvret dJ7_checkLength_df160_37 rfl rfl rfl
  · refine x_icmp_ge_f (tgt := 37) dJ7_checkLength_df160_2 (by decide) c1 ?_
    cases h
set_option maxHeartbeats 4000000 in
set_option maxRecDepth 100000 in
theorem T_J7_copyOf_9075b {G : XG} {Y : XY} {q : Nat} {a0 : Nat} {a1 : Int32} {N : XN} {rz : Nat} {Yz : XY} {qz : Nat} {Nz : XN} (h : f_J7_copyOf_9075b Y q a0 a1 N = some (rz, Yz, qz, Nz)) : Cn G yJ7_copyOf_9075b cJ7_copyOf_9075b 3 (some (.array .byte)) (xR 2 1 400) [.ref a0, .int a1] (some (.ref rz)) Y N Yz Nz := by
  refine x_entryN (by decide) (Nat.le_of_ble_eq_true rfl) rfl fun tb => ?_
  rw [f_J7_copyOf_9075b] at h
  refine x_iload_n 1 dJ7_copyOf_9075b_0 rfl rfl ?_
  refine x_aload_n 0 dJ7_copyOf_9075b_1 rfl rfl ?_
  obtain ⟨c1, h⟩ := x_ckk h
  refine x_blenB dJ7_copyOf_9075b_2 c1 rfl ?_
  rcases x_if h with ⟨c2, h⟩ | ⟨c2, h⟩
  · refine x_icmp_ne_f (tgt := 14) dJ7_copyOf_9075b_3 (by decide) c2 ?_
    refine x_aload_n 0 dJ7_copyOf_9075b_6 rfl rfl ?_
    obtain ⟨c3, h⟩ := x_ckk h
    obtain ⟨c4, h⟩ := x_ckF h
    obtain ⟨c5, h⟩ := x_ckk h
    obtain ⟨c6, h⟩ := x_ckk h
    refine x_cloneB (q := q) dJ7_copyOf_9075b_7 mc_J7_310 c3 (fun i hi => by have := c4 i hi; rw [Nat.zero_add] at this; exact this) c5.1 ⟨Nat.le_of_ble_eq_true rfl, Nat.le_of_ble_eq_true rfl⟩ (Nat.le_of_ble_eq_true rfl) c6 ?_
    obtain ⟨Y7, eY7, h⟩ := x_lt h
    refine x_nmY eY7 ?_
    obtain ⟨N8, eN8, h⟩ := x_lt h
    refine x_nmM eN8 ?_
    have k9 : kc Y7 q = 2 := by rw [eY7]; exact kcq rfl
    refine x_castB dJ7_copyOf_9075b_10 kl9_J7_311 k9 ?_
    refine x_wide (k' := 1) (n' := 400) c6 ?_
    obtain ⟨rfl, h8⟩ := Prod.mk.inj (x_so h)
    obtain ⟨rfl, h7⟩ := Prod.mk.inj h8
    obtain ⟨rfl, rfl⟩ := Prod.mk.inj h7
    exact x_naret dJ7_copyOf_9075b_13 rfl (Or.inr ⟨_, rfl⟩) rfl rfl
  · refine x_icmp_ne_t (tgt := 14) dJ7_copyOf_9075b_3 (by decide) c2 ?_
    refine x_iload_n 1 dJ7_copyOf_9075b_14 rfl rfl ?_
    obtain ⟨c10, h⟩ := x_ckk h
    obtain ⟨c11, h⟩ := x_ckk h
    obtain ⟨c12, h⟩ := x_ckk h
    refine x_newP (q := q) (M := a1.toNatClampNeg) (kd := 2) dJ7_copyOf_9075b_15 rfl ac9_byte c10.1 rfl (by have h8 := c10.2; show a1.toNatClampNeg * 1 ≤ 536870912; omega) (Or.inr (Or.inl ⟨rfl, rfl, rfl⟩)) c11.1 c12 ?_
    obtain ⟨Y13, eY13, h⟩ := x_lt h
    refine x_nmY eY13 ?_
    obtain ⟨N14, eN14, h⟩ := x_lt h
    refine x_nmM eN14 ?_
    have k15 : kc Y13 q = 2 := by rw [eY13]; exact kcq rfl
    refine x_astore_n (L' := [(0, .ref a0), (1, .int a1), (2, .ref q)]) [1, 2, 0] dJ7_copyOf_9075b_17 rfl (by decide) rfl ?_
    refine x_aload_n 0 dJ7_copyOf_9075b_18 rfl rfl ?_
    refine x_iconst (v := 0) dJ7_copyOf_9075b_19 rfl ?_
    refine x_aload_n 2 dJ7_copyOf_9075b_20 rfl rfl ?_
    refine x_iconst (v := 0) dJ7_copyOf_9075b_21 rfl ?_
    refine x_aload_n 0 dJ7_copyOf_9075b_22 rfl rfl ?_
    obtain ⟨c16, h⟩ := x_ckk h
    refine x_blenB dJ7_copyOf_9075b_23 c16 rfl ?_
    refine x_iload_n 1 dJ7_copyOf_9075b_24 rfl rfl ?_
    obtain ⟨r17, N18, e19, h⟩ := x_bd2 h
    refine x_J9_min_7cf53 dJ7_copyOf_9075b_25 ml_J7_304 e19 (Nat.le_of_ble_eq_true rfl) (Nat.le_of_ble_eq_true rfl) (Nat.le_of_ble_eq_true rfl) c12 ?_
    obtain ⟨c20, h⟩ := x_ckk h
    obtain ⟨c21, h⟩ := x_ckk h
    obtain ⟨c22, h⟩ := x_ckk h
    obtain ⟨c23, h⟩ := x_ckF h
    refine x_acopy dJ7_copyOf_9075b_28 ml_J7_150 c16 k15 (by decide) (by decide) c20 c21 c22 c23 ⟨Nat.le_of_ble_eq_true rfl, Nat.le_of_ble_eq_true rfl⟩ (Nat.le_of_ble_eq_true rfl) ?_
    obtain ⟨N24, eN24, h⟩ := x_lt h
    refine x_nmM eN24 ?_
    refine x_aload_n 2 dJ7_copyOf_9075b_31 rfl rfl ?_
    refine x_wide (k' := 1) (n' := 400) c12 ?_
    obtain ⟨rfl, h8⟩ := Prod.mk.inj (x_so h)
    obtain ⟨rfl, h7⟩ := Prod.mk.inj h8
    obtain ⟨rfl, rfl⟩ := Prod.mk.inj h7
    exact x_naret dJ7_copyOf_9075b_32 rfl (Or.inr ⟨_, rfl⟩) rfl rfl
set_option maxHeartbeats 4000000 in
set_option maxRecDepth 100000 in
theorem T_J7_copyOfRangeByte_39247 {G : XG} {Y : XY} {q : Nat} {a0 : Nat} {a1 : Int32} {a2 : Int32} {N : XN} {rz : Nat} {Yz : XY} {qz : Nat} {Nz : XN} (h : f_J7_copyOfRangeByte_39247 Y q a0 a1 a2 N = some (rz, Yz, qz, Nz)) : Cn G yJ7_copyOfRangeByte_39247 cJ7_copyOfRangeByte_39247 5 (some (.array .byte)) (xR 2 1 400) [.ref a0, .int a1, .int a2] (some (.ref rz)) Y N Yz Nz := by
  refine x_entryN (by decide) (Nat.le_of_ble_eq_true rfl) rfl fun tb => ?_
  rw [f_J7_copyOfRangeByte_39247] at h
  refine x_iload_n 1 dJ7_copyOfRangeByte_39247_0 rfl rfl ?_
  refine x_iload_n 2 dJ7_copyOfRangeByte_39247_1 rfl rfl ?_
  obtain ⟨N2, e1, h⟩ := x_bd1 h
  refine x_nS (As := [.int a1, .int a2]) (R' := xR 1 0 0) (zz := yJ7_checkLength_df160) dJ7_copyOfRangeByte_39247_2 ml_J7_343 wt_J7_checkLength_df160 wn_J7 wc_J7_checkLength_df160 hp_J7_checkLength_df160 ⟨Nat.le_of_ble_eq_true rfl, Nat.le_of_ble_eq_true rfl⟩ rfl (Nat.le_of_ble_eq_true rfl) ⟨Nat.le_of_ble_eq_true rfl, Nat.le_of_ble_eq_true rfl⟩ (T_J7_checkLength_df160 (G := G) e1) ?_
  refine x_iload_n 2 dJ7_copyOfRangeByte_39247_5 rfl rfl ?_
  refine x_iload_n 1 dJ7_copyOfRangeByte_39247_6 rfl rfl ?_
  refine x_isub dJ7_copyOfRangeByte_39247_7 ?_
  refine x_istore_n (L' := [(0, .ref a0), (1, .int a1), (3, .int (a2 - a1))]) [1, 2, 0] dJ7_copyOfRangeByte_39247_8 rfl (by decide) rfl ?_
  refine x_iload_n 2 dJ7_copyOfRangeByte_39247_9 rfl rfl ?_
  obtain ⟨c3, h⟩ := x_ckk h
  obtain ⟨c4, h⟩ := x_ckk h
  obtain ⟨c5, h⟩ := x_ckk h
  refine x_newP (q := q) (M := (a2 - a1).toNatClampNeg) (kd := 2) dJ7_copyOfRangeByte_39247_10 rfl ac9_byte c3.1 rfl (by have h8 := c3.2; show (a2 - a1).toNatClampNeg * 1 ≤ 536870912; omega) (Or.inr (Or.inl ⟨rfl, rfl, rfl⟩)) c4.1 c5 ?_
  obtain ⟨Y6, eY6, h⟩ := x_lt h
  refine x_nmY eY6 ?_
  obtain ⟨N7, eN7, h⟩ := x_lt h
  refine x_nmM eN7 ?_
  have k8 : kc Y6 q = 2 := by rw [eY6]; exact kcq rfl
  refine x_astore (L' := [(0, .ref a0), (1, .int a1), (3, .int (a2 - a1)), (4, .ref q)]) [1, 2, 3, 0] dJ7_copyOfRangeByte_39247_12 (by decide) rfl ?_
  refine x_aload_n 0 dJ7_copyOfRangeByte_39247_14 rfl rfl ?_
  refine x_iload_n 1 dJ7_copyOfRangeByte_39247_15 rfl rfl ?_
  refine x_aload 3 dJ7_copyOfRangeByte_39247_16 rfl ?_
  refine x_iconst (v := 0) dJ7_copyOfRangeByte_39247_18 rfl ?_
  refine x_aload_n 0 dJ7_copyOfRangeByte_39247_19 rfl rfl ?_
  obtain ⟨c9, h⟩ := x_ckk h
  refine x_blenB dJ7_copyOfRangeByte_39247_20 c9 rfl ?_
  refine x_iload_n 1 dJ7_copyOfRangeByte_39247_21 rfl rfl ?_
  refine x_isub dJ7_copyOfRangeByte_39247_22 ?_
  refine x_iload_n 2 dJ7_copyOfRangeByte_39247_23 rfl rfl ?_
  obtain ⟨r10, N11, e12, h⟩ := x_bd2 h
  refine x_J9_min_7cf53 dJ7_copyOfRangeByte_39247_24 ml_J7_304 e12 (Nat.le_of_ble_eq_true rfl) (Nat.le_of_ble_eq_true rfl) (Nat.le_of_ble_eq_true rfl) c5 ?_
  obtain ⟨c13, h⟩ := x_ckk h
  obtain ⟨c14, h⟩ := x_ckk h
  obtain ⟨c15, h⟩ := x_ckk h
  obtain ⟨c16, h⟩ := x_ckk h
  obtain ⟨c17, h⟩ := x_ckF h
  refine x_acopy dJ7_copyOfRangeByte_39247_27 ml_J7_150 c9 k8 c13 (by decide) c14 c15 c16 c17 ⟨Nat.le_of_ble_eq_true rfl, Nat.le_of_ble_eq_true rfl⟩ (Nat.le_of_ble_eq_true rfl) ?_
  obtain ⟨N18, eN18, h⟩ := x_lt h
  refine x_nmM eN18 ?_
  refine x_aload 3 dJ7_copyOfRangeByte_39247_30 rfl ?_
  refine x_wide (k' := 1) (n' := 400) c5 ?_
  obtain ⟨rfl, h8⟩ := Prod.mk.inj (x_so h)
  obtain ⟨rfl, h7⟩ := Prod.mk.inj h8
  obtain ⟨rfl, rfl⟩ := Prod.mk.inj h7
  exact x_naret dJ7_copyOfRangeByte_39247_32 rfl (Or.inr ⟨_, rfl⟩) rfl rfl
set_option maxHeartbeats 4000000 in
set_option maxRecDepth 100000 in
theorem T_J7_copyOfRange_39247 {G : XG} {Y : XY} {q : Nat} {a0 : Nat} {a1 : Int32} {a2 : Int32} {N : XN} {rz : Nat} {Yz : XY} {qz : Nat} {Nz : XN} (h : f_J7_copyOfRange_39247 Y q a0 a1 a2 N = some (rz, Yz, qz, Nz)) : Cn G yJ7_copyOfRange_39247 cJ7_copyOfRange_39247 3 (some (.array .byte)) (xR 3 1 400) [.ref a0, .int a1, .int a2] (some (.ref rz)) Y N Yz Nz := by
  refine x_entryN (by decide) (Nat.le_of_ble_eq_true rfl) rfl fun tb => ?_
  rw [f_J7_copyOfRange_39247] at h
  refine x_iload_n 1 dJ7_copyOfRange_39247_0 rfl rfl ?_
  rcases x_if h with ⟨c1, h⟩ | ⟨c1, h⟩
  · refine x_if_ne_f (tgt := 10) dJ7_copyOfRange_39247_1 (by decide) c1 ?_
    refine x_iload_n 2 dJ7_copyOfRange_39247_4 rfl rfl ?_
    refine x_aload_n 0 dJ7_copyOfRange_39247_5 rfl rfl ?_
    obtain ⟨c2, h⟩ := x_ckk h
    refine x_blenB dJ7_copyOfRange_39247_6 c2 rfl ?_
    rcases x_if h with ⟨c3, h⟩ | ⟨c3, h⟩
    · refine x_icmp_eq_t (tgt := 17) dJ7_copyOfRange_39247_7 (by decide) c3 ?_
      refine x_aload_n 0 dJ7_copyOfRange_39247_17 rfl rfl ?_
      obtain ⟨c4, h⟩ := x_ckk h
      obtain ⟨c5, h⟩ := x_ckF h
      obtain ⟨c6, h⟩ := x_ckk h
      obtain ⟨c7, h⟩ := x_ckk h
      refine x_cloneB (q := q) dJ7_copyOfRange_39247_18 mc_J7_310 c4 (fun i hi => by have := c5 i hi; rw [Nat.zero_add] at this; exact this) c6.1 ⟨Nat.le_of_ble_eq_true rfl, Nat.le_of_ble_eq_true rfl⟩ (Nat.le_of_ble_eq_true rfl) c7 ?_
      obtain ⟨Y8, eY8, h⟩ := x_lt h
      refine x_nmY eY8 ?_
      obtain ⟨N9, eN9, h⟩ := x_lt h
      refine x_nmM eN9 ?_
      have k10 : kc Y8 q = 2 := by rw [eY8]; exact kcq rfl
      refine x_castB dJ7_copyOfRange_39247_21 kl9_J7_311 k10 ?_
      refine x_wide (k' := 1) (n' := 400) c7 ?_
      obtain ⟨rfl, h8⟩ := Prod.mk.inj (x_so h)
      obtain ⟨rfl, h7⟩ := Prod.mk.inj h8
      obtain ⟨rfl, rfl⟩ := Prod.mk.inj h7
      exact x_naret dJ7_copyOfRange_39247_24 rfl (Or.inr ⟨_, rfl⟩) rfl rfl
    · refine x_icmp_eq_f (tgt := 17) dJ7_copyOfRange_39247_7 (by decide) c3 ?_
      refine x_aload_n 0 dJ7_copyOfRange_39247_10 rfl rfl ?_
      refine x_iload_n 1 dJ7_copyOfRange_39247_11 rfl rfl ?_
      refine x_iload_n 2 dJ7_copyOfRange_39247_12 rfl rfl ?_
      obtain ⟨r11, Y13, q14, N15, e12, h⟩ := x_bd4 h
      refine x_nS (As := [.ref a0, .int a1, .int a2]) (R' := xR 2 1 400) (zz := yJ7_copyOfRangeByte_39247) dJ7_copyOfRange_39247_13 ml_J7_339 wt_J7_copyOfRangeByte_39247 wn_J7 wc_J7_copyOfRangeByte_39247 hp_J7_copyOfRangeByte_39247 ⟨Nat.le_of_ble_eq_true rfl, Nat.le_of_ble_eq_true rfl⟩ rfl (Nat.le_of_ble_eq_true rfl) ⟨Nat.le_of_ble_eq_true rfl, Nat.le_of_ble_eq_true rfl⟩ (T_J7_copyOfRangeByte_39247 (G := G) e12) ?_
      refine x_wide (k' := 1) (n' := 400) ⟨Nat.le_of_ble_eq_true rfl, Nat.le_of_ble_eq_true rfl⟩ ?_
      obtain ⟨rfl, h8⟩ := Prod.mk.inj (x_so h)
      obtain ⟨rfl, h7⟩ := Prod.mk.inj h8
      obtain ⟨rfl, rfl⟩ := Prod.mk.inj h7
      exact x_naret dJ7_copyOfRange_39247_16 rfl (Or.inr ⟨_, rfl⟩) rfl rfl
  · refine x_if_ne_t (tgt := 10) dJ7_copyOfRange_39247_1 (by decide) c1 ?_
    refine x_aload_n 0 dJ7_copyOfRange_39247_10 rfl rfl ?_
    refine x_iload_n 1 dJ7_copyOfRange_39247_11 rfl rfl ?_
    refine x_iload_n 2 dJ7_copyOfRange_39247_12 rfl rfl ?_
    obtain ⟨r16, Y18, q19, N20, e17, h⟩ := x_bd4 h
    refine x_nS (As := [.ref a0, .int a1, .int a2]) (R' := xR 2 1 400) (zz := yJ7_copyOfRangeByte_39247) dJ7_copyOfRange_39247_13 ml_J7_339 wt_J7_copyOfRangeByte_39247 wn_J7 wc_J7_copyOfRangeByte_39247 hp_J7_copyOfRangeByte_39247 ⟨Nat.le_of_ble_eq_true rfl, Nat.le_of_ble_eq_true rfl⟩ rfl (Nat.le_of_ble_eq_true rfl) ⟨Nat.le_of_ble_eq_true rfl, Nat.le_of_ble_eq_true rfl⟩ (T_J7_copyOfRangeByte_39247 (G := G) e17) ?_
    refine x_wide (k' := 1) (n' := 400) ⟨Nat.le_of_ble_eq_true rfl, Nat.le_of_ble_eq_true rfl⟩ ?_
    obtain ⟨rfl, h8⟩ := Prod.mk.inj (x_so h)
    obtain ⟨rfl, h7⟩ := Prod.mk.inj h8
    obtain ⟨rfl, rfl⟩ := Prod.mk.inj h7
    exact x_naret dJ7_copyOfRange_39247_16 rfl (Or.inr ⟨_, rfl⟩) rfl rfl
set_option maxHeartbeats 4000000 in
set_option maxRecDepth 100000 in
theorem T_J6_stringSize_0f7a4_16 {G : XG} {tb : List ExceptionTableEntry} {Y : XY} {rz : Int32} {Nz : XN} : ∀ (D9 : Nat) (v_0 : Int32) (v_1 : Int32) (v_2 : Int32) (v_3 : Int32) (N : XN), f_J6_stringSize_0f7a4_16 Y D9 v_0 v_1 v_2 v_3 N = some (rz, Nz) → ExZ G yJ6_stringSize_0f7a4 cJ6_stringSize_0f7a4 4 (some .int) tb (xR 1 0 0) (xZn G (xR 1 0 0) (some (.int rz)) Y Nz) 0 0 16 [(0, .int v_0), (1, .int v_1), (2, .int v_2), (3, .int v_3)] [] Y N := by
  intro D9
  induction D9 with
  | zero => intro v_0 v_1 v_2 v_3 N h; exact nomatch (show none = some _ from h)
  | succ D9 ih =>
    intro v_0 v_1 v_2 v_3 N h
    rw [f_J6_stringSize_0f7a4_16] at h
    refine x_iload_n 3 dJ6_stringSize_0f7a4_16 rfl rfl ?_
    refine x_bipush (v := 10) dJ6_stringSize_0f7a4_17 rfl ?_
    rcases x_if h with ⟨c1, h⟩ | ⟨c1, h⟩
    · refine x_icmp_ge_t (tgt := 42) dJ6_stringSize_0f7a4_19 (by decide) c1 ?_
      refine x_bipush (v := 10) dJ6_stringSize_0f7a4_42 rfl ?_
      refine x_iload_n 1 dJ6_stringSize_0f7a4_44 rfl rfl ?_
      refine x_iadd dJ6_stringSize_0f7a4_45 ?_
      obtain ⟨rfl, rfl⟩ := Prod.mk.inj (x_so h)
      exact x_niret dJ6_stringSize_0f7a4_46 rfl rfl rfl
    · refine x_icmp_ge_f (tgt := 42) dJ6_stringSize_0f7a4_19 (by decide) c1 ?_
      refine x_iload_n 0 dJ6_stringSize_0f7a4_22 rfl rfl ?_
      refine x_iload_n 2 dJ6_stringSize_0f7a4_23 rfl rfl ?_
      rcases x_if h with ⟨c2, h⟩ | ⟨c2, h⟩
      · refine x_icmp_le_t (tgt := 31) dJ6_stringSize_0f7a4_24 (by decide) c2 ?_
        refine x_bipush (v := 10) dJ6_stringSize_0f7a4_31 rfl ?_
        refine x_iload_n 2 dJ6_stringSize_0f7a4_33 rfl rfl ?_
        refine x_imul dJ6_stringSize_0f7a4_34 ?_
        refine x_istore_n (L' := [(0, .int v_0), (1, .int v_1), (2, .int (10 * v_2)), (3, .int v_3)]) [1, 2, 0, 3] dJ6_stringSize_0f7a4_35 rfl (by decide) rfl ?_
        refine x_iinc (L' := [(0, .int v_0), (1, .int v_1), (2, .int (10 * v_2)), (3, .int (v_3 + 1))]) 3 [1, 2, 3, 0] dJ6_stringSize_0f7a4_36 rfl rfl (by decide) rfl ?_
        refine x_goto (tgt := 16) dJ6_stringSize_0f7a4_39 (by decide) ?_
        exact ih v_0 v_1 (10 * v_2) (v_3 + 1) N h
      · refine x_icmp_le_f (tgt := 31) dJ6_stringSize_0f7a4_24 (by decide) c2 ?_
        refine x_iload_n 3 dJ6_stringSize_0f7a4_27 rfl rfl ?_
        refine x_iload_n 1 dJ6_stringSize_0f7a4_28 rfl rfl ?_
        refine x_iadd dJ6_stringSize_0f7a4_29 ?_
        obtain ⟨rfl, rfl⟩ := Prod.mk.inj (x_so h)
        exact x_niret dJ6_stringSize_0f7a4_30 rfl rfl rfl
set_option maxHeartbeats 4000000 in
set_option maxRecDepth 100000 in
theorem T_J6_stringSize_0f7a4 {G : XG} {Y : XY} {a0 : Int32} {N : XN} {rz : Int32} {Nz : XN} (h : f_J6_stringSize_0f7a4 Y a0 N = some (rz, Nz)) : Cn G yJ6_stringSize_0f7a4 cJ6_stringSize_0f7a4 4 (some .int) (xR 1 0 0) [.int a0] (some (.int rz)) Y N Y Nz := by
  refine x_entryN (by decide) (Nat.le_of_ble_eq_true rfl) rfl fun tb => ?_
  rw [f_J6_stringSize_0f7a4] at h
  refine x_iconst (v := 1) dJ6_stringSize_0f7a4_0 rfl ?_
  refine x_istore_n (L' := [(0, .int a0), (1, .int 1)]) [1, 0] dJ6_stringSize_0f7a4_1 rfl (by decide) rfl ?_
  refine x_iload_n 0 dJ6_stringSize_0f7a4_2 rfl rfl ?_
  rcases x_if h with ⟨c1, h⟩ | ⟨c1, h⟩
  · refine x_if_lt_t (tgt := 11) dJ6_stringSize_0f7a4_3 (by decide) c1 ?_
    refine x_bipush (v := (-10)) dJ6_stringSize_0f7a4_11 rfl ?_
    refine x_istore_n (L' := [(0, .int a0), (1, .int 1), (2, .int (-10))]) [1, 2, 0] dJ6_stringSize_0f7a4_13 rfl (by decide) rfl ?_
    refine x_iconst (v := 1) dJ6_stringSize_0f7a4_14 rfl ?_
    refine x_istore_n (L' := [(0, .int a0), (1, .int 1), (2, .int (-10)), (3, .int 1)]) [1, 2, 3, 0] dJ6_stringSize_0f7a4_15 rfl (by decide) rfl ?_
    exact T_J6_stringSize_0f7a4_16 (G := G) FU a0 1 (-10) 1 N h
  · refine x_if_lt_f (tgt := 11) dJ6_stringSize_0f7a4_3 (by decide) c1 ?_
    refine x_iconst (v := 0) dJ6_stringSize_0f7a4_6 rfl ?_
    refine x_istore_n (L' := [(0, .int a0), (1, .int 0)]) [1, 0] dJ6_stringSize_0f7a4_7 rfl (by decide) rfl ?_
    refine x_iload_n 0 dJ6_stringSize_0f7a4_8 rfl rfl ?_
    refine x_ineg dJ6_stringSize_0f7a4_9 ?_
    refine x_istore_n (L' := [(0, .int (-a0)), (1, .int 0)]) [0, 1] dJ6_stringSize_0f7a4_10 rfl (by decide) rfl ?_
    refine x_bipush (v := (-10)) dJ6_stringSize_0f7a4_11 rfl ?_
    refine x_istore_n (L' := [(0, .int (-a0)), (1, .int 0), (2, .int (-10))]) [1, 2, 0] dJ6_stringSize_0f7a4_13 rfl (by decide) rfl ?_
    refine x_iconst (v := 1) dJ6_stringSize_0f7a4_14 rfl ?_
    refine x_istore_n (L' := [(0, .int (-a0)), (1, .int 0), (2, .int (-10)), (3, .int 1)]) [1, 2, 3, 0] dJ6_stringSize_0f7a4_15 rfl (by decide) rfl ?_
    exact T_J6_stringSize_0f7a4_16 (G := G) FU (-a0) 0 (-10) 1 N h
set_option maxHeartbeats 4000000 in
set_option maxRecDepth 100000 in
theorem T_J6_getChars_ba4f3_22 {G : XG} {tb : List ExceptionTableEntry} {Y : XY} {rz : Int32} {Nz : XN} : ∀ (D9 : Nat) (v_0 : Int32) (p_2 : Nat) (v_5 : Int32) (v_6 : Int32) (N : XN), f_J6_getChars_ba4f3_22 (xS G) (xSv G) Y D9 v_0 p_2 v_5 v_6 N = some (rz, Nz) → ExZ G yJ6_getChars_ba4f3 cJ6_getChars_ba4f3 7 (some .int) tb (xR 1 0 0) (xZn G (xR 1 0 0) (some (.int rz)) Y Nz) 0 0 22 [(0, .int v_0), (2, .ref p_2), (5, .int v_5), (6, .int v_6)] [] Y N := by
  intro D9
  induction D9 with
  | zero => intro v_0 p_2 v_5 v_6 N h; exact nomatch (show none = some _ from h)
  | succ D9 ih =>
    intro v_0 p_2 v_5 v_6 N h
    rw [f_J6_getChars_ba4f3_22] at h
    refine x_iload_n 0 dJ6_getChars_ba4f3_22 rfl rfl ?_
    refine x_bipush (v := (-100)) dJ6_getChars_ba4f3_23 rfl ?_
    rcases x_if h with ⟨c1, h⟩ | ⟨c1, h⟩
    · refine x_icmp_gt_t (tgt := 72) dJ6_getChars_ba4f3_25 (by decide) c1 ?_
      refine x_aload_n 1 dJ6_getChars_ba4f3_72 rfl rfl ?_
      refine x_iinc (L' := [(0, .int v_0), (2, .ref p_2), (5, .int (v_5 + (-1))), (6, .int v_6)]) 2 [1, 2, 0, 3] dJ6_getChars_ba4f3_73 rfl rfl (by decide) rfl ?_
      refine x_iload 2 dJ6_getChars_ba4f3_76 rfl ?_
      refine x_getsJ (i := 100) dJ6_getChars_ba4f3_78 (by decide) fs_J6_83 ?_
      refine x_iload_n 0 dJ6_getChars_ba4f3_81 rfl rfl ?_
      refine x_ineg dJ6_getChars_ba4f3_82 ?_
      obtain ⟨c2, h⟩ := x_ckk h
      obtain ⟨c3, h⟩ := x_ckk h
      refine x_baldB dJ6_getChars_ba4f3_83 c2 (xb_in c3) ?_
      obtain ⟨c4, h⟩ := x_ckk h
      obtain ⟨c5, h⟩ := x_ckk h
      refine x_bast dJ6_getChars_ba4f3_84 c4 (xb_in c5) rfl ?_
      obtain ⟨N6, eN6, h⟩ := x_lt h
      refine x_nmM eN6 ?_
      refine x_iload_n 0 dJ6_getChars_ba4f3_85 rfl rfl ?_
      refine x_bipush (v := (-9)) dJ6_getChars_ba4f3_86 rfl ?_
      rcases x_if h with ⟨c7, h⟩ | ⟨c7, h⟩
      · refine x_icmp_ge_t (tgt := 104) dJ6_getChars_ba4f3_88 (by decide) c7 ?_
        refine x_iload 3 dJ6_getChars_ba4f3_104 rfl ?_
        rcases x_if h with ⟨c8, h⟩ | ⟨c8, h⟩
        · refine x_if_eq_t (tgt := 118) dJ6_getChars_ba4f3_106 (by decide) c8 ?_
          refine x_iload 2 dJ6_getChars_ba4f3_118 rfl ?_
          obtain ⟨rfl, rfl⟩ := Prod.mk.inj (x_so h)
          exact x_niret dJ6_getChars_ba4f3_120 rfl rfl rfl
        · refine x_if_eq_f (tgt := 118) dJ6_getChars_ba4f3_106 (by decide) c8 ?_
          refine x_aload_n 1 dJ6_getChars_ba4f3_109 rfl rfl ?_
          refine x_iinc (L' := [(5, .int ((v_5 + (-1)) + (-1)))]) 2 [0] dJ6_getChars_ba4f3_110 rfl rfl (by decide) rfl ?_
          refine x_iload 0 dJ6_getChars_ba4f3_113 rfl ?_
          refine x_bipush (v := 45) dJ6_getChars_ba4f3_115 rfl ?_
          obtain ⟨c9, h⟩ := x_ckk h
          refine x_bast dJ6_getChars_ba4f3_117 c4 (xb_in c9) rfl ?_
          obtain ⟨N10, eN10, h⟩ := x_lt h
          refine x_nmM eN10 ?_
          refine x_iload 0 dJ6_getChars_ba4f3_118 rfl ?_
          obtain ⟨rfl, rfl⟩ := Prod.mk.inj (x_so h)
          exact x_niret dJ6_getChars_ba4f3_120 rfl rfl rfl
      · refine x_icmp_ge_f (tgt := 104) dJ6_getChars_ba4f3_88 (by decide) c7 ?_
        refine x_aload_n 1 dJ6_getChars_ba4f3_91 rfl rfl ?_
        refine x_iinc (L' := [(0, .int v_0), (2, .ref p_2), (5, .int ((v_5 + (-1)) + (-1))), (6, .int v_6)]) 2 [1, 2, 0, 3] dJ6_getChars_ba4f3_92 rfl rfl (by decide) rfl ?_
        refine x_iload 2 dJ6_getChars_ba4f3_95 rfl ?_
        refine x_getsJ (i := 101) dJ6_getChars_ba4f3_97 (by decide) fs_J6_87 ?_
        refine x_iload_n 0 dJ6_getChars_ba4f3_100 rfl rfl ?_
        refine x_ineg dJ6_getChars_ba4f3_101 ?_
        obtain ⟨c11, h⟩ := x_ckk h
        obtain ⟨c12, h⟩ := x_ckk h
        refine x_baldB dJ6_getChars_ba4f3_102 c11 (xb_in c12) ?_
        obtain ⟨c13, h⟩ := x_ckk h
        refine x_bast dJ6_getChars_ba4f3_103 c4 (xb_in c13) rfl ?_
        obtain ⟨N14, eN14, h⟩ := x_lt h
        refine x_nmM eN14 ?_
        refine x_iload 3 dJ6_getChars_ba4f3_104 rfl ?_
        rcases x_if h with ⟨c15, h⟩ | ⟨c15, h⟩
        · refine x_if_eq_t (tgt := 118) dJ6_getChars_ba4f3_106 (by decide) c15 ?_
          refine x_iload 2 dJ6_getChars_ba4f3_118 rfl ?_
          obtain ⟨rfl, rfl⟩ := Prod.mk.inj (x_so h)
          exact x_niret dJ6_getChars_ba4f3_120 rfl rfl rfl
        · refine x_if_eq_f (tgt := 118) dJ6_getChars_ba4f3_106 (by decide) c15 ?_
          refine x_aload_n 1 dJ6_getChars_ba4f3_109 rfl rfl ?_
          refine x_iinc (L' := [(5, .int (((v_5 + (-1)) + (-1)) + (-1)))]) 2 [0] dJ6_getChars_ba4f3_110 rfl rfl (by decide) rfl ?_
          refine x_iload 0 dJ6_getChars_ba4f3_113 rfl ?_
          refine x_bipush (v := 45) dJ6_getChars_ba4f3_115 rfl ?_
          obtain ⟨c16, h⟩ := x_ckk h
          refine x_bast dJ6_getChars_ba4f3_117 c4 (xb_in c16) rfl ?_
          obtain ⟨N17, eN17, h⟩ := x_lt h
          refine x_nmM eN17 ?_
          refine x_iload 0 dJ6_getChars_ba4f3_118 rfl ?_
          obtain ⟨rfl, rfl⟩ := Prod.mk.inj (x_so h)
          exact x_niret dJ6_getChars_ba4f3_120 rfl rfl rfl
    · refine x_icmp_gt_f (tgt := 72) dJ6_getChars_ba4f3_25 (by decide) c1 ?_
      refine x_iload_n 0 dJ6_getChars_ba4f3_28 rfl rfl ?_
      refine x_bipush (v := 100) dJ6_getChars_ba4f3_29 rfl ?_
      refine x_idiv dJ6_getChars_ba4f3_31 (by decide) ?_
      refine x_istore_n (L' := [(0, .int v_0), (2, .ref p_2), (3, .int (v_0 / 100)), (5, .int v_5), (6, .int v_6)]) [1, 2, 0, 3, 4] dJ6_getChars_ba4f3_32 rfl (by decide) rfl ?_
      refine x_iload_n 2 dJ6_getChars_ba4f3_33 rfl rfl ?_
      refine x_bipush (v := 100) dJ6_getChars_ba4f3_34 rfl ?_
      refine x_imul dJ6_getChars_ba4f3_36 ?_
      refine x_iload_n 0 dJ6_getChars_ba4f3_37 rfl rfl ?_
      refine x_isub dJ6_getChars_ba4f3_38 ?_
      obtain ⟨v18, ev18, h⟩ := x_lt h
      refine x_nmi ev18 ?_
      refine x_istore (L' := [(2, .ref p_2), (3, .int (v_0 / 100)), (4, .int v18), (5, .int v_5), (6, .int v_6)]) [2, 3, 0, 4, 5] dJ6_getChars_ba4f3_39 (by decide) rfl ?_
      refine x_iload_n 1 dJ6_getChars_ba4f3_41 rfl rfl ?_
      refine x_istore_n (L' := [(0, .int (v_0 / 100)), (2, .ref p_2), (4, .int v18), (5, .int v_5), (6, .int v_6)]) [0, 1, 3, 4, 5] dJ6_getChars_ba4f3_42 rfl (by decide) rfl ?_
      refine x_aload_n 1 dJ6_getChars_ba4f3_43 rfl rfl ?_
      refine x_iinc (L' := [(0, .int (v_0 / 100)), (2, .ref p_2), (4, .int v18), (5, .int (v_5 + (-1))), (6, .int v_6)]) 3 [1, 2, 3, 0, 4] dJ6_getChars_ba4f3_44 rfl rfl (by decide) rfl ?_
      refine x_iload 3 dJ6_getChars_ba4f3_47 rfl ?_
      refine x_getsJ (i := 100) dJ6_getChars_ba4f3_49 (by decide) fs_J6_83 ?_
      refine x_iload 2 dJ6_getChars_ba4f3_52 rfl ?_
      obtain ⟨c19, h⟩ := x_ckk h
      obtain ⟨c20, h⟩ := x_ckk h
      refine x_baldB dJ6_getChars_ba4f3_54 c19 (xb_in c20) ?_
      obtain ⟨c21, h⟩ := x_ckk h
      obtain ⟨c22, h⟩ := x_ckk h
      refine x_bast dJ6_getChars_ba4f3_55 c21 (xb_in c22) rfl ?_
      obtain ⟨N23, eN23, h⟩ := x_lt h
      refine x_nmM eN23 ?_
      refine x_aload_n 1 dJ6_getChars_ba4f3_56 rfl rfl ?_
      refine x_iinc (L' := [(0, .int (v_0 / 100)), (2, .ref p_2), (4, .int v18), (5, .int ((v_5 + (-1)) + (-1))), (6, .int v_6)]) 3 [1, 2, 3, 0, 4] dJ6_getChars_ba4f3_57 rfl rfl (by decide) rfl ?_
      refine x_iload 3 dJ6_getChars_ba4f3_60 rfl ?_
      refine x_getsJ (i := 101) dJ6_getChars_ba4f3_62 (by decide) fs_J6_87 ?_
      refine x_iload 2 dJ6_getChars_ba4f3_65 rfl ?_
      obtain ⟨c24, h⟩ := x_ckk h
      obtain ⟨c25, h⟩ := x_ckk h
      refine x_baldB dJ6_getChars_ba4f3_67 c24 (xb_in c25) ?_
      obtain ⟨c26, h⟩ := x_ckk h
      refine x_bast dJ6_getChars_ba4f3_68 c21 (xb_in c26) rfl ?_
      obtain ⟨N27, eN27, h⟩ := x_lt h
      refine x_nmM eN27 ?_
      refine x_goto (tgt := 22) dJ6_getChars_ba4f3_69 (by decide) ?_
      refine x_sub (L' := [(0, .int (v_0 / 100)), (2, .ref p_2), (5, .int ((v_5 + (-1)) + (-1))), (6, .int v_6)]) [0, 1, 3, 4] rfl ?_
      exact ih (v_0 / 100) p_2 ((v_5 + (-1)) + (-1)) v_6 N27 h
set_option maxHeartbeats 4000000 in
set_option maxRecDepth 100000 in
theorem T_J6_getChars_ba4f3 {G : XG} {Y : XY} {a0 : Int32} {a1 : Int32} {a2 : Nat} {N : XN} {rz : Int32} {Nz : XN} (h : f_J6_getChars_ba4f3 (xS G) (xSv G) Y a0 a1 a2 N = some (rz, Nz)) : Cn G yJ6_getChars_ba4f3 cJ6_getChars_ba4f3 7 (some .int) (xR 1 0 0) [.int a0, .int a1, .ref a2] (some (.int rz)) Y N Y Nz := by
  refine x_entryN (by decide) (Nat.le_of_ble_eq_true rfl) rfl fun tb => ?_
  rw [f_J6_getChars_ba4f3] at h
  refine x_iload_n 1 dJ6_getChars_ba4f3_0 rfl rfl ?_
  refine x_istore (L' := [(0, .int a0), (2, .ref a2), (5, .int a1)]) [1, 3, 0] dJ6_getChars_ba4f3_1 (by decide) rfl ?_
  refine x_iload_n 0 dJ6_getChars_ba4f3_3 rfl rfl ?_
  rcases x_if h with ⟨c1, h⟩ | ⟨c1, h⟩
  · refine x_if_ge_t (tgt := 11) dJ6_getChars_ba4f3_4 (by decide) c1 ?_
    refine x_iconst (v := 0) dJ6_getChars_ba4f3_11 rfl ?_
    refine x_istore (L' := [(0, .int a0), (2, .ref a2), (5, .int a1), (6, .int 0)]) [1, 2, 3, 0] dJ6_getChars_ba4f3_12 (by decide) rfl ?_
    refine x_iload 3 dJ6_getChars_ba4f3_14 rfl ?_
    refine x_if_ne_f (tgt := 22) dJ6_getChars_ba4f3_16 (by decide) (by decide) ?_
    refine x_iload_n 0 dJ6_getChars_ba4f3_19 rfl rfl ?_
    refine x_ineg dJ6_getChars_ba4f3_20 ?_
    refine x_istore_n (L' := [(0, .int (-a0)), (2, .ref a2), (5, .int a1), (6, .int 0)]) [0, 1, 2, 3] dJ6_getChars_ba4f3_21 rfl (by decide) rfl ?_
    exact T_J6_getChars_ba4f3_22 (G := G) FU (-a0) a2 a1 0 N h
  · refine x_if_ge_f (tgt := 11) dJ6_getChars_ba4f3_4 (by decide) c1 ?_
    refine x_iconst (v := 1) dJ6_getChars_ba4f3_7 rfl ?_
    refine x_goto (tgt := 12) dJ6_getChars_ba4f3_8 (by decide) ?_
    refine x_istore (L' := [(0, .int a0), (2, .ref a2), (5, .int a1), (6, .int 1)]) [1, 2, 3, 0] dJ6_getChars_ba4f3_12 (by decide) rfl ?_
    refine x_iload 3 dJ6_getChars_ba4f3_14 rfl ?_
    refine x_if_ne_t (tgt := 22) dJ6_getChars_ba4f3_16 (by decide) (by decide) ?_
    exact T_J6_getChars_ba4f3_22 (G := G) FU a0 a2 a1 1 N h
set_option maxHeartbeats 4000000 in
set_option maxRecDepth 100000 in
theorem T_J5_init_d00df {G : XG} {Y : XY} {q : Nat} {a0 : Nat} {a1 : Int32} {N : XN} {Yz : XY} {qz : Nat} {Nz : XN} (h : f_J5_init_d00df Y q a0 a1 N = some (Yz, qz, Nz)) : Cn G yJ5_init_d00df cJ5_init_d00df 2 none (xR 1 1 16) [.ref a0, .int a1] none Y N Yz Nz := by
  refine x_entryN (by decide) (Nat.le_of_ble_eq_true rfl) rfl fun tb => ?_
  rw [f_J5_init_d00df] at h
  refine x_aload_n 0 dJ5_init_d00df_0 rfl rfl ?_
  refine x_super dJ5_init_d00df_1 oi_J5_3 oi_i oi_c (by decide) (Nat.le_of_ble_eq_true rfl) (Nat.le_of_ble_eq_true rfl) ?_
  refine x_getsC dJ5_init_d00df_4 fs_J5_18 ?_
  refine x_if_eq_f (tgt := 25) dJ5_init_d00df_7 (by decide) (by decide) ?_
  refine x_aload_n 0 dJ5_init_d00df_10 rfl rfl ?_
  refine x_iload_n 1 dJ5_init_d00df_11 rfl rfl ?_
  obtain ⟨c1, h⟩ := x_ckk h
  obtain ⟨c2, h⟩ := x_ckk h
  obtain ⟨c3, h⟩ := x_ckk h
  refine x_newP (q := q) (M := a1.toNatClampNeg) (kd := 2) dJ5_init_d00df_12 rfl ac9_byte c1.1 rfl (by have h8 := c1.2; show a1.toNatClampNeg * 1 ≤ 536870912; omega) (Or.inr (Or.inl ⟨rfl, rfl, rfl⟩)) c2.1 c3 ?_
  obtain ⟨Y4, eY4, h⟩ := x_lt h
  refine x_nmY eY4 ?_
  obtain ⟨N5, eN5, h⟩ := x_lt h
  refine x_nmM eN5 ?_
  have k6 : kc Y4 q = 2 := by rw [eY4]; exact kcq rfl
  obtain ⟨c7, h⟩ := x_ckk h
  refine x_putr dJ5_init_d00df_14 vc_J4 xin12 tyJ4_ok nmJ4 fb_J4_0 fl_J5_15 ff_J4_0 xr_J4_0 rfl rfl c7 ?_
  obtain ⟨Y8, eY8, h⟩ := x_lt h
  refine x_nmY eY8 ?_
  refine x_aload_n 0 dJ5_init_d00df_17 rfl rfl ?_
  refine x_iconst (v := 0) dJ5_init_d00df_18 rfl ?_
  have k9 : kc Y8 a0 = 22 := by rw [eY8]; exact c7
  refine x_puti dJ5_init_d00df_19 vc_J4 xin12 tyJ4_ok nmJ4 fb_J4_1 fl_J5_22 ff_J4_1 xr_J4_1 rfl rfl k9 ?_
  obtain ⟨N10, eN10, h⟩ := x_lt h
  refine x_nmM eN10 ?_
  refine x_goto (tgt := 38) dJ5_init_d00df_22 (by decide) ?_
  refine x_wide (k' := 1) (n' := 16) c3 ?_
  obtain ⟨rfl, h8⟩ := Prod.mk.inj (x_so h)
  obtain ⟨rfl, rfl⟩ := Prod.mk.inj h8
  exact x_nvret dJ5_init_d00df_38 rfl rfl rfl
set_option maxHeartbeats 4000000 in
set_option maxRecDepth 100000 in
theorem T_J5_isLatin1_aae02 {G : XG} {Y : XY} {a0 : Nat} {N : XN} {rz : Int32} {Nz : XN} (h : f_J5_isLatin1_aae02 Y a0 N = some (rz, Nz)) : Cn G yJ5_isLatin1_aae02 cJ5_isLatin1_aae02 1 (some .boolean) (xR 1 0 0) [.ref a0] (some (.int rz)) Y N Y Nz := by
  refine x_entryN (by decide) (Nat.le_of_ble_eq_true rfl) rfl fun tb => ?_
  rw [f_J5_isLatin1_aae02] at h
  refine x_getsC dJ5_isLatin1_aae02_0 fs_J5_18 ?_
  refine x_if_eq_f (tgt := 17) dJ5_isLatin1_aae02_3 (by decide) (by decide) ?_
  refine x_aload_n 0 dJ5_isLatin1_aae02_6 rfl rfl ?_
  obtain ⟨c1, h⟩ := x_ckk h
  refine x_geti dJ5_isLatin1_aae02_7 vc_J4 xin12 fb_J4_1 fl_J5_22 xr_J4_1 c1 ?_
  rcases x_if h with ⟨c2, h⟩ | ⟨c2, h⟩
  · refine x_if_ne_f (tgt := 17) dJ5_isLatin1_aae02_10 (by decide) c2 ?_
    refine x_iconst (v := 1) dJ5_isLatin1_aae02_13 rfl ?_
    refine x_goto (tgt := 18) dJ5_isLatin1_aae02_14 (by decide) ?_
    obtain ⟨rfl, rfl⟩ := Prod.mk.inj (x_so h)
    exact x_nzret dJ5_isLatin1_aae02_18 rfl (by decide) rfl rfl
  · refine x_if_ne_t (tgt := 17) dJ5_isLatin1_aae02_10 (by decide) c2 ?_
    refine x_iconst (v := 0) dJ5_isLatin1_aae02_17 rfl ?_
    obtain ⟨rfl, rfl⟩ := Prod.mk.inj (x_so h)
    exact x_nzret dJ5_isLatin1_aae02_18 rfl (by decide) rfl rfl
set_option maxHeartbeats 4000000 in
set_option maxRecDepth 100000 in
theorem T_J5_newCapacity_0f7a4 {G : XG} {Y : XY} {a0 : Nat} {a1 : Int32} {N : XN} {rz : Int32} {Nz : XN} (h : f_J5_newCapacity_0f7a4 Y a0 a1 N = some (rz, Nz)) : Cn G yJ5_newCapacity_0f7a4 cJ5_newCapacity_0f7a4 6 (some .int) (xR 3 0 0) [.ref a0, .int a1] (some (.int rz)) Y N Y Nz := by
  refine x_entryN (by decide) (Nat.le_of_ble_eq_true rfl) rfl fun tb => ?_
  rw [f_J5_newCapacity_0f7a4] at h
  refine x_aload_n 0 dJ5_newCapacity_0f7a4_0 rfl rfl ?_
  obtain ⟨c1, h⟩ := x_ckk h
  obtain ⟨c3, h⟩ := x_ckk h
  obtain ⟨p2, lp2, h⟩ := x_lt h
  have ep2 : gr Y a0 0 = some p2 := by rw [lp2]; exact c3
  refine x_getr dJ5_newCapacity_0f7a4_1 vc_J4 xin12 fb_J4_0 fl_J5_15 xr_J4_0 c1 ep2 ?_
  obtain ⟨c4, h⟩ := x_ckk h
  refine x_blenB dJ5_newCapacity_0f7a4_4 c4 rfl ?_
  refine x_istore_n (L' := [(0, .ref a0), (1, .int a1), (2, .int (Int32.ofNat (kn Y p2)))]) [1, 2, 0] dJ5_newCapacity_0f7a4_5 rfl (by decide) rfl ?_
  refine x_iload_n 1 dJ5_newCapacity_0f7a4_6 rfl rfl ?_
  refine x_aload_n 0 dJ5_newCapacity_0f7a4_7 rfl rfl ?_
  refine x_geti dJ5_newCapacity_0f7a4_8 vc_J4 xin12 fb_J4_1 fl_J5_22 xr_J4_1 c1 ?_
  refine x_ishl dJ5_newCapacity_0f7a4_11 ?_
  obtain ⟨v5, ev5, h⟩ := x_lt h
  refine x_nmi ev5 ?_
  refine x_istore_n (L' := [(0, .ref a0), (2, .int (Int32.ofNat (kn Y p2))), (3, .int v5)]) [1, 3, 0] dJ5_newCapacity_0f7a4_12 rfl (by decide) rfl ?_
  refine x_iload_n 2 dJ5_newCapacity_0f7a4_13 rfl rfl ?_
  refine x_iload_n 1 dJ5_newCapacity_0f7a4_14 rfl rfl ?_
  refine x_isub dJ5_newCapacity_0f7a4_15 ?_
  obtain ⟨v6, ev6, h⟩ := x_lt h
  refine x_nmi ev6 ?_
  refine x_istore (L' := [(0, .ref a0), (2, .int (Int32.ofNat (kn Y p2))), (4, .int v6)]) [1, 2, 0] dJ5_newCapacity_0f7a4_16 (by decide) rfl ?_
  refine x_iload_n 1 dJ5_newCapacity_0f7a4_18 rfl rfl ?_
  refine x_iload 2 dJ5_newCapacity_0f7a4_19 rfl ?_
  refine x_iload_n 1 dJ5_newCapacity_0f7a4_21 rfl rfl ?_
  refine x_iconst (v := 2) dJ5_newCapacity_0f7a4_22 rfl ?_
  refine x_aload_n 0 dJ5_newCapacity_0f7a4_23 rfl rfl ?_
  refine x_geti dJ5_newCapacity_0f7a4_24 vc_J4 xin12 fb_J4_1 fl_J5_22 xr_J4_1 c1 ?_
  refine x_ishl dJ5_newCapacity_0f7a4_27 ?_
  refine x_iadd dJ5_newCapacity_0f7a4_28 ?_
  obtain ⟨r7, N9, e8, h⟩ := x_bd2 h
  refine x_nS (As := [.int (Int32.ofNat (kn Y p2)), .int v6, .int ((Int32.ofNat (kn Y p2)) + (2 <<< ((gi N a0 1) &&& 31)))]) (R' := xR 2 0 0) (zz := yJ8_newLength_cabcc) dJ5_newCapacity_0f7a4_29 ml_J5_114 wt_J8_newLength_cabcc wn_J8 wc_J8_newLength_cabcc hp_J8_newLength_cabcc ⟨Nat.le_of_ble_eq_true rfl, Nat.le_of_ble_eq_true rfl⟩ rfl (Nat.le_of_ble_eq_true rfl) ⟨Nat.le_refl _, Nat.le_refl _⟩ (T_J8_newLength_cabcc (G := G) e8) ?_
  refine x_istore (L' := [(0, .ref a0), (5, .int r7)]) [1, 0] dJ5_newCapacity_0f7a4_32 (by decide) rfl ?_
  refine x_iload 1 dJ5_newCapacity_0f7a4_34 rfl ?_
  refine x_ldc (v := 2147483647) dJ5_newCapacity_0f7a4_36 kc_J5_39 ?_
  rcases x_if h with ⟨c10, h⟩ | ⟨c10, h⟩
  · refine x_icmp_ne_f (tgt := 51) dJ5_newCapacity_0f7a4_38 (by decide) c10 ?_
    cases h
  · refine x_icmp_ne_t (tgt := 51) dJ5_newCapacity_0f7a4_38 (by decide) c10 ?_
    refine x_iload 1 dJ5_newCapacity_0f7a4_51 rfl ?_
    refine x_aload_n 0 dJ5_newCapacity_0f7a4_53 rfl rfl ?_
    refine x_geti dJ5_newCapacity_0f7a4_54 vc_J4 xin12 fb_J4_1 fl_J5_22 xr_J4_1 c1 ?_
    refine x_ishr dJ5_newCapacity_0f7a4_57 ?_
    obtain ⟨rfl, rfl⟩ := Prod.mk.inj (x_so h)
    exact x_niret dJ5_newCapacity_0f7a4_58 rfl rfl rfl
set_option maxHeartbeats 4000000 in
set_option maxRecDepth 100000 in
theorem T_J5_ensureCapacityInternal_d00df {G : XG} {Y : XY} {q : Nat} {a0 : Nat} {a1 : Int32} {N : XN} {Yz : XY} {qz : Nat} {Nz : XN} (h : f_J5_ensureCapacityInternal_d00df Y q a0 a1 N = some (Yz, qz, Nz)) : Cn G yJ5_ensureCapacityInternal_d00df cJ5_ensureCapacityInternal_d00df 3 none (xR 4 1 400) [.ref a0, .int a1] none Y N Yz Nz := by
  refine x_entryN (by decide) (Nat.le_of_ble_eq_true rfl) rfl fun tb => ?_
  rw [f_J5_ensureCapacityInternal_d00df] at h
  refine x_aload_n 0 dJ5_ensureCapacityInternal_d00df_0 rfl rfl ?_
  obtain ⟨c1, h⟩ := x_ckk h
  obtain ⟨c3, h⟩ := x_ckk h
  obtain ⟨p2, lp2, h⟩ := x_lt h
  have ep2 : gr Y a0 0 = some p2 := by rw [lp2]; exact c3
  refine x_getr dJ5_ensureCapacityInternal_d00df_1 vc_J4 xin12 fb_J4_0 fl_J5_15 xr_J4_0 c1 ep2 ?_
  obtain ⟨c4, h⟩ := x_ckk h
  refine x_blenB dJ5_ensureCapacityInternal_d00df_4 c4 rfl ?_
  refine x_aload_n 0 dJ5_ensureCapacityInternal_d00df_5 rfl rfl ?_
  refine x_geti dJ5_ensureCapacityInternal_d00df_6 vc_J4 xin12 fb_J4_1 fl_J5_22 xr_J4_1 c1 ?_
  refine x_ishr dJ5_ensureCapacityInternal_d00df_9 ?_
  obtain ⟨v5, ev5, h⟩ := x_lt h
  refine x_nmi ev5 ?_
  refine x_istore_n (L' := [(0, .ref a0), (1, .int a1), (2, .int v5)]) [1, 2, 0] dJ5_ensureCapacityInternal_d00df_10 rfl (by decide) rfl ?_
  refine x_iload_n 1 dJ5_ensureCapacityInternal_d00df_11 rfl rfl ?_
  refine x_iload_n 2 dJ5_ensureCapacityInternal_d00df_12 rfl rfl ?_
  refine x_isub dJ5_ensureCapacityInternal_d00df_13 ?_
  rcases x_if h with ⟨c6, h⟩ | ⟨c6, h⟩
  · refine x_if_le_t (tgt := 38) dJ5_ensureCapacityInternal_d00df_14 (by decide) c6 ?_
    refine x_wide (k' := 1) (n' := 400) ⟨Nat.le_of_ble_eq_true rfl, Nat.le_of_ble_eq_true rfl⟩ ?_
    obtain ⟨rfl, h8⟩ := Prod.mk.inj (x_so h)
    obtain ⟨rfl, rfl⟩ := Prod.mk.inj h8
    exact x_nvret dJ5_ensureCapacityInternal_d00df_38 rfl rfl rfl
  · refine x_if_le_f (tgt := 38) dJ5_ensureCapacityInternal_d00df_14 (by decide) c6 ?_
    refine x_aload_n 0 dJ5_ensureCapacityInternal_d00df_17 rfl rfl ?_
    refine x_aload_n 0 dJ5_ensureCapacityInternal_d00df_18 rfl rfl ?_
    refine x_getr dJ5_ensureCapacityInternal_d00df_19 vc_J4 xin12 fb_J4_0 fl_J5_15 xr_J4_0 c1 ep2 ?_
    refine x_aload_n 0 dJ5_ensureCapacityInternal_d00df_22 rfl rfl ?_
    refine x_iload_n 1 dJ5_ensureCapacityInternal_d00df_23 rfl rfl ?_
    obtain ⟨r7, N9, e8, h⟩ := x_bd2 h
    refine x_nU (b := a0) (As := [.int a1]) (ci := 12) (R' := xR 3 0 0) (zz := yJ5_newCapacity_0f7a4) (xx := yx_J5_104) dJ5_ensureCapacityInternal_d00df_24 mu_J5_104 su_J5_104 du_J5_104 dc_J5_104 se_J5_104 wi_J5_newCapacity_0f7a4 wn_J5 wc_J5_newCapacity_0f7a4 hu_J5_104 ⟨Nat.le_of_ble_eq_true rfl, Nat.le_of_ble_eq_true rfl⟩ rfl (Nat.le_of_ble_eq_true rfl) ⟨Nat.le_of_ble_eq_true rfl, Nat.le_of_ble_eq_true rfl⟩ vc_J4 c1 (T_J5_newCapacity_0f7a4 (G := G) e8) ?_
    refine x_aload_n 0 dJ5_ensureCapacityInternal_d00df_27 rfl rfl ?_
    refine x_geti dJ5_ensureCapacityInternal_d00df_28 vc_J4 xin12 fb_J4_1 fl_J5_22 xr_J4_1 c1 ?_
    refine x_ishl dJ5_ensureCapacityInternal_d00df_31 ?_
    obtain ⟨r10, Y12, q13, N14, e11, h⟩ := x_bd4 h
    refine x_nS (As := [.ref p2, .int (r7 <<< ((gi N9 a0 1) &&& 31))]) (R' := xR 2 1 400) (zz := yJ7_copyOf_9075b) dJ5_ensureCapacityInternal_d00df_32 ml_J5_108 wt_J7_copyOf_9075b wn_J7 wc_J7_copyOf_9075b hp_J7_copyOf_9075b ⟨Nat.le_of_ble_eq_true rfl, Nat.le_of_ble_eq_true rfl⟩ rfl (Nat.le_of_ble_eq_true rfl) ⟨Nat.le_of_ble_eq_true rfl, Nat.le_of_ble_eq_true rfl⟩ (T_J7_copyOf_9075b (G := G) e11) ?_
    obtain ⟨c15, h⟩ := x_ckk h
    refine x_putr dJ5_ensureCapacityInternal_d00df_35 vc_J4 xin12 tyJ4_ok nmJ4 fb_J4_0 fl_J5_15 ff_J4_0 xr_J4_0 rfl rfl c15 ?_
    obtain ⟨Y16, eY16, h⟩ := x_lt h
    refine x_nmY eY16 ?_
    refine x_wide (k' := 1) (n' := 400) ⟨Nat.le_of_ble_eq_true rfl, Nat.le_of_ble_eq_true rfl⟩ ?_
    obtain ⟨rfl, h8⟩ := Prod.mk.inj (x_so h)
    obtain ⟨rfl, rfl⟩ := Prod.mk.inj h8
    exact x_nvret dJ5_ensureCapacityInternal_d00df_38 rfl rfl rfl
set_option maxHeartbeats 4000000 in
set_option maxRecDepth 100000 in
theorem T_J0_coder_7d493 {G : XG} {Y : XY} {a0 : Nat} {N : XN} {rz : Int32} {Nz : XN} (h : f_J0_coder_7d493 Y a0 N = some (rz, Nz)) : Cn G yJ0_coder_7d493 cJ0_coder_7d493 1 (some .byte) (xR 1 0 0) [.ref a0] (some (.int rz)) Y N Y Nz := by
  refine x_entryN (by decide) (Nat.le_of_ble_eq_true rfl) rfl fun tb => ?_
  rw [f_J0_coder_7d493] at h
  refine x_getsC dJ0_coder_7d493_0 fs_J0_38 ?_
  refine x_if_eq_f (tgt := 13) dJ0_coder_7d493_3 (by decide) (by decide) ?_
  refine x_aload_n 0 dJ0_coder_7d493_6 rfl rfl ?_
  obtain ⟨c1, h⟩ := x_ckk h
  refine x_getSc dJ0_coder_7d493_7 fl_J0_15 c1 ?_
  refine x_goto (tgt := 14) dJ0_coder_7d493_10 (by decide) ?_
  obtain ⟨c2, h⟩ := x_ckk h
  obtain ⟨rfl, rfl⟩ := Prod.mk.inj (x_so h)
  exact x_nnret dJ0_coder_7d493_14 rfl (of_decide_eq_true c2) rfl rfl
set_option maxHeartbeats 4000000 in
set_option maxRecDepth 100000 in
theorem T_J5_inflateIfNeededFor_a7421 {G : XG} {Y : XY} {a0 : Nat} {a1 : Nat} {N : XN} {Nz : XN} (h : f_J5_inflateIfNeededFor_a7421 Y a0 a1 N = some Nz) : Cn G yJ5_inflateIfNeededFor_a7421 cJ5_inflateIfNeededFor_a7421 2 none (xR 2 0 0) [.ref a0, .ref a1] none Y N Y Nz := by
  refine x_entryN (by decide) (Nat.le_of_ble_eq_true rfl) rfl fun tb => ?_
  rw [f_J5_inflateIfNeededFor_a7421] at h
  refine x_getsC dJ5_inflateIfNeededFor_a7421_0 fs_J5_18 ?_
  refine x_if_eq_f (tgt := 21) dJ5_inflateIfNeededFor_a7421_3 (by decide) (by decide) ?_
  refine x_aload_n 0 dJ5_inflateIfNeededFor_a7421_6 rfl rfl ?_
  obtain ⟨c1, h⟩ := x_ckk h
  refine x_geti dJ5_inflateIfNeededFor_a7421_7 vc_J4 xin12 fb_J4_1 fl_J5_22 xr_J4_1 c1 ?_
  refine x_aload_n 1 dJ5_inflateIfNeededFor_a7421_10 rfl rfl ?_
  obtain ⟨c2, h⟩ := x_ckk h
  obtain ⟨r3, N5, e4, h⟩ := x_bd2 h
  refine x_nVS (b := a1) (As := []) (R' := xR 1 0 0) (zz := yJ0_coder_7d493) dJ5_inflateIfNeededFor_a7421_11 ml_J5_40 wi_J0_coder_7d493 wv_J0_coder_7d493 wn_J0 wc_J0_coder_7d493 hp_J0_coder_7d493 ⟨Nat.le_of_ble_eq_true rfl, Nat.le_of_ble_eq_true rfl⟩ rfl (Nat.le_of_ble_eq_true rfl) ⟨Nat.le_refl _, Nat.le_refl _⟩ rfl c2 (T_J0_coder_7d493 (G := G) e4) ?_
  rcases x_if h with ⟨c6, h⟩ | ⟨c6, h⟩
  · refine x_icmp_eq_t (tgt := 21) dJ5_inflateIfNeededFor_a7421_14 (by decide) c6 ?_
    obtain rfl := x_so h
    exact x_nvret dJ5_inflateIfNeededFor_a7421_21 rfl rfl rfl
  · refine x_icmp_eq_f (tgt := 21) dJ5_inflateIfNeededFor_a7421_14 (by decide) c6 ?_
    refine x_aload_n 0 dJ5_inflateIfNeededFor_a7421_17 rfl rfl ?_
    cases h
set_option maxHeartbeats 4000000 in
set_option maxRecDepth 100000 in
theorem T_J0_length_8abf5 {G : XG} {Y : XY} {a0 : Nat} {N : XN} {rz : Int32} {Nz : XN} (h : f_J0_length_8abf5 Y a0 N = some (rz, Nz)) : Cn G yJ0_length_8abf5 cJ0_length_8abf5 1 (some .int) (xR 2 0 0) [.ref a0] (some (.int rz)) Y N Y Nz := by
  refine x_entryN (by decide) (Nat.le_of_ble_eq_true rfl) rfl fun tb => ?_
  rw [f_J0_length_8abf5] at h
  refine x_aload_n 0 dJ0_length_8abf5_0 rfl rfl ?_
  obtain ⟨c1, h⟩ := x_ckk h
  obtain ⟨c3, h⟩ := x_ckk h
  obtain ⟨p2, lp2, h⟩ := x_lt h
  have ep2 : gr Y a0 0 = some p2 := by rw [lp2]; exact c3
  refine x_getSv dJ0_length_8abf5_1 fl_J0_9 c1 ep2 ?_
  obtain ⟨c4, h⟩ := x_ckk h
  refine x_blenB dJ0_length_8abf5_4 c4 rfl ?_
  refine x_aload_n 0 dJ0_length_8abf5_5 rfl rfl ?_
  obtain ⟨r5, N7, e6, h⟩ := x_bd2 h
  refine x_nVS (b := a0) (As := []) (R' := xR 1 0 0) (zz := yJ0_coder_7d493) dJ0_length_8abf5_6 ml_J0_335 wi_J0_coder_7d493 wv_J0_coder_7d493 wn_J0 wc_J0_coder_7d493 hp_J0_coder_7d493 ⟨Nat.le_of_ble_eq_true rfl, Nat.le_of_ble_eq_true rfl⟩ rfl (Nat.le_of_ble_eq_true rfl) ⟨Nat.le_refl _, Nat.le_refl _⟩ rfl c1 (T_J0_coder_7d493 (G := G) e6) ?_
  refine x_ishr dJ0_length_8abf5_9 ?_
  obtain ⟨rfl, rfl⟩ := Prod.mk.inj (x_so h)
  exact x_niret dJ0_length_8abf5_10 rfl rfl rfl
set_option maxHeartbeats 4000000 in
set_option maxRecDepth 100000 in
theorem T_J0_isLatin1_aae02 {G : XG} {Y : XY} {a0 : Nat} {N : XN} {rz : Int32} {Nz : XN} (h : f_J0_isLatin1_aae02 Y a0 N = some (rz, Nz)) : Cn G yJ0_isLatin1_aae02 cJ0_isLatin1_aae02 1 (some .boolean) (xR 1 0 0) [.ref a0] (some (.int rz)) Y N Y Nz := by
  refine x_entryN (by decide) (Nat.le_of_ble_eq_true rfl) rfl fun tb => ?_
  rw [f_J0_isLatin1_aae02] at h
  refine x_getsC dJ0_isLatin1_aae02_0 fs_J0_38 ?_
  refine x_if_eq_f (tgt := 17) dJ0_isLatin1_aae02_3 (by decide) (by decide) ?_
  refine x_aload_n 0 dJ0_isLatin1_aae02_6 rfl rfl ?_
  obtain ⟨c1, h⟩ := x_ckk h
  refine x_getSc dJ0_isLatin1_aae02_7 fl_J0_15 c1 ?_
  rcases x_if h with ⟨c2, h⟩ | ⟨c2, h⟩
  · refine x_if_ne_f (tgt := 17) dJ0_isLatin1_aae02_10 (by decide) c2 ?_
    refine x_iconst (v := 1) dJ0_isLatin1_aae02_13 rfl ?_
    refine x_goto (tgt := 18) dJ0_isLatin1_aae02_14 (by decide) ?_
    obtain ⟨rfl, rfl⟩ := Prod.mk.inj (x_so h)
    exact x_nzret dJ0_isLatin1_aae02_18 rfl (by decide) rfl rfl
  · refine x_if_ne_t (tgt := 17) dJ0_isLatin1_aae02_10 (by decide) c2 ?_
    refine x_iconst (v := 0) dJ0_isLatin1_aae02_17 rfl ?_
    obtain ⟨rfl, rfl⟩ := Prod.mk.inj (x_so h)
    exact x_nzret dJ0_isLatin1_aae02_18 rfl (by decide) rfl rfl
set_option maxHeartbeats 4000000 in
set_option maxRecDepth 100000 in
theorem T_J1_charAt_3b067 {G : XG} {Y : XY} {a0 : Nat} {a1 : Int32} {N : XN} {rz : Int32} {Nz : XN} (h : f_J1_charAt_3b067 Y a0 a1 N = some (rz, Nz)) : Cn G yJ1_charAt_3b067 cJ1_charAt_3b067 2 (some .char) (xR 3 0 0) [.ref a0, .int a1] (some (.int rz)) Y N Y Nz := by
  refine x_entryN (by decide) (Nat.le_of_ble_eq_true rfl) rfl fun tb => ?_
  rw [f_J1_charAt_3b067] at h
  refine x_iload_n 1 dJ1_charAt_3b067_0 rfl rfl ?_
  refine x_aload_n 0 dJ1_charAt_3b067_1 rfl rfl ?_
  obtain ⟨c1, h⟩ := x_ckk h
  refine x_blenB dJ1_charAt_3b067_2 c1 rfl ?_
  obtain ⟨c2, h⟩ := x_ckk h
  refine x_cs (As := [.int a1, .int (Int32.ofNat (kn Y a0))]) (d' := 2) (zz := yJ0_checkIndex_df160) dJ1_charAt_3b067_3 ml_J1_9 wt_J0_checkIndex_df160 wn_J0 wc_J0_checkIndex_df160 hp_J0_checkIndex_df160 (by decide) (by decide) rfl (Nat.le_of_ble_eq_true rfl) ⟨Nat.le_refl _, Nat.le_refl _⟩ (T_J0_checkIndex (G := G) c2.1 c2.2) ?_
  refine x_aload_n 0 dJ1_charAt_3b067_6 rfl rfl ?_
  refine x_iload_n 1 dJ1_charAt_3b067_7 rfl rfl ?_
  obtain ⟨c3, h⟩ := x_ckk h
  refine x_baldB dJ1_charAt_3b067_8 c1 (xb_in c3) ?_
  refine x_sipush (v := 255) dJ1_charAt_3b067_9 rfl ?_
  refine x_iand dJ1_charAt_3b067_12 ?_
  refine x_i2c dJ1_charAt_3b067_13 ?_
  obtain ⟨c4, h⟩ := x_ckk h
  obtain ⟨rfl, rfl⟩ := Prod.mk.inj (x_so h)
  exact x_nnret dJ1_charAt_3b067_14 rfl (of_decide_eq_true c4) rfl rfl
set_option maxHeartbeats 4000000 in
set_option maxRecDepth 100000 in
theorem T_J0_charAt_5068e {G : XG} {Y : XY} {a0 : Nat} {a1 : Int32} {N : XN} {rz : Int32} {Nz : XN} (h : f_J0_charAt_5068e Y a0 a1 N = some (rz, Nz)) : Cn G yJ0_charAt_5068e cJ0_charAt_5068e 2 (some .char) (xR 4 0 0) [.ref a0, .int a1] (some (.int rz)) Y N Y Nz := by
  refine x_entryN (by decide) (Nat.le_of_ble_eq_true rfl) rfl fun tb => ?_
  rw [f_J0_charAt_5068e] at h
  refine x_aload_n 0 dJ0_charAt_5068e_0 rfl rfl ?_
  obtain ⟨c1, h⟩ := x_ckk h
  obtain ⟨r2, N4, e3, h⟩ := x_bd2 h
  refine x_nVS (b := a0) (As := []) (R' := xR 1 0 0) (zz := yJ0_isLatin1_aae02) dJ0_charAt_5068e_1 ml_J0_492 wi_J0_isLatin1_aae02 wv_J0_isLatin1_aae02 wn_J0 wc_J0_isLatin1_aae02 hp_J0_isLatin1_aae02 ⟨Nat.le_of_ble_eq_true rfl, Nat.le_of_ble_eq_true rfl⟩ rfl (Nat.le_of_ble_eq_true rfl) ⟨Nat.le_refl _, Nat.le_refl _⟩ rfl c1 (T_J0_isLatin1_aae02 (G := G) e3) ?_
  rcases x_if h with ⟨c5, h⟩ | ⟨c5, h⟩
  · refine x_if_eq_t (tgt := 16) dJ0_charAt_5068e_4 (by decide) c5 ?_
    refine x_aload_n 0 dJ0_charAt_5068e_16 rfl rfl ?_
    obtain ⟨c7, h⟩ := x_ckk h
    obtain ⟨p6, lp6, h⟩ := x_lt h
    have ep6 : gr Y a0 0 = some p6 := by rw [lp6]; exact c7
    refine x_getSv dJ0_charAt_5068e_17 fl_J0_9 c1 ep6 ?_
    refine x_iload_n 1 dJ0_charAt_5068e_20 rfl rfl ?_
    cases h
  · refine x_if_eq_f (tgt := 16) dJ0_charAt_5068e_4 (by decide) c5 ?_
    refine x_aload_n 0 dJ0_charAt_5068e_7 rfl rfl ?_
    obtain ⟨c9, h⟩ := x_ckk h
    obtain ⟨p8, lp8, h⟩ := x_lt h
    have ep8 : gr Y a0 0 = some p8 := by rw [lp8]; exact c9
    refine x_getSv dJ0_charAt_5068e_8 fl_J0_9 c1 ep8 ?_
    refine x_iload_n 1 dJ0_charAt_5068e_11 rfl rfl ?_
    obtain ⟨r10, N12, e11, h⟩ := x_bd2 h
    refine x_nS (As := [.ref p8, .int a1]) (R' := xR 3 0 0) (zz := yJ1_charAt_3b067) dJ0_charAt_5068e_12 ml_J0_495 wt_J1_charAt_3b067 wn_J1 wc_J1_charAt_3b067 hp_J1_charAt_3b067 ⟨Nat.le_of_ble_eq_true rfl, Nat.le_of_ble_eq_true rfl⟩ rfl (Nat.le_of_ble_eq_true rfl) ⟨Nat.le_refl _, Nat.le_refl _⟩ (T_J1_charAt_3b067 (G := G) e11) ?_
    obtain ⟨c13, h⟩ := x_ckk h
    obtain ⟨rfl, rfl⟩ := Prod.mk.inj (x_so h)
    exact x_nnret dJ0_charAt_5068e_15 rfl (of_decide_eq_true c13) rfl rfl
set_option maxHeartbeats 4000000 in
set_option maxRecDepth 100000 in
theorem T_J0_getBytes_840e7 {G : XG} {Y : XY} {a0 : Nat} {a1 : Nat} {a2 : Int32} {a3 : Int32} {N : XN} {Nz : XN} (h : f_J0_getBytes_840e7 Y a0 a1 a2 a3 N = some Nz) : Cn G yJ0_getBytes_840e7 cJ0_getBytes_840e7 4 none (xR 2 0 0) [.ref a0, .ref a1, .int a2, .int a3] none Y N Y Nz := by
  refine x_entryN (by decide) (Nat.le_of_ble_eq_true rfl) rfl fun tb => ?_
  rw [f_J0_getBytes_840e7] at h
  refine x_aload_n 0 dJ0_getBytes_840e7_0 rfl rfl ?_
  obtain ⟨c1, h⟩ := x_ckk h
  obtain ⟨r2, N4, e3, h⟩ := x_bd2 h
  refine x_nVS (b := a0) (As := []) (R' := xR 1 0 0) (zz := yJ0_coder_7d493) dJ0_getBytes_840e7_1 ml_J0_335 wi_J0_coder_7d493 wv_J0_coder_7d493 wn_J0 wc_J0_coder_7d493 hp_J0_coder_7d493 ⟨Nat.le_of_ble_eq_true rfl, Nat.le_of_ble_eq_true rfl⟩ rfl (Nat.le_of_ble_eq_true rfl) ⟨Nat.le_refl _, Nat.le_refl _⟩ rfl c1 (T_J0_coder_7d493 (G := G) e3) ?_
  refine x_iload_n 3 dJ0_getBytes_840e7_4 rfl rfl ?_
  rcases x_if h with ⟨c5, h⟩ | ⟨c5, h⟩
  · refine x_icmp_ne_f (tgt := 28) dJ0_getBytes_840e7_5 (by decide) c5 ?_
    refine x_aload_n 0 dJ0_getBytes_840e7_8 rfl rfl ?_
    obtain ⟨c7, h⟩ := x_ckk h
    obtain ⟨p6, lp6, h⟩ := x_lt h
    have ep6 : gr Y a0 0 = some p6 := by rw [lp6]; exact c7
    refine x_getSv dJ0_getBytes_840e7_9 fl_J0_9 c1 ep6 ?_
    refine x_iconst (v := 0) dJ0_getBytes_840e7_12 rfl ?_
    refine x_aload_n 1 dJ0_getBytes_840e7_13 rfl rfl ?_
    refine x_iload_n 2 dJ0_getBytes_840e7_14 rfl rfl ?_
    refine x_iload_n 3 dJ0_getBytes_840e7_15 rfl rfl ?_
    refine x_ishl dJ0_getBytes_840e7_16 ?_
    refine x_aload_n 0 dJ0_getBytes_840e7_17 rfl rfl ?_
    refine x_getSv dJ0_getBytes_840e7_18 fl_J0_9 c1 ep6 ?_
    obtain ⟨c8, h⟩ := x_ckk h
    refine x_blenB dJ0_getBytes_840e7_21 c8 rfl ?_
    obtain ⟨c9, h⟩ := x_ckk h
    obtain ⟨c10, h⟩ := x_ckk h
    obtain ⟨c11, h⟩ := x_ckk h
    obtain ⟨c12, h⟩ := x_ckk h
    obtain ⟨c13, h⟩ := x_ckk h
    obtain ⟨c14, h⟩ := x_ckF h
    refine x_acopy dJ0_getBytes_840e7_22 ml_J0_212 c8 c9 (by decide) c10 c11 c12 c13 c14 ⟨Nat.le_of_ble_eq_true rfl, Nat.le_of_ble_eq_true rfl⟩ (Nat.le_of_ble_eq_true rfl) ?_
    obtain ⟨N15, eN15, h⟩ := x_lt h
    refine x_nmM eN15 ?_
    refine x_goto (tgt := 43) dJ0_getBytes_840e7_25 (by decide) ?_
    obtain rfl := x_so h
    exact x_nvret dJ0_getBytes_840e7_43 rfl rfl rfl
  · refine x_icmp_ne_t (tgt := 28) dJ0_getBytes_840e7_5 (by decide) c5 ?_
    refine x_aload_n 0 dJ0_getBytes_840e7_28 rfl rfl ?_
    obtain ⟨c17, h⟩ := x_ckk h
    obtain ⟨p16, lp16, h⟩ := x_lt h
    have ep16 : gr Y a0 0 = some p16 := by rw [lp16]; exact c17
    refine x_getSv dJ0_getBytes_840e7_29 fl_J0_9 c1 ep16 ?_
    refine x_iconst (v := 0) dJ0_getBytes_840e7_32 rfl ?_
    refine x_aload_n 1 dJ0_getBytes_840e7_33 rfl rfl ?_
    refine x_iload_n 2 dJ0_getBytes_840e7_34 rfl rfl ?_
    refine x_aload_n 0 dJ0_getBytes_840e7_35 rfl rfl ?_
    refine x_getSv dJ0_getBytes_840e7_36 fl_J0_9 c1 ep16 ?_
    obtain ⟨c18, h⟩ := x_ckk h
    refine x_blenB dJ0_getBytes_840e7_39 c18 rfl ?_
    cases h
set_option maxHeartbeats 4000000 in
set_option maxRecDepth 100000 in
theorem T_J5_putStringAt_47b60 {G : XG} {Y : XY} {a0 : Nat} {a1 : Int32} {a2 : Nat} {N : XN} {Nz : XN} (h : f_J5_putStringAt_47b60 Y a0 a1 a2 N = some Nz) : Cn G yJ5_putStringAt_47b60 cJ5_putStringAt_47b60 3 none (xR 3 0 0) [.ref a0, .int a1, .ref a2] none Y N Y Nz := by
  refine x_entryN (by decide) (Nat.le_of_ble_eq_true rfl) rfl fun tb => ?_
  rw [f_J5_putStringAt_47b60] at h
  refine x_aload_n 0 dJ5_putStringAt_47b60_0 rfl rfl ?_
  refine x_aload_n 2 dJ5_putStringAt_47b60_1 rfl rfl ?_
  obtain ⟨c1, h⟩ := x_ckk h
  obtain ⟨N3, e2, h⟩ := x_bd1 h
  refine x_nU (b := a0) (As := [.ref a2]) (ci := 12) (R' := xR 2 0 0) (zz := yJ5_inflateIfNeededFor_a7421) (xx := yx_J5_397) dJ5_putStringAt_47b60_2 mu_J5_397 su_J5_397 du_J5_397 dc_J5_397 se_J5_397 wi_J5_inflateIfNeededFor_a7421 wn_J5 wc_J5_inflateIfNeededFor_a7421 hu_J5_397 ⟨Nat.le_of_ble_eq_true rfl, Nat.le_of_ble_eq_true rfl⟩ rfl (Nat.le_of_ble_eq_true rfl) ⟨Nat.le_refl _, Nat.le_refl _⟩ vc_J4 c1 (T_J5_inflateIfNeededFor_a7421 (G := G) e2) ?_
  refine x_aload_n 2 dJ5_putStringAt_47b60_5 rfl rfl ?_
  refine x_aload_n 0 dJ5_putStringAt_47b60_6 rfl rfl ?_
  obtain ⟨c5, h⟩ := x_ckk h
  obtain ⟨p4, lp4, h⟩ := x_lt h
  have ep4 : gr Y a0 0 = some p4 := by rw [lp4]; exact c5
  refine x_getr dJ5_putStringAt_47b60_7 vc_J4 xin12 fb_J4_0 fl_J5_15 xr_J4_0 c1 ep4 ?_
  refine x_iload_n 1 dJ5_putStringAt_47b60_10 rfl rfl ?_
  refine x_aload_n 0 dJ5_putStringAt_47b60_11 rfl rfl ?_
  refine x_geti dJ5_putStringAt_47b60_12 vc_J4 xin12 fb_J4_1 fl_J5_22 xr_J4_1 c1 ?_
  obtain ⟨c6, h⟩ := x_ckk h
  obtain ⟨N8, e7, h⟩ := x_bd1 h
  refine x_nVS (b := a2) (As := [.ref p4, .int a1, .int (gi N3 a0 1)]) (R' := xR 2 0 0) (zz := yJ0_getBytes_840e7) dJ5_putStringAt_47b60_15 ml_J5_399 wi_J0_getBytes_840e7 wv_J0_getBytes_840e7 wn_J0 wc_J0_getBytes_840e7 hp_J0_getBytes_840e7 ⟨Nat.le_of_ble_eq_true rfl, Nat.le_of_ble_eq_true rfl⟩ rfl (Nat.le_of_ble_eq_true rfl) ⟨Nat.le_refl _, Nat.le_refl _⟩ rfl c6 (T_J0_getBytes_840e7 (G := G) e7) ?_
  obtain rfl := x_so h
  exact x_nvret dJ5_putStringAt_47b60_18 rfl rfl rfl
