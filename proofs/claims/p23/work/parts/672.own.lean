set_option maxHeartbeats 4000000 in
set_option maxRecDepth 100000 in
theorem T_L_with_10 {G : XG} {tb : List ExceptionTableEntry} {rz : Nat} {Yz : XY} {qz : Nat} {Nz : XN} : ∀ (D9 : Nat) (Y : XY) (q : Nat) (p_0 : Nat) (p_1 : Nat) (p_2 : Nat) (v_3 : Int32) (k : Nat) (n : Nat) (N : XN), f_L_with_10 D9 Y q p_0 p_1 p_2 v_3 k n N = some (rz, Yz, qz, Nz) → ExZ G yL_with cL_with 4 (some (.array (.array .int))) tb (xR 1 1 64) (xZn G (xR 1 1 64) (some (.ref rz)) Yz Nz) k n 10 [(0, .ref p_0), (1, .ref p_1), (2, .ref p_2), (3, .int v_3)] [] Y N := by
  intro D9
  induction D9 with
  | zero => intro Y q p_0 p_1 p_2 v_3 k n N h; exact nomatch (show none = some _ from h)
  | succ D9 ih =>
    intro Y q p_0 p_1 p_2 v_3 k n N h
    rw [f_L_with_10] at h
    refine x_iload_n 3 dL_with_10 rfl rfl ?_
    refine x_aload_n 0 dL_with_11 rfl rfl ?_
    obtain ⟨c1, h⟩ := x_ckk h
    refine x_rlen (j := 4) dL_with_12 (by decide) c1 rfl ?_
    rcases x_if h with ⟨c2, h⟩ | ⟨c2, h⟩
    · refine x_icmp_ge_t (tgt := 28) dL_with_13 (by decide) c2 ?_
      refine x_aload_n 2 dL_with_28 rfl rfl ?_
      refine x_aload_n 0 dL_with_29 rfl rfl ?_
      refine x_rlen (j := 4) dL_with_30 (by decide) c1 rfl ?_
      refine x_aload_n 1 dL_with_31 rfl rfl ?_
      obtain ⟨c3, h⟩ := x_ckk h
      obtain ⟨c4, h⟩ := x_ckk h
      obtain ⟨c5, h⟩ := x_ckk h
      refine x_aast8 dL_with_32 c3 (xb_in c5) c4 ?_
      obtain ⟨Y6, eY6, h⟩ := x_lt h
      refine x_nmY eY6 ?_
      refine x_aload_n 2 dL_with_33 rfl rfl ?_
      obtain ⟨c7, h⟩ := x_ckk h
      refine x_wide (k' := 1) (n' := 64) c7 ?_
      obtain ⟨rfl, h8⟩ := Prod.mk.inj (x_so h)
      obtain ⟨rfl, h7⟩ := Prod.mk.inj h8
      obtain ⟨rfl, rfl⟩ := Prod.mk.inj h7
      exact x_naret dL_with_34 rfl (Or.inr ⟨_, rfl⟩) rfl rfl
    · refine x_icmp_ge_f (tgt := 28) dL_with_13 (by decide) c2 ?_
      refine x_aload_n 2 dL_with_16 rfl rfl ?_
      refine x_iload_n 3 dL_with_17 rfl rfl ?_
      refine x_aload_n 0 dL_with_18 rfl rfl ?_
      refine x_iload_n 3 dL_with_19 rfl rfl ?_
      obtain ⟨c8, h⟩ := x_ckk h
      obtain ⟨c10, h⟩ := x_ckk h
      obtain ⟨p9, lp9, h⟩ := x_lt h
      have ep9 : gr Y p_0 v_3.toNatClampNeg = some p9 := by rw [lp9]; exact c10
      refine x_aald (j := 4) dL_with_20 (by decide) c1 (xb_in c8) ep9 ?_
      obtain ⟨c11, h⟩ := x_ckk h
      obtain ⟨c12, h⟩ := x_ckk h
      obtain ⟨c13, h⟩ := x_ckk h
      refine x_aast8 dL_with_21 c11 (xb_in c13) c12 ?_
      obtain ⟨Y14, eY14, h⟩ := x_lt h
      refine x_nmY eY14 ?_
      refine x_iinc (L' := [(0, .ref p_0), (1, .ref p_1), (2, .ref p_2), (3, .int (v_3 + 1))]) 3 [1, 2, 3, 0] dL_with_22 rfl rfl (by decide) rfl ?_
      refine x_goto (tgt := 10) dL_with_25 (by decide) ?_
      exact ih Y14 q p_0 p_1 p_2 (v_3 + 1) k n N h
set_option maxHeartbeats 4000000 in
set_option maxRecDepth 100000 in
theorem T_L_with {G : XG} {Y : XY} {q : Nat} {a0 : Nat} {a1 : Nat} {N : XN} {rz : Nat} {Yz : XY} {qz : Nat} {Nz : XN} (h : f_L_with Y q a0 a1 N = some (rz, Yz, qz, Nz)) : Cn G yL_with cL_with 4 (some (.array (.array .int))) (xR 1 1 64) [.ref a0, .ref a1] (some (.ref rz)) Y N Yz Nz := by
  refine x_entryN (by decide) (Nat.le_of_ble_eq_true rfl) rfl fun tb => ?_
  rw [f_L_with] at h
  refine x_aload_n 0 dL_with_0 rfl rfl ?_
  obtain ⟨c1, h⟩ := x_ckk h
  refine x_rlen (j := 4) dL_with_1 (by decide) c1 rfl ?_
  refine x_iconst (v := 1) dL_with_2 rfl ?_
  refine x_iadd dL_with_3 ?_
  obtain ⟨c2, h⟩ := x_ckk h
  obtain ⟨c3, h⟩ := x_ckk h
  obtain ⟨c4, h⟩ := x_ckk h
  refine x_newA (q := q) (M := ((Int32.ofNat (kn Y a0)) + 1).toNatClampNeg) dL_with_4 kl9_L_98 c2.1 rfl (by have h8 := c2.2; show ((Int32.ofNat (kn Y a0)) + 1).toNatClampNeg * 4 ≤ 536870912; omega) c3.1 c4 ?_
  obtain ⟨Y5, eY5, h⟩ := x_lt h
  refine x_nmY eY5 ?_
  obtain ⟨N6, eN6, h⟩ := x_lt h
  refine x_nmM eN6 ?_
  have k7 : kc Y5 q = 8 := by rw [eY5]; exact kcq rfl
  refine x_astore_n (L' := [(0, .ref a0), (1, .ref a1), (2, .ref q)]) [1, 2, 0] dL_with_7 rfl (by decide) rfl ?_
  refine x_iconst (v := 0) dL_with_8 rfl ?_
  refine x_istore_n (L' := [(0, .ref a0), (1, .ref a1), (2, .ref q), (3, .int 0)]) [1, 2, 3, 0] dL_with_9 rfl (by decide) rfl ?_
  exact T_L_with_10 (G := G) FU Y5 (q + 1) a0 a1 q 0 1 (0 + (((Int32.ofNat (kn Y a0)) + 1).toNatClampNeg)) N6 h
set_option maxHeartbeats 4000000 in
set_option maxRecDepth 100000 in
theorem T_L_copied_8 {G : XG} {tb : List ExceptionTableEntry} {rz : Nat} {Yz : XY} {qz : Nat} {Nz : XN} : ∀ (D9 : Nat) (Y : XY) (q : Nat) (p_0 : Nat) (p_1 : Nat) (v_2 : Int32) (k : Nat) (n : Nat) (N : XN), f_L_copied_8 D9 Y q p_0 p_1 v_2 k n N = some (rz, Yz, qz, Nz) → ExZ G yL_copied cL_copied 3 (some (.array (.array .int))) tb (xR 1 65 576) (xZn G (xR 1 65 576) (some (.ref rz)) Yz Nz) k n 8 [(0, .ref p_0), (1, .ref p_1), (2, .int v_2)] [] Y N := by
  intro D9
  induction D9 with
  | zero => intro Y q p_0 p_1 v_2 k n N h; exact nomatch (show none = some _ from h)
  | succ D9 ih =>
    intro Y q p_0 p_1 v_2 k n N h
    rw [f_L_copied_8] at h
    refine x_iload_n 2 dL_copied_8 rfl rfl ?_
    refine x_aload_n 0 dL_copied_9 rfl rfl ?_
    obtain ⟨c1, h⟩ := x_ckk h
    refine x_rlen (j := 4) dL_copied_10 (by decide) c1 rfl ?_
    rcases x_if h with ⟨c2, h⟩ | ⟨c2, h⟩
    · refine x_icmp_ge_t (tgt := 32) dL_copied_11 (by decide) c2 ?_
      refine x_aload_n 1 dL_copied_32 rfl rfl ?_
      obtain ⟨c3, h⟩ := x_ckk h
      refine x_wide (k' := 65) (n' := 576) c3 ?_
      obtain ⟨rfl, h8⟩ := Prod.mk.inj (x_so h)
      obtain ⟨rfl, h7⟩ := Prod.mk.inj h8
      obtain ⟨rfl, rfl⟩ := Prod.mk.inj h7
      exact x_naret dL_copied_33 rfl (Or.inr ⟨_, rfl⟩) rfl rfl
    · refine x_icmp_ge_f (tgt := 32) dL_copied_11 (by decide) c2 ?_
      refine x_aload_n 1 dL_copied_14 rfl rfl ?_
      refine x_iload_n 2 dL_copied_15 rfl rfl ?_
      refine x_aload_n 0 dL_copied_16 rfl rfl ?_
      refine x_iload_n 2 dL_copied_17 rfl rfl ?_
      obtain ⟨c4, h⟩ := x_ckk h
      obtain ⟨c6, h⟩ := x_ckk h
      obtain ⟨p5, lp5, h⟩ := x_lt h
      have ep5 : gr Y p_0 v_2.toNatClampNeg = some p5 := by rw [lp5]; exact c6
      refine x_aald (j := 4) dL_copied_18 (by decide) c1 (xb_in c4) ep5 ?_
      obtain ⟨c7, h⟩ := x_ckk h
      obtain ⟨c8, h⟩ := x_ckk h
      obtain ⟨c9, h⟩ := x_ckk h
      refine x_cloneI (q := q) dL_copied_19 mc_L_100 c7 c8.1 ⟨Nat.le_of_ble_eq_true rfl, Nat.le_of_ble_eq_true rfl⟩ (Nat.le_of_ble_eq_true rfl) c9 ?_
      obtain ⟨Y10, eY10, h⟩ := x_lt h
      refine x_nmY eY10 ?_
      obtain ⟨N11, eN11, h⟩ := x_lt h
      refine x_nmM eN11 ?_
      have k12 : kc Y10 q = 1 := by rw [eY10]; exact kcq rfl
      refine x_castI dL_copied_22 kl9_L_98 k12 ?_
      obtain ⟨c13, h⟩ := x_ckk h
      obtain ⟨c14, h⟩ := x_ckk h
      refine x_aast8 dL_copied_25 c13 (xb_in c14) k12 ?_
      obtain ⟨Y15, eY15, h⟩ := x_lt h
      refine x_nmY eY15 ?_
      refine x_iinc (L' := [(0, .ref p_0), (1, .ref p_1), (2, .int (v_2 + 1))]) 2 [1, 2, 0] dL_copied_26 rfl rfl (by decide) rfl ?_
      refine x_goto (tgt := 8) dL_copied_29 (by decide) ?_
      exact ih Y15 (q + 1) p_0 p_1 (v_2 + 1) (k + 1) (n + (kn Y p5)) N11 h
set_option maxHeartbeats 4000000 in
set_option maxRecDepth 100000 in
theorem T_L_copied {G : XG} {Y : XY} {q : Nat} {a0 : Nat} {N : XN} {rz : Nat} {Yz : XY} {qz : Nat} {Nz : XN} (h : f_L_copied Y q a0 N = some (rz, Yz, qz, Nz)) : Cn G yL_copied cL_copied 3 (some (.array (.array .int))) (xR 1 65 576) [.ref a0] (some (.ref rz)) Y N Yz Nz := by
  refine x_entryN (by decide) (Nat.le_of_ble_eq_true rfl) rfl fun tb => ?_
  rw [f_L_copied] at h
  refine x_aload_n 0 dL_copied_0 rfl rfl ?_
  obtain ⟨c1, h⟩ := x_ckk h
  refine x_rlen (j := 4) dL_copied_1 (by decide) c1 rfl ?_
  obtain ⟨c2, h⟩ := x_ckk h
  obtain ⟨c3, h⟩ := x_ckk h
  obtain ⟨c4, h⟩ := x_ckk h
  refine x_newA (q := q) (M := (Int32.ofNat (kn Y a0)).toNatClampNeg) dL_copied_2 kl9_L_98 c2.1 rfl (by have h8 := c2.2; show (Int32.ofNat (kn Y a0)).toNatClampNeg * 4 ≤ 536870912; omega) c3.1 c4 ?_
  obtain ⟨Y5, eY5, h⟩ := x_lt h
  refine x_nmY eY5 ?_
  obtain ⟨N6, eN6, h⟩ := x_lt h
  refine x_nmM eN6 ?_
  have k7 : kc Y5 q = 8 := by rw [eY5]; exact kcq rfl
  refine x_astore_n (L' := [(0, .ref a0), (1, .ref q)]) [1, 0] dL_copied_5 rfl (by decide) rfl ?_
  refine x_iconst (v := 0) dL_copied_6 rfl ?_
  refine x_istore_n (L' := [(0, .ref a0), (1, .ref q), (2, .int 0)]) [1, 2, 0] dL_copied_7 rfl (by decide) rfl ?_
  exact T_L_copied_8 (G := G) FU Y5 (q + 1) a0 q 0 1 (0 + ((Int32.ofNat (kn Y a0)).toNatClampNeg)) N6 h
set_option maxHeartbeats 4000000 in
set_option maxRecDepth 100000 in
theorem T_L_placeIn_2 {G : XG} {tb : List ExceptionTableEntry} {Y : XY} {rz : Int32} {Nz : XN} : ∀ (D9 : Nat) (p_0 : Nat) (v_1 : Int32) (v_2 : Int32) (N : XN), f_L_placeIn_2 Y D9 p_0 v_1 v_2 N = some (rz, Nz) → ExZ G yL_placeIn cL_placeIn 3 (some .int) tb (xR 1 0 0) (xZn G (xR 1 0 0) (some (.int rz)) Y Nz) 0 0 2 [(0, .ref p_0), (1, .int v_1), (2, .int v_2)] [] Y N := by
  intro D9
  induction D9 with
  | zero => intro p_0 v_1 v_2 N h; exact nomatch (show none = some _ from h)
  | succ D9 ih =>
    intro p_0 v_1 v_2 N h
    rw [f_L_placeIn_2] at h
    refine x_iload_n 2 dL_placeIn_2 rfl rfl ?_
    refine x_aload_n 0 dL_placeIn_3 rfl rfl ?_
    obtain ⟨c1, h⟩ := x_ckk h
    refine x_ilen dL_placeIn_4 c1 rfl ?_
    rcases x_if h with ⟨c2, h⟩ | ⟨c2, h⟩
    · refine x_icmp_ge_t (tgt := 23) dL_placeIn_5 (by decide) c2 ?_
      refine x_iconst (v := (-1)) dL_placeIn_23 rfl ?_
      obtain ⟨rfl, rfl⟩ := Prod.mk.inj (x_so h)
      exact x_niret dL_placeIn_24 rfl rfl rfl
    · refine x_icmp_ge_f (tgt := 23) dL_placeIn_5 (by decide) c2 ?_
      refine x_aload_n 0 dL_placeIn_8 rfl rfl ?_
      refine x_iload_n 2 dL_placeIn_9 rfl rfl ?_
      obtain ⟨c3, h⟩ := x_ckk h
      refine x_iald dL_placeIn_10 c1 (xb_in c3) rfl ?_
      refine x_iload_n 1 dL_placeIn_11 rfl rfl ?_
      rcases x_if h with ⟨c4, h⟩ | ⟨c4, h⟩
      · refine x_icmp_ne_f (tgt := 17) dL_placeIn_12 (by decide) c4 ?_
        refine x_iload_n 2 dL_placeIn_15 rfl rfl ?_
        obtain ⟨rfl, rfl⟩ := Prod.mk.inj (x_so h)
        exact x_niret dL_placeIn_16 rfl rfl rfl
      · refine x_icmp_ne_t (tgt := 17) dL_placeIn_12 (by decide) c4 ?_
        refine x_iinc (L' := [(0, .ref p_0), (1, .int v_1), (2, .int (v_2 + 1))]) 2 [1, 2, 0] dL_placeIn_17 rfl rfl (by decide) rfl ?_
        refine x_goto (tgt := 2) dL_placeIn_20 (by decide) ?_
        exact ih p_0 v_1 (v_2 + 1) N h
set_option maxHeartbeats 4000000 in
set_option maxRecDepth 100000 in
theorem T_L_placeIn {G : XG} {Y : XY} {a0 : Nat} {a1 : Int32} {N : XN} {rz : Int32} {Nz : XN} (h : f_L_placeIn Y a0 a1 N = some (rz, Nz)) : Cn G yL_placeIn cL_placeIn 3 (some .int) (xR 1 0 0) [.ref a0, .int a1] (some (.int rz)) Y N Y Nz := by
  refine x_entryN (by decide) (Nat.le_of_ble_eq_true rfl) rfl fun tb => ?_
  rw [f_L_placeIn] at h
  refine x_iconst (v := 0) dL_placeIn_0 rfl ?_
  refine x_istore_n (L' := [(0, .ref a0), (1, .int a1), (2, .int 0)]) [1, 2, 0] dL_placeIn_1 rfl (by decide) rfl ?_
  exact T_L_placeIn_2 (G := G) FU a0 a1 0 N h
set_option maxHeartbeats 4000000 in
set_option maxRecDepth 100000 in
theorem T_L_extended_9 {G : XG} {tb : List ExceptionTableEntry} {rz : Nat} {Yz : XY} {qz : Nat} {Nz : XN} : ∀ (D9 : Nat) (Y : XY) (q : Nat) (p_0 : Nat) (v_1 : Int32) (p_2 : Nat) (v_3 : Int32) (k : Nat) (n : Nat) (N : XN), f_L_extended_9 D9 Y q p_0 v_1 p_2 v_3 k n N = some (rz, Yz, qz, Nz) → ExZ G yL_extended cL_extended 4 (some (.array .int)) tb (xR 1 1 4) (xZn G (xR 1 1 4) (some (.ref rz)) Yz Nz) k n 9 [(0, .ref p_0), (1, .int v_1), (2, .ref p_2), (3, .int v_3)] [] Y N := by
  intro D9
  induction D9 with
  | zero => intro Y q p_0 v_1 p_2 v_3 k n N h; exact nomatch (show none = some _ from h)
  | succ D9 ih =>
    intro Y q p_0 v_1 p_2 v_3 k n N h
    rw [f_L_extended_9] at h
    refine x_iload_n 3 dL_extended_9 rfl rfl ?_
    refine x_aload_n 0 dL_extended_10 rfl rfl ?_
    obtain ⟨c1, h⟩ := x_ckk h
    refine x_ilen dL_extended_11 c1 rfl ?_
    rcases x_if h with ⟨c2, h⟩ | ⟨c2, h⟩
    · refine x_icmp_ge_t (tgt := 27) dL_extended_12 (by decide) c2 ?_
      refine x_aload_n 2 dL_extended_27 rfl rfl ?_
      refine x_aload_n 0 dL_extended_28 rfl rfl ?_
      refine x_ilen dL_extended_29 c1 rfl ?_
      refine x_iload_n 1 dL_extended_30 rfl rfl ?_
      obtain ⟨c3, h⟩ := x_ckk h
      obtain ⟨c4, h⟩ := x_ckk h
      refine x_iast dL_extended_31 c3 (xb_in c4) rfl ?_
      obtain ⟨N5, eN5, h⟩ := x_lt h
      refine x_nmM eN5 ?_
      refine x_aload_n 2 dL_extended_32 rfl rfl ?_
      obtain ⟨c6, h⟩ := x_ckk h
      refine x_wide (k' := 1) (n' := 4) c6 ?_
      obtain ⟨rfl, h8⟩ := Prod.mk.inj (x_so h)
      obtain ⟨rfl, h7⟩ := Prod.mk.inj h8
      obtain ⟨rfl, rfl⟩ := Prod.mk.inj h7
      exact x_naret dL_extended_33 rfl (Or.inr ⟨_, rfl⟩) rfl rfl
    · refine x_icmp_ge_f (tgt := 27) dL_extended_12 (by decide) c2 ?_
      refine x_aload_n 2 dL_extended_15 rfl rfl ?_
      refine x_iload_n 3 dL_extended_16 rfl rfl ?_
      refine x_aload_n 0 dL_extended_17 rfl rfl ?_
      refine x_iload_n 3 dL_extended_18 rfl rfl ?_
      obtain ⟨c7, h⟩ := x_ckk h
      refine x_iald dL_extended_19 c1 (xb_in c7) rfl ?_
      obtain ⟨c8, h⟩ := x_ckk h
      obtain ⟨c9, h⟩ := x_ckk h
      refine x_iast dL_extended_20 c8 (xb_in c9) rfl ?_
      obtain ⟨N10, eN10, h⟩ := x_lt h
      refine x_nmM eN10 ?_
      refine x_iinc (L' := [(0, .ref p_0), (1, .int v_1), (2, .ref p_2), (3, .int (v_3 + 1))]) 3 [1, 2, 3, 0] dL_extended_21 rfl rfl (by decide) rfl ?_
      refine x_goto (tgt := 9) dL_extended_24 (by decide) ?_
      exact ih Y q p_0 v_1 p_2 (v_3 + 1) k n N10 h
set_option maxHeartbeats 4000000 in
set_option maxRecDepth 100000 in
theorem T_L_extended {G : XG} {Y : XY} {q : Nat} {a0 : Nat} {a1 : Int32} {N : XN} {rz : Nat} {Yz : XY} {qz : Nat} {Nz : XN} (h : f_L_extended Y q a0 a1 N = some (rz, Yz, qz, Nz)) : Cn G yL_extended cL_extended 4 (some (.array .int)) (xR 1 1 4) [.ref a0, .int a1] (some (.ref rz)) Y N Yz Nz := by
  refine x_entryN (by decide) (Nat.le_of_ble_eq_true rfl) rfl fun tb => ?_
  rw [f_L_extended] at h
  refine x_aload_n 0 dL_extended_0 rfl rfl ?_
  obtain ⟨c1, h⟩ := x_ckk h
  refine x_ilen dL_extended_1 c1 rfl ?_
  refine x_iconst (v := 1) dL_extended_2 rfl ?_
  refine x_iadd dL_extended_3 ?_
  obtain ⟨c2, h⟩ := x_ckk h
  obtain ⟨c3, h⟩ := x_ckk h
  obtain ⟨c4, h⟩ := x_ckk h
  refine x_newP (q := q) (M := ((Int32.ofNat (kn Y a0)) + 1).toNatClampNeg) (kd := 1) dL_extended_4 rfl ac9_int c2.1 rfl (by have h8 := c2.2; show ((Int32.ofNat (kn Y a0)) + 1).toNatClampNeg * 4 ≤ 536870912; omega) (Or.inl ⟨rfl, rfl, rfl⟩) c3.1 c4 ?_
  obtain ⟨Y5, eY5, h⟩ := x_lt h
  refine x_nmY eY5 ?_
  obtain ⟨N6, eN6, h⟩ := x_lt h
  refine x_nmM eN6 ?_
  have k7 : kc Y5 q = 1 := by rw [eY5]; exact kcq rfl
  refine x_astore_n (L' := [(0, .ref a0), (1, .int a1), (2, .ref q)]) [1, 2, 0] dL_extended_6 rfl (by decide) rfl ?_
  refine x_iconst (v := 0) dL_extended_7 rfl ?_
  refine x_istore_n (L' := [(0, .ref a0), (1, .int a1), (2, .ref q), (3, .int 0)]) [1, 2, 3, 0] dL_extended_8 rfl (by decide) rfl ?_
  exact T_L_extended_9 (G := G) FU Y5 (q + 1) a0 a1 q 0 1 (0 + (((Int32.ofNat (kn Y a0)) + 1).toNatClampNeg)) N6 h
set_option maxHeartbeats 4000000 in
set_option maxRecDepth 100000 in
theorem T_L_without_9 {G : XG} {tb : List ExceptionTableEntry} {rz : Nat} {Yz : XY} {qz : Nat} {Nz : XN} : ∀ (D9 : Nat) (Y : XY) (q : Nat) (p_0 : Nat) (v_1 : Int32) (p_2 : Nat) (v_3 : Int32) (k : Nat) (n : Nat) (N : XN), f_L_without_9 D9 Y q p_0 v_1 p_2 v_3 k n N = some (rz, Yz, qz, Nz) → ExZ G yL_without cL_without 4 (some (.array .int)) tb (xR 1 1 4) (xZn G (xR 1 1 4) (some (.ref rz)) Yz Nz) k n 9 [(0, .ref p_0), (1, .int v_1), (2, .ref p_2), (3, .int v_3)] [] Y N := by
  intro D9
  induction D9 with
  | zero => intro Y q p_0 v_1 p_2 v_3 k n N h; exact nomatch (show none = some _ from h)
  | succ D9 ih =>
    intro Y q p_0 v_1 p_2 v_3 k n N h
    rw [f_L_without_9] at h
    refine x_iload_n 3 dL_without_9 rfl rfl ?_
    refine x_aload_n 2 dL_without_10 rfl rfl ?_
    obtain ⟨c1, h⟩ := x_ckk h
    refine x_ilen dL_without_11 c1 rfl ?_
    rcases x_if h with ⟨c2, h⟩ | ⟨c2, h⟩
    · refine x_icmp_ge_t (tgt := 38) dL_without_12 (by decide) c2 ?_
      refine x_aload_n 2 dL_without_38 rfl rfl ?_
      obtain ⟨c3, h⟩ := x_ckk h
      refine x_wide (k' := 1) (n' := 4) c3 ?_
      obtain ⟨rfl, h8⟩ := Prod.mk.inj (x_so h)
      obtain ⟨rfl, h7⟩ := Prod.mk.inj h8
      obtain ⟨rfl, rfl⟩ := Prod.mk.inj h7
      exact x_naret dL_without_39 rfl (Or.inr ⟨_, rfl⟩) rfl rfl
    · refine x_icmp_ge_f (tgt := 38) dL_without_12 (by decide) c2 ?_
      refine x_aload_n 2 dL_without_15 rfl rfl ?_
      refine x_iload_n 3 dL_without_16 rfl rfl ?_
      refine x_aload_n 0 dL_without_17 rfl rfl ?_
      refine x_iload_n 3 dL_without_18 rfl rfl ?_
      refine x_iload_n 1 dL_without_19 rfl rfl ?_
      rcases x_if h with ⟨c4, h⟩ | ⟨c4, h⟩
      · refine x_icmp_ge_t (tgt := 27) dL_without_20 (by decide) c4 ?_
        refine x_iload_n 3 dL_without_27 rfl rfl ?_
        refine x_iconst (v := 1) dL_without_28 rfl ?_
        refine x_iadd dL_without_29 ?_
        obtain ⟨c5, h⟩ := x_ckk h
        obtain ⟨c6, h⟩ := x_ckk h
        refine x_iald dL_without_30 c5 (xb_in c6) rfl ?_
        obtain ⟨c7, h⟩ := x_ckk h
        refine x_iast dL_without_31 c1 (xb_in c7) rfl ?_
        obtain ⟨N8, eN8, h⟩ := x_lt h
        refine x_nmM eN8 ?_
        refine x_iinc (L' := [(0, .ref p_0), (1, .int v_1), (2, .ref p_2), (3, .int (v_3 + 1))]) 3 [1, 2, 3, 0] dL_without_32 rfl rfl (by decide) rfl ?_
        refine x_goto (tgt := 9) dL_without_35 (by decide) ?_
        exact ih Y q p_0 v_1 p_2 (v_3 + 1) k n N8 h
      · refine x_icmp_ge_f (tgt := 27) dL_without_20 (by decide) c4 ?_
        refine x_iload_n 3 dL_without_23 rfl rfl ?_
        refine x_goto (tgt := 30) dL_without_24 (by decide) ?_
        obtain ⟨c9, h⟩ := x_ckk h
        obtain ⟨c10, h⟩ := x_ckk h
        refine x_iald dL_without_30 c9 (xb_in c10) rfl ?_
        obtain ⟨c11, h⟩ := x_ckk h
        refine x_iast dL_without_31 c1 (xb_in c11) rfl ?_
        obtain ⟨N12, eN12, h⟩ := x_lt h
        refine x_nmM eN12 ?_
        refine x_iinc (L' := [(0, .ref p_0), (1, .int v_1), (2, .ref p_2), (3, .int (v_3 + 1))]) 3 [1, 2, 3, 0] dL_without_32 rfl rfl (by decide) rfl ?_
        refine x_goto (tgt := 9) dL_without_35 (by decide) ?_
        exact ih Y q p_0 v_1 p_2 (v_3 + 1) k n N12 h
set_option maxHeartbeats 4000000 in
set_option maxRecDepth 100000 in
theorem T_L_without {G : XG} {Y : XY} {q : Nat} {a0 : Nat} {a1 : Int32} {N : XN} {rz : Nat} {Yz : XY} {qz : Nat} {Nz : XN} (h : f_L_without Y q a0 a1 N = some (rz, Yz, qz, Nz)) : Cn G yL_without cL_without 4 (some (.array .int)) (xR 1 1 4) [.ref a0, .int a1] (some (.ref rz)) Y N Yz Nz := by
  refine x_entryN (by decide) (Nat.le_of_ble_eq_true rfl) rfl fun tb => ?_
  rw [f_L_without] at h
  refine x_aload_n 0 dL_without_0 rfl rfl ?_
  obtain ⟨c1, h⟩ := x_ckk h
  refine x_ilen dL_without_1 c1 rfl ?_
  refine x_iconst (v := 1) dL_without_2 rfl ?_
  refine x_isub dL_without_3 ?_
  obtain ⟨c2, h⟩ := x_ckk h
  obtain ⟨c3, h⟩ := x_ckk h
  obtain ⟨c4, h⟩ := x_ckk h
  refine x_newP (q := q) (M := ((Int32.ofNat (kn Y a0)) - 1).toNatClampNeg) (kd := 1) dL_without_4 rfl ac9_int c2.1 rfl (by have h8 := c2.2; show ((Int32.ofNat (kn Y a0)) - 1).toNatClampNeg * 4 ≤ 536870912; omega) (Or.inl ⟨rfl, rfl, rfl⟩) c3.1 c4 ?_
  obtain ⟨Y5, eY5, h⟩ := x_lt h
  refine x_nmY eY5 ?_
  obtain ⟨N6, eN6, h⟩ := x_lt h
  refine x_nmM eN6 ?_
  have k7 : kc Y5 q = 1 := by rw [eY5]; exact kcq rfl
  refine x_astore_n (L' := [(0, .ref a0), (1, .int a1), (2, .ref q)]) [1, 2, 0] dL_without_6 rfl (by decide) rfl ?_
  refine x_iconst (v := 0) dL_without_7 rfl ?_
  refine x_istore_n (L' := [(0, .ref a0), (1, .int a1), (2, .ref q), (3, .int 0)]) [1, 2, 3, 0] dL_without_8 rfl (by decide) rfl ?_
  exact T_L_without_9 (G := G) FU Y5 (q + 1) a0 a1 q 0 1 (0 + (((Int32.ofNat (kn Y a0)) - 1).toNatClampNeg)) N6 h
