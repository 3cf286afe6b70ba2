set_option maxHeartbeats 4000000 in
set_option maxRecDepth 100000 in
theorem T_X10_init {G : XG} {Y : XY} {a0 : Nat} {a1 : Int32} {N : XN} {Nz : XN} (h : f_X10_init Y a0 a1 N = some Nz) : Cn G yX10_init cX10_init 2 none (xR 1 0 0) [.ref a0, .int a1] none Y N Y Nz := by
  refine x_entryN (by decide) (Nat.le_of_ble_eq_true rfl) rfl fun tb => ?_
  rw [f_X10_init] at h
  refine x_aload_n 0 dX10_init_0 rfl rfl ?_
  refine x_super dX10_init_1 oi_X10_1 oi_i oi_c (by decide) (Nat.le_of_ble_eq_true rfl) (Nat.le_of_ble_eq_true rfl) ?_
  refine x_aload_n 0 dX10_init_4 rfl rfl ?_
  refine x_iload_n 1 dX10_init_5 rfl rfl ?_
  obtain ⟨c1, h⟩ := x_ckk h
  refine x_puti dX10_init_6 vc_X10 xin10 tyX10_ok nmX10 fb_X10_0 fl_X10_7 ff_X10_0 xr_X10_0 (nf_X10_0 _) (ft_X10_0 _) c1 ?_
  obtain ⟨N2, eN2, h⟩ := x_lt h
  refine x_nmM eN2 ?_
  obtain rfl := x_so h
  exact x_nvret dX10_init_9 rfl rfl rfl
set_option maxHeartbeats 4000000 in
set_option maxRecDepth 100000 in
theorem T_X10_below {G : XG} {Y : XY} {a0 : Nat} {a1 : Int32} {N : XN} {rz : Int32} {Nz : XN} (h : f_X10_below Y a0 a1 N = some (rz, Nz)) : Cn G yX10_below cX10_below 2 (some .int) (xR 1 0 0) [.ref a0, .int a1] (some (.int rz)) Y N Y Nz := by
  refine x_entryN (by decide) (Nat.le_of_ble_eq_true rfl) rfl fun tb => ?_
  rw [f_X10_below] at h
  refine x_aload_n 0 dX10_below_0 rfl rfl ?_
  refine x_ldc (v := 1103515245) dX10_below_1 kc_X10_13 ?_
  refine x_aload_n 0 dX10_below_3 rfl rfl ?_
  obtain ⟨c1, h⟩ := x_ckk h
  refine x_geti dX10_below_4 vc_X10 xin10 fb_X10_0 fl_X10_7 xr_X10_0 c1 ?_
  refine x_imul dX10_below_7 ?_
  refine x_sipush (v := 12345) dX10_below_8 rfl ?_
  refine x_iadd dX10_below_11 ?_
  refine x_puti dX10_below_12 vc_X10 xin10 tyX10_ok nmX10 fb_X10_0 fl_X10_7 ff_X10_0 xr_X10_0 (nf_X10_0 _) (ft_X10_0 _) c1 ?_
  obtain ⟨N2, eN2, h⟩ := x_lt h
  refine x_nmM eN2 ?_
  refine x_aload_n 0 dX10_below_15 rfl rfl ?_
  refine x_geti dX10_below_16 vc_X10 xin10 fb_X10_0 fl_X10_7 xr_X10_0 c1 ?_
  refine x_bipush (v := 16) dX10_below_19 rfl ?_
  refine x_iushr dX10_below_21 rfl ?_
  refine x_iload_n 1 dX10_below_22 rfl rfl ?_
  obtain ⟨c3, h⟩ := x_ckk h
  refine x_irem dX10_below_23 c3 ?_
  obtain ⟨rfl, rfl⟩ := Prod.mk.inj (x_so h)
  exact x_niret dX10_below_24 rfl rfl rfl
set_option maxHeartbeats 4000000 in
set_option maxRecDepth 100000 in
theorem T_X9_init {G : XG} {Y : XY} {a0 : Nat} {N : XN} {Nz : XN} (h : f_X9_init Y a0 N = some Nz) : Cn G yX9_init cX9_init 1 none (xR 1 0 0) [.ref a0] none Y N Y Nz := by
  refine x_entryN (by decide) (Nat.le_of_ble_eq_true rfl) rfl fun tb => ?_
  rw [f_X9_init] at h
  refine x_aload_n 0 dX9_init_0 rfl rfl ?_
  refine x_super dX9_init_1 oi_X9_1 oi_i oi_c (by decide) (Nat.le_of_ble_eq_true rfl) (Nat.le_of_ble_eq_true rfl) ?_
  obtain rfl := x_so h
  exact x_nvret dX9_init_4 rfl rfl rfl
set_option maxHeartbeats 4000000 in
set_option maxRecDepth 100000 in
theorem T_X9_random_67 {G : XG} {tb : List ExceptionTableEntry} {FS : XY → Nat → Nat → Int32 → XN → Option (Nat × XY × Nat × XN)} (D : Nat) (ihD : ∀ {Y : XY} {q : Nat} {a0 : Nat} {a1 : Int32} {N : XN} {rz : Nat} {Yz : XY} {qz : Nat} {Nz : XN}, FS Y q a0 a1 N = some (rz, Yz, qz, Nz) → Cn G yX9_random cX9_random 3 (some (.object "LineLeasesLaw$Node")) (xR (2 + D) (rC 1 D) (rC 4 D)) [.ref a0, .int a1] (some (.ref rz)) Y N Yz Nz) {rz : Nat} {Yz : XY} {qz : Nat} {Nz : XN} (Y : XY) (q : Nat) (p_0 : Nat) (v_1 : Int32) (p_2 : Nat) (s0 : Int32) (o1 : Nat) (k : Nat) (n : Nat) (N : XN) (h : f_X9_random_67 FS D Y q p_0 v_1 p_2 s0 o1 k n N = some (rz, Yz, qz, Nz)) : ExZ G yX9_random cX9_random 3 (some (.object "LineLeasesLaw$Node")) tb (xR (2 + D + 1) (rC 1 (D + 1)) (rC 4 (D + 1))) (xZn G (xR (2 + D + 1) (rC 1 (D + 1)) (rC 4 (D + 1))) (some (.ref rz)) Yz Nz) k n 67 [(0, .ref p_0), (1, .int v_1), (2, .ref p_2)] [.int s0, .ref o1] Y N := by
  rw [f_X9_random_67] at h
  obtain ⟨c1, h⟩ := x_ckk h
  refine x_puti dX9_random_67 vc_X9 xin9 tyX9_ok nmX9 fb_X9_1 fl_X9_20 ff_X9_1 xr_X9_1 (nf_X9_1 _) (ft_X9_1 _) c1 ?_
  obtain ⟨N2, eN2, h⟩ := x_lt h
  refine x_nmM eN2 ?_
  refine x_aload_n 2 dX9_random_70 rfl rfl ?_
  obtain ⟨c3, h⟩ := x_ckk h
  refine x_geti dX9_random_71 vc_X9 xin9 fb_X9_0 fl_X9_16 xr_X9_0 c3 ?_
  refine x_iconst (v := 1) dX9_random_74 rfl ?_
  rcases x_if h with ⟨c4, h⟩ | ⟨c4, h⟩
  · refine x_icmp_le_t (tgt := 100) dX9_random_75 (by decide) c4 ?_
    refine x_aload_n 2 dX9_random_100 rfl rfl ?_
    obtain ⟨c5, h⟩ := x_ckk h
    refine x_wide (k' := rC 1 (D + 1)) (n' := rC 4 (D + 1)) c5 ?_
    obtain ⟨rfl, h8⟩ := Prod.mk.inj (x_so h)
    obtain ⟨rfl, h7⟩ := Prod.mk.inj h8
    obtain ⟨rfl, rfl⟩ := Prod.mk.inj h7
    exact x_naret dX9_random_101 rfl (Or.inl ⟨_, rfl⟩) rfl rfl
  · refine x_icmp_le_f (tgt := 100) dX9_random_75 (by decide) c4 ?_
    refine x_aload_n 2 dX9_random_78 rfl rfl ?_
    refine x_aload_n 0 dX9_random_79 rfl rfl ?_
    refine x_iload_n 1 dX9_random_80 rfl rfl ?_
    refine x_iconst (v := 1) dX9_random_81 rfl ?_
    refine x_isub dX9_random_82 ?_
    obtain ⟨c6, h⟩ := x_ckk h
    obtain ⟨r7, Y9, q10, N11, e8, h⟩ := x_bd4 h
    refine x_nS (As := [.ref p_0, .int (v_1 - 1)]) (R' := xR (2 + D) (rC 1 D) (rC 4 D)) (zz := yX9_random) dX9_random_83 ml_X9_23 wt_X9_random wn_X9 wc_X9_random hp_X9_random ⟨by show (2 + D) + 1 ≤ (2 + D + 1); omega, by show 8 + (3 + 11) + 42 * (2 + D) ≤ 42 * (2 + D + 1); omega⟩ rfl (Nat.le_of_ble_eq_true rfl) c6 (ihD e8) ?_
    obtain ⟨c12, h⟩ := x_ckk h
    refine x_putr dX9_random_86 vc_X9 xin9 tyX9_ok nmX9 fb_X9_2 fl_X9_27 ff_X9_2 xr_X9_2 rfl rfl c12 ?_
    obtain ⟨Y13, eY13, h⟩ := x_lt h
    refine x_nmY eY13 ?_
    refine x_aload_n 2 dX9_random_89 rfl rfl ?_
    refine x_aload_n 0 dX9_random_90 rfl rfl ?_
    refine x_iload_n 1 dX9_random_91 rfl rfl ?_
    refine x_iconst (v := 1) dX9_random_92 rfl ?_
    refine x_isub dX9_random_93 ?_
    obtain ⟨c14, h⟩ := x_ckk h
    obtain ⟨r15, Y17, q18, N19, e16, h⟩ := x_bd4 h
    refine x_nS (As := [.ref p_0, .int (v_1 - 1)]) (R' := xR (2 + D) (rC 1 D) (rC 4 D)) (zz := yX9_random) dX9_random_94 ml_X9_23 wt_X9_random wn_X9 wc_X9_random hp_X9_random ⟨by show (2 + D) + 1 ≤ (2 + D + 1); omega, by show 8 + (3 + 11) + 42 * (2 + D) ≤ 42 * (2 + D + 1); omega⟩ rfl (Nat.le_of_ble_eq_true rfl) c14 (ihD e16) ?_
    obtain ⟨c20, h⟩ := x_ckk h
    refine x_putr dX9_random_97 vc_X9 xin9 tyX9_ok nmX9 fb_X9_3 fl_X9_31 ff_X9_3 xr_X9_3 rfl rfl c20 ?_
    obtain ⟨Y21, eY21, h⟩ := x_lt h
    refine x_nmY eY21 ?_
    refine x_aload_n 2 dX9_random_100 rfl rfl ?_
    refine x_wide (k' := rC 1 (D + 1)) (n' := rC 4 (D + 1)) c14 ?_
    obtain ⟨rfl, h8⟩ := Prod.mk.inj (x_so h)
    obtain ⟨rfl, h7⟩ := Prod.mk.inj h8
    obtain ⟨rfl, rfl⟩ := Prod.mk.inj h7
    exact x_naret dX9_random_101 rfl (Or.inl ⟨_, rfl⟩) rfl rfl
set_option maxHeartbeats 4000000 in
set_option maxRecDepth 100000 in
theorem T_X9_random_56 {G : XG} {tb : List ExceptionTableEntry} {FS : XY → Nat → Nat → Int32 → XN → Option (Nat × XY × Nat × XN)} (D : Nat) (ihD : ∀ {Y : XY} {q : Nat} {a0 : Nat} {a1 : Int32} {N : XN} {rz : Nat} {Yz : XY} {qz : Nat} {Nz : XN}, FS Y q a0 a1 N = some (rz, Yz, qz, Nz) → Cn G yX9_random cX9_random 3 (some (.object "LineLeasesLaw$Node")) (xR (2 + D) (rC 1 D) (rC 4 D)) [.ref a0, .int a1] (some (.ref rz)) Y N Yz Nz) {rz : Nat} {Yz : XY} {qz : Nat} {Nz : XN} (Y : XY) (q : Nat) (p_0 : Nat) (v_1 : Int32) (p_2 : Nat) (s0 : Int32) (o1 : Nat) (o2 : Nat) (k : Nat) (n : Nat) (N : XN) (h : f_X9_random_56 FS D Y q p_0 v_1 p_2 s0 o1 o2 k n N = some (rz, Yz, qz, Nz)) : ExZ G yX9_random cX9_random 3 (some (.object "LineLeasesLaw$Node")) tb (xR (2 + D + 1) (rC 1 (D + 1)) (rC 4 (D + 1))) (xZn G (xR (2 + D + 1) (rC 1 (D + 1)) (rC 4 (D + 1))) (some (.ref rz)) Yz Nz) k n 56 [(0, .ref p_0), (1, .int v_1), (2, .ref p_2)] [.int s0, .ref o1, .ref o2] Y N := by
  rw [f_X9_random_56] at h
  obtain ⟨c1, h⟩ := x_ckk h
  obtain ⟨c2, h⟩ := x_ckk h
  obtain ⟨r3, N5, e4, h⟩ := x_bd2 h
  refine x_nV (b := o1) (As := [.int s0]) (ci := 10) (R' := xR 1 0 0) (zz := yX10_below) dX9_random_56 ml_X9_10 wi_X10_below wv_X10_below wn_X10 wc_X10_below hp_X10_below ⟨by show 1 + 1 ≤ (2 + D + 1); omega, by show 8 + (2 + 11) + 42 * 1 ≤ 42 * (2 + D + 1); omega⟩ rfl (Nat.le_of_ble_eq_true rfl) c2 vc_X10 c1 (T_X10_below (G := G) e4) ?_
  refine x_goto (tgt := 67) dX9_random_59 (by decide) ?_
  exact T_X9_random_67 (G := G) D ihD Y q p_0 v_1 p_2 r3 o2 k n N5 h
set_option maxHeartbeats 4000000 in
set_option maxRecDepth 100000 in
theorem T_X9_random_27 {G : XG} {tb : List ExceptionTableEntry} {FS : XY → Nat → Nat → Int32 → XN → Option (Nat × XY × Nat × XN)} (D : Nat) (ihD : ∀ {Y : XY} {q : Nat} {a0 : Nat} {a1 : Int32} {N : XN} {rz : Nat} {Yz : XY} {qz : Nat} {Nz : XN}, FS Y q a0 a1 N = some (rz, Yz, qz, Nz) → Cn G yX9_random cX9_random 3 (some (.object "LineLeasesLaw$Node")) (xR (2 + D) (rC 1 D) (rC 4 D)) [.ref a0, .int a1] (some (.ref rz)) Y N Yz Nz) {rz : Nat} {Yz : XY} {qz : Nat} {Nz : XN} (Y : XY) (q : Nat) (p_0 : Nat) (v_1 : Int32) (p_2 : Nat) (s0 : Int32) (o1 : Nat) (k : Nat) (n : Nat) (N : XN) (h : f_X9_random_27 FS D Y q p_0 v_1 p_2 s0 o1 k n N = some (rz, Yz, qz, Nz)) : ExZ G yX9_random cX9_random 3 (some (.object "LineLeasesLaw$Node")) tb (xR (2 + D + 1) (rC 1 (D + 1)) (rC 4 (D + 1))) (xZn G (xR (2 + D + 1) (rC 1 (D + 1)) (rC 4 (D + 1))) (some (.ref rz)) Yz Nz) k n 27 [(0, .ref p_0), (1, .int v_1), (2, .ref p_2)] [.int s0, .ref o1] Y N := by
  rw [f_X9_random_27] at h
  obtain ⟨c1, h⟩ := x_ckk h
  refine x_puti dX9_random_27 vc_X9 xin9 tyX9_ok nmX9 fb_X9_0 fl_X9_16 ff_X9_0 xr_X9_0 (nf_X9_0 _) (ft_X9_0 _) c1 ?_
  obtain ⟨N2, eN2, h⟩ := x_lt h
  refine x_nmM eN2 ?_
  refine x_aload_n 2 dX9_random_30 rfl rfl ?_
  refine x_aload_n 2 dX9_random_31 rfl rfl ?_
  obtain ⟨c3, h⟩ := x_ckk h
  refine x_geti dX9_random_32 vc_X9 xin9 fb_X9_0 fl_X9_16 xr_X9_0 c3 ?_
  rcases x_if h with ⟨c4, h⟩ | ⟨c4, h⟩
  · refine x_if_ne_f (tgt := 62) dX9_random_35 (by decide) c4 ?_
    refine x_aload_n 0 dX9_random_38 rfl rfl ?_
    refine x_aload_n 0 dX9_random_39 rfl rfl ?_
    refine x_bipush (v := 8) dX9_random_40 rfl ?_
    obtain ⟨c5, h⟩ := x_ckk h
    obtain ⟨c6, h⟩ := x_ckk h
    obtain ⟨r7, N9, e8, h⟩ := x_bd2 h
    refine x_nV (b := p_0) (As := [.int 8]) (ci := 10) (R' := xR 1 0 0) (zz := yX10_below) dX9_random_42 ml_X9_10 wi_X10_below wv_X10_below wn_X10 wc_X10_below hp_X10_below ⟨by show 1 + 1 ≤ (2 + D + 1); omega, by show 8 + (2 + 11) + 42 * 1 ≤ 42 * (2 + D + 1); omega⟩ rfl (Nat.le_of_ble_eq_true rfl) c6 vc_X10 c5 (T_X10_below (G := G) e8) ?_
    rcases x_if h with ⟨c10, h⟩ | ⟨c10, h⟩
    · refine x_if_ne_f (tgt := 54) dX9_random_45 (by decide) c10 ?_
      refine x_sipush (v := 10000) dX9_random_48 rfl ?_
      refine x_goto (tgt := 56) dX9_random_51 (by decide) ?_
      exact T_X9_random_56 (G := G) D ihD Y q p_0 v_1 p_2 10000 p_0 p_2 k n N9 h
    · refine x_if_ne_t (tgt := 54) dX9_random_45 (by decide) c10 ?_
      refine x_bipush (v := 9) dX9_random_54 rfl ?_
      exact T_X9_random_56 (G := G) D ihD Y q p_0 v_1 p_2 9 p_0 p_2 k n N9 h
  · refine x_if_ne_t (tgt := 62) dX9_random_35 (by decide) c4 ?_
    refine x_aload_n 0 dX9_random_62 rfl rfl ?_
    refine x_iconst (v := 4) dX9_random_63 rfl ?_
    obtain ⟨c11, h⟩ := x_ckk h
    obtain ⟨c12, h⟩ := x_ckk h
    obtain ⟨r13, N15, e14, h⟩ := x_bd2 h
    refine x_nV (b := p_0) (As := [.int 4]) (ci := 10) (R' := xR 1 0 0) (zz := yX10_below) dX9_random_64 ml_X9_10 wi_X10_below wv_X10_below wn_X10 wc_X10_below hp_X10_below ⟨by show 1 + 1 ≤ (2 + D + 1); omega, by show 8 + (2 + 11) + 42 * 1 ≤ 42 * (2 + D + 1); omega⟩ rfl (Nat.le_of_ble_eq_true rfl) c12 vc_X10 c11 (T_X10_below (G := G) e14) ?_
    exact T_X9_random_67 (G := G) D ihD Y q p_0 v_1 p_2 r13 p_2 k n N15 h
set_option maxHeartbeats 4000000 in
set_option maxRecDepth 100000 in
theorem T_X9_random {G : XG} : ∀ (D : Nat) {Y : XY} {q : Nat} {a0 : Nat} {a1 : Int32} {N : XN} {rz : Nat} {Yz : XY} {qz : Nat} {Nz : XN}, f_X9_random D Y q a0 a1 N = some (rz, Yz, qz, Nz) → Cn G yX9_random cX9_random 3 (some (.object "LineLeasesLaw$Node")) (xR (2 + D) (rC 1 D) (rC 4 D)) [.ref a0, .int a1] (some (.ref rz)) Y N Yz Nz := by
  intro D
  induction D with
  | zero => intro Y q a0 a1 N rz Yz qz Nz h; exact nomatch (show none = some _ from h)
  | succ D ihD =>
    intro Y q a0 a1 N rz Yz qz Nz h
    refine x_entryN (by decide) (Nat.le_of_ble_eq_true rfl) rfl fun tb => ?_
    rw [f_X9_random] at h
    obtain ⟨c1, h⟩ := x_ckk h
    refine x_newO (q := q) (ci := 9) dX9_random_0 vc_X9 xin9 tyX9_ok kl9_X9_7 it9_X9 wn_X9 (fun j hj => match j, hj with | 0, _ => rfl | 1, _ => rfl | 2, _ => rfl | 3, _ => rfl | z + 4, h => absurd h (by omega)) c1.1 ⟨by show 1 ≤ 1 + 2 * rC 1 D; omega, by show 4 ≤ 4 + 2 * rC 4 D; omega⟩ ?_
    obtain ⟨Y2, eY2, h⟩ := x_lt h
    refine x_nmY eY2 ?_
    obtain ⟨N3, eN3, h⟩ := x_lt h
    refine x_nmM eN3 ?_
    have k4 : kc Y2 q = 19 := by rw [eY2]; exact kcq rfl
    refine x_dup dX9_random_3 rfl ?_
    obtain ⟨N6, e5, h⟩ := x_bd1 h
    refine x_init (b := q) (As := []) (R' := xR 1 0 0) (zz := yX9_init) dX9_random_4 ml_X9_9 wi_X9_init wn_X9 wc_X9_init rfl hp_X9_init ⟨by show 1 + 1 ≤ (2 + D + 1); omega, by show 8 + (1 + 11) + 42 * 1 ≤ 42 * (2 + D + 1); omega⟩ rfl (Nat.le_of_ble_eq_true rfl) ⟨by show 1 ≤ 1 + 2 * rC 1 D; omega, by show 4 ≤ 4 + 2 * rC 4 D; omega⟩ (T_X9_init (G := G) e5) ?_
    refine x_astore_n (L' := [(0, .ref a0), (1, .int a1), (2, .ref q)]) [1, 2, 0] dX9_random_7 rfl (by decide) rfl ?_
    refine x_aload_n 2 dX9_random_8 rfl rfl ?_
    refine x_iload_n 1 dX9_random_9 rfl rfl ?_
    rcases x_if h with ⟨c7, h⟩ | ⟨c7, h⟩
    · refine x_if_ne_f (tgt := 21) dX9_random_10 (by decide) c7 ?_
      refine x_aload_n 0 dX9_random_13 rfl rfl ?_
      refine x_iconst (v := 2) dX9_random_14 rfl ?_
      obtain ⟨c8, h⟩ := x_ckk h
      obtain ⟨r9, N11, e10, h⟩ := x_bd2 h
      refine x_nV (b := a0) (As := [.int 2]) (ci := 10) (R' := xR 1 0 0) (zz := yX10_below) dX9_random_15 ml_X9_10 wi_X10_below wv_X10_below wn_X10 wc_X10_below hp_X10_below ⟨by show 1 + 1 ≤ (2 + D + 1); omega, by show 8 + (2 + 11) + 42 * 1 ≤ 42 * (2 + D + 1); omega⟩ rfl (Nat.le_of_ble_eq_true rfl) ⟨by show 1 ≤ 1 + 2 * rC 1 D; omega, by show 4 ≤ 4 + 2 * rC 4 D; omega⟩ vc_X10 c8 (T_X10_below (G := G) e10) ?_
      refine x_goto (tgt := 27) dX9_random_18 (by decide) ?_
      exact T_X9_random_27 (G := G) D ihD Y2 (q + 1) a0 a1 q r9 q 1 4 N11 h
    · refine x_if_ne_t (tgt := 21) dX9_random_10 (by decide) c7 ?_
      refine x_aload_n 0 dX9_random_21 rfl rfl ?_
      refine x_bipush (v := 6) dX9_random_22 rfl ?_
      obtain ⟨c12, h⟩ := x_ckk h
      obtain ⟨r13, N15, e14, h⟩ := x_bd2 h
      refine x_nV (b := a0) (As := [.int 6]) (ci := 10) (R' := xR 1 0 0) (zz := yX10_below) dX9_random_24 ml_X9_10 wi_X10_below wv_X10_below wn_X10 wc_X10_below hp_X10_below ⟨by show 1 + 1 ≤ (2 + D + 1); omega, by show 8 + (2 + 11) + 42 * 1 ≤ 42 * (2 + D + 1); omega⟩ rfl (Nat.le_of_ble_eq_true rfl) ⟨by show 1 ≤ 1 + 2 * rC 1 D; omega, by show 4 ≤ 4 + 2 * rC 4 D; omega⟩ vc_X10 c12 (T_X10_below (G := G) e14) ?_
      exact T_X9_random_27 (G := G) D ihD Y2 (q + 1) a0 a1 q r13 q 1 4 N15 h
theorem T_X9_random_at {G : XG} {Y : XY} {q : Nat} {a0 : Nat} {a1 : Int32} {N : XN} {rz : Nat} {Yz : XY} {qz : Nat} {Nz : XN} (h : f_X9_random 3 Y q a0 a1 N = some (rz, Yz, qz, Nz)) : Cn G yX9_random cX9_random 3 (some (.object "LineLeasesLaw$Node")) (xR 5 7 28) [.ref a0, .int a1] (some (.ref rz)) Y N Yz Nz := T_X9_random 3 h
set_option maxHeartbeats 4000000 in
set_option maxRecDepth 100000 in
theorem T_X9_text_120 {G : XG} {tb : List ExceptionTableEntry} {FS : XY → Nat → Nat → Int32 → XN → Option (Nat × XY × Nat × XN)} (D : Nat) (ihD : ∀ {Y : XY} {q : Nat} {a0 : Nat} {a1 : Int32} {N : XN} {rz : Nat} {Yz : XY} {qz : Nat} {Nz : XN}, FS Y q a0 a1 N = some (rz, Yz, qz, Nz) → Cn G yX9_text cX9_text 4 (some (.object "java/lang/String")) (xR (7 + D) (rC 17 D) (rC 3300 D)) [.ref a0, .int a1] (some (.ref rz)) Y N Yz Nz) {rz : Nat} {Yz : XY} {qz : Nat} {Nz : XN} (Y : XY) (q : Nat) (p_0 : Nat) (v_1 : Int32) (v_2 : Int32) (o0 : Nat) (o1 : Nat) (k : Nat) (n : Nat) (N : XN) (h : f_X9_text_120 (xS G) (xSv G) FS D Y q p_0 v_1 v_2 o0 o1 k n N = some (rz, Yz, qz, Nz)) : ExZ G yX9_text cX9_text 4 (some (.object "java/lang/String")) tb (xR (7 + D + 1) (rC 17 (D + 1)) (rC 3300 (D + 1))) (xZn G (xR (7 + D + 1) (rC 17 (D + 1)) (rC 3300 (D + 1))) (some (.ref rz)) Yz Nz) k n 120 [(0, .ref p_0), (1, .int v_1), (2, .int v_2)] [.ref o0, .ref o1] Y N := by
  rw [f_X9_text_120] at h
  obtain ⟨c1, h⟩ := x_ckk h
  obtain ⟨c2, h⟩ := x_ckk h
  obtain ⟨r3, Y5, q6, N7, e4, h⟩ := x_bd4 h
  refine x_nV (b := o1) (As := [.ref o0]) (ci := 12) (R' := xR 6 1 400) (zz := yJ4_append_15ec4) dX9_text_120 ml_X9_39 wi_J4_append_15ec4 wv_J4_append_15ec4 wn_J4 wc_J4_append_15ec4 hp_J4_append_15ec4 ⟨by show 6 + 1 ≤ (7 + D + 1); omega, by show 8 + (2 + 11) + 42 * 6 ≤ 42 * (7 + D + 1); omega⟩ rfl (Nat.le_of_ble_eq_true rfl) c2 vc_J4 c1 (T_J4_append_15ec4 (G := G) e4) ?_
  refine x_aload_n 0 dX9_text_123 rfl rfl ?_
  obtain ⟨c8, h⟩ := x_ckk h
  obtain ⟨c10, h⟩ := x_ckk h
  obtain ⟨p9, lp9, h⟩ := x_lt h
  have ep9 : gr Y5 p_0 3 = some p9 := by rw [lp9]; exact c10
  refine x_getr dX9_text_124 vc_X9 xin9 fb_X9_3 fl_X9_31 xr_X9_3 c8 ep9 ?_
  refine x_iload_n 2 dX9_text_127 rfl rfl ?_
  refine x_iconst (v := 1) dX9_text_128 rfl ?_
  refine x_iadd dX9_text_129 ?_
  obtain ⟨c11, h⟩ := x_ckk h
  obtain ⟨c12, h⟩ := x_ckk h
  obtain ⟨r13, Y15, q16, N17, e14, h⟩ := x_bd4 h
  refine x_nV (b := p9) (As := [.int (v_2 + 1)]) (ci := 9) (R' := xR (7 + D) (rC 17 D) (rC 3300 D)) (zz := yX9_text) dX9_text_130 ml_X9_56 wi_X9_text wv_X9_text wn_X9 wc_X9_text hp_X9_text ⟨by show (7 + D) + 1 ≤ (7 + D + 1); omega, by show 8 + (4 + 11) + 42 * (7 + D) ≤ 42 * (7 + D + 1); omega⟩ rfl (Nat.le_of_ble_eq_true rfl) c12 vc_X9 c11 (ihD e14) ?_
  obtain ⟨c18, h⟩ := x_ckk h
  obtain ⟨c19, h⟩ := x_ckk h
  obtain ⟨r20, Y22, q23, N24, e21, h⟩ := x_bd4 h
  refine x_nV (b := r3) (As := [.ref r13]) (ci := 12) (R' := xR 6 1 400) (zz := yJ4_append_15ec4) dX9_text_133 ml_X9_39 wi_J4_append_15ec4 wv_J4_append_15ec4 wn_J4 wc_J4_append_15ec4 hp_J4_append_15ec4 ⟨by show 6 + 1 ≤ (7 + D + 1); omega, by show 8 + (2 + 11) + 42 * 6 ≤ 42 * (7 + D + 1); omega⟩ rfl (Nat.le_of_ble_eq_true rfl) c19 vc_J4 c18 (T_J4_append_15ec4 (G := G) e21) ?_
  obtain ⟨c25, h⟩ := x_ckk h
  obtain ⟨c26, h⟩ := x_ckk h
  obtain ⟨r27, Y29, q30, N31, e28, h⟩ := x_bd4 h
  refine x_nV (b := r20) (As := []) (ci := 12) (R' := xR 6 2 404) (zz := yJ4_toString_0e30d) dX9_text_136 ml_X9_46 wi_J4_toString_0e30d wv_J4_toString_0e30d wn_J4 wc_J4_toString_0e30d hp_J4_toString_0e30d ⟨by show 6 + 1 ≤ (7 + D + 1); omega, by show 8 + (1 + 11) + 42 * 6 ≤ 42 * (7 + D + 1); omega⟩ rfl (Nat.le_of_ble_eq_true rfl) c26 vc_J4 c25 (T_J4_toString_0e30d (G := G) e28) ?_
  refine x_astore_n (L' := [(1, .int v_1), (2, .int v_2), (3, .ref r27)]) [2, 3, 0] dX9_text_139 rfl (by decide) rfl ?_
  refine x_iload_n 1 dX9_text_140 rfl rfl ?_
  refine x_iload_n 0 dX9_text_141 rfl rfl ?_
  rcases x_if h with ⟨c32, h⟩ | ⟨c32, h⟩
  · refine x_icmp_ge_t (tgt := 172) dX9_text_142 (by decide) c32 ?_
    refine x_aload_n 2 dX9_text_172 rfl rfl ?_
    refine x_wide (k' := rC 17 (D + 1)) (n' := rC 3300 (D + 1)) c26 ?_
    obtain ⟨rfl, h8⟩ := Prod.mk.inj (x_so h)
    obtain ⟨rfl, h7⟩ := Prod.mk.inj h8
    obtain ⟨rfl, rfl⟩ := Prod.mk.inj h7
    exact x_naret dX9_text_173 rfl (Or.inl ⟨_, rfl⟩) rfl rfl
  · refine x_icmp_ge_f (tgt := 172) dX9_text_142 (by decide) c32 ?_
    obtain ⟨c33, h⟩ := x_ckk h
    obtain ⟨c34, h⟩ := x_ckk h
    refine x_newO (q := q30) (ci := 12) dX9_text_145 vc_J4 xin12 tyJ4_ok kl9_X9_34 it9_J4 wn_J4 (fun j hj => match j, hj with | 0, _ => rfl | 1, _ => rfl | 2, _ => rfl | 3, _ => rfl | z + 4, h => absurd h (by omega)) c33.1 c34 ?_
    obtain ⟨Y35, eY35, h⟩ := x_lt h
    refine x_nmY eY35 ?_
    obtain ⟨N36, eN36, h⟩ := x_lt h
    refine x_nmM eN36 ?_
    have k37 : kc Y35 q30 = 22 := by rw [eY35]; exact kcq rfl
    refine x_dup dX9_text_148 rfl ?_
    obtain ⟨c38, h⟩ := x_ckk h
    obtain ⟨Y40, q41, N42, e39, h⟩ := x_bd3 h
    refine x_init (b := q30) (As := []) (R' := xR 2 1 16) (zz := yJ4_init_da8c8) dX9_text_149 ml_X9_36 wi_J4_init_da8c8 wn_J4 wc_J4_init_da8c8 rfl hp_J4_init_da8c8 ⟨by show 2 + 1 ≤ (7 + D + 1); omega, by show 8 + (1 + 11) + 42 * 2 ≤ 42 * (7 + D + 1); omega⟩ rfl (Nat.le_of_ble_eq_true rfl) c38 (T_J4_init_da8c8 (G := G) e39) ?_
    refine x_ldcS (tx := "(") (i := 35) dX9_text_152 (by decide) ?_
    obtain ⟨c43, h⟩ := x_ckk h
    obtain ⟨c44, h⟩ := x_ckk h
    obtain ⟨r45, Y47, q48, N49, e46, h⟩ := x_bd4 h
    refine x_nV (b := q30) (As := [.ref (xS G 35)]) (ci := 12) (R' := xR 6 1 400) (zz := yJ4_append_15ec4) dX9_text_154 ml_X9_39 wi_J4_append_15ec4 wv_J4_append_15ec4 wn_J4 wc_J4_append_15ec4 hp_J4_append_15ec4 ⟨by show 6 + 1 ≤ (7 + D + 1); omega, by show 8 + (2 + 11) + 42 * 6 ≤ 42 * (7 + D + 1); omega⟩ rfl (Nat.le_of_ble_eq_true rfl) c44 vc_J4 c43 (T_J4_append_15ec4 (G := G) e46) ?_
    refine x_aload_n 2 dX9_text_157 rfl rfl ?_
    obtain ⟨c50, h⟩ := x_ckk h
    obtain ⟨c51, h⟩ := x_ckk h
    obtain ⟨r52, Y54, q55, N56, e53, h⟩ := x_bd4 h
    refine x_nV (b := r45) (As := [.ref r27]) (ci := 12) (R' := xR 6 1 400) (zz := yJ4_append_15ec4) dX9_text_158 ml_X9_39 wi_J4_append_15ec4 wv_J4_append_15ec4 wn_J4 wc_J4_append_15ec4 hp_J4_append_15ec4 ⟨by show 6 + 1 ≤ (7 + D + 1); omega, by show 8 + (2 + 11) + 42 * 6 ≤ 42 * (7 + D + 1); omega⟩ rfl (Nat.le_of_ble_eq_true rfl) c51 vc_J4 c50 (T_J4_append_15ec4 (G := G) e53) ?_
    refine x_ldcS (tx := ")") (i := 36) dX9_text_161 (by decide) ?_
    obtain ⟨c57, h⟩ := x_ckk h
    obtain ⟨c58, h⟩ := x_ckk h
    obtain ⟨r59, Y61, q62, N63, e60, h⟩ := x_bd4 h
    refine x_nV (b := r52) (As := [.ref (xS G 36)]) (ci := 12) (R' := xR 6 1 400) (zz := yJ4_append_15ec4) dX9_text_163 ml_X9_39 wi_J4_append_15ec4 wv_J4_append_15ec4 wn_J4 wc_J4_append_15ec4 hp_J4_append_15ec4 ⟨by show 6 + 1 ≤ (7 + D + 1); omega, by show 8 + (2 + 11) + 42 * 6 ≤ 42 * (7 + D + 1); omega⟩ rfl (Nat.le_of_ble_eq_true rfl) c58 vc_J4 c57 (T_J4_append_15ec4 (G := G) e60) ?_
    obtain ⟨c64, h⟩ := x_ckk h
    obtain ⟨c65, h⟩ := x_ckk h
    obtain ⟨r66, Y68, q69, N70, e67, h⟩ := x_bd4 h
    refine x_nV (b := r59) (As := []) (ci := 12) (R' := xR 6 2 404) (zz := yJ4_toString_0e30d) dX9_text_166 ml_X9_46 wi_J4_toString_0e30d wv_J4_toString_0e30d wn_J4 wc_J4_toString_0e30d hp_J4_toString_0e30d ⟨by show 6 + 1 ≤ (7 + D + 1); omega, by show 8 + (1 + 11) + 42 * 6 ≤ 42 * (7 + D + 1); omega⟩ rfl (Nat.le_of_ble_eq_true rfl) c65 vc_J4 c64 (T_J4_toString_0e30d (G := G) e67) ?_
    refine x_goto (tgt := 173) dX9_text_169 (by decide) ?_
    refine x_wide (k' := rC 17 (D + 1)) (n' := rC 3300 (D + 1)) c65 ?_
    obtain ⟨rfl, h8⟩ := Prod.mk.inj (x_so h)
    obtain ⟨rfl, h7⟩ := Prod.mk.inj h8
    obtain ⟨rfl, rfl⟩ := Prod.mk.inj h7
    exact x_naret dX9_text_173 rfl (Or.inl ⟨_, rfl⟩) rfl rfl
set_option maxHeartbeats 4000000 in
set_option maxRecDepth 100000 in
theorem T_X9_text_60 {G : XG} {tb : List ExceptionTableEntry} {FS : XY → Nat → Nat → Int32 → XN → Option (Nat × XY × Nat × XN)} (D : Nat) (ihD : ∀ {Y : XY} {q : Nat} {a0 : Nat} {a1 : Int32} {N : XN} {rz : Nat} {Yz : XY} {qz : Nat} {Nz : XN}, FS Y q a0 a1 N = some (rz, Yz, qz, Nz) → Cn G yX9_text cX9_text 4 (some (.object "java/lang/String")) (xR (7 + D) (rC 17 D) (rC 3300 D)) [.ref a0, .int a1] (some (.ref rz)) Y N Yz Nz) {rz : Nat} {Yz : XY} {qz : Nat} {Nz : XN} (Y : XY) (q : Nat) (p_0 : Nat) (v_1 : Int32) (s0 : Int32) (k : Nat) (n : Nat) (N : XN) (h : f_X9_text_60 (xS G) (xSv G) FS D Y q p_0 v_1 s0 k n N = some (rz, Yz, qz, Nz)) : ExZ G yX9_text cX9_text 4 (some (.object "java/lang/String")) tb (xR (7 + D + 1) (rC 17 (D + 1)) (rC 3300 (D + 1))) (xZn G (xR (7 + D + 1) (rC 17 (D + 1)) (rC 3300 (D + 1))) (some (.ref rz)) Yz Nz) k n 60 [(0, .ref p_0), (1, .int v_1)] [.int s0] Y N := by
  rw [f_X9_text_60] at h
  refine x_istore_n (L' := [(0, .ref p_0), (1, .int v_1), (2, .int s0)]) [1, 2, 0] dX9_text_60 rfl (by decide) rfl ?_
  obtain ⟨c1, h⟩ := x_ckk h
  obtain ⟨c2, h⟩ := x_ckk h
  refine x_newO (q := q) (ci := 12) dX9_text_61 vc_J4 xin12 tyJ4_ok kl9_X9_34 it9_J4 wn_J4 (fun j hj => match j, hj with | 0, _ => rfl | 1, _ => rfl | 2, _ => rfl | 3, _ => rfl | z + 4, h => absurd h (by omega)) c1.1 c2 ?_
  obtain ⟨Y3, eY3, h⟩ := x_lt h
  refine x_nmY eY3 ?_
  obtain ⟨N4, eN4, h⟩ := x_lt h
  refine x_nmM eN4 ?_
  have k5 : kc Y3 q = 22 := by rw [eY3]; exact kcq rfl
  refine x_dup dX9_text_64 rfl ?_
  obtain ⟨c6, h⟩ := x_ckk h
  obtain ⟨Y8, q9, N10, e7, h⟩ := x_bd3 h
  refine x_init (b := q) (As := []) (R' := xR 2 1 16) (zz := yJ4_init_da8c8) dX9_text_65 ml_X9_36 wi_J4_init_da8c8 wn_J4 wc_J4_init_da8c8 rfl hp_J4_init_da8c8 ⟨by show 2 + 1 ≤ (7 + D + 1); omega, by show 8 + (1 + 11) + 42 * 2 ≤ 42 * (7 + D + 1); omega⟩ rfl (Nat.le_of_ble_eq_true rfl) c6 (T_J4_init_da8c8 (G := G) e7) ?_
  refine x_aload_n 0 dX9_text_68 rfl rfl ?_
  obtain ⟨c11, h⟩ := x_ckk h
  obtain ⟨c13, h⟩ := x_ckk h
  obtain ⟨p12, lp12, h⟩ := x_lt h
  have ep12 : gr Y8 p_0 2 = some p12 := by rw [lp12]; exact c13
  refine x_getr dX9_text_69 vc_X9 xin9 fb_X9_2 fl_X9_27 xr_X9_2 c11 ep12 ?_
  refine x_iload_n 2 dX9_text_72 rfl rfl ?_
  obtain ⟨c14, h⟩ := x_ckk h
  obtain ⟨c15, h⟩ := x_ckk h
  obtain ⟨r16, Y18, q19, N20, e17, h⟩ := x_bd4 h
  refine x_nV (b := p12) (As := [.int s0]) (ci := 9) (R' := xR (7 + D) (rC 17 D) (rC 3300 D)) (zz := yX9_text) dX9_text_73 ml_X9_56 wi_X9_text wv_X9_text wn_X9 wc_X9_text hp_X9_text ⟨by show (7 + D) + 1 ≤ (7 + D + 1); omega, by show 8 + (4 + 11) + 42 * (7 + D) ≤ 42 * (7 + D + 1); omega⟩ rfl (Nat.le_of_ble_eq_true rfl) c15 vc_X9 c14 (ihD e17) ?_
  obtain ⟨c21, h⟩ := x_ckk h
  obtain ⟨c22, h⟩ := x_ckk h
  obtain ⟨r23, Y25, q26, N27, e24, h⟩ := x_bd4 h
  refine x_nV (b := q) (As := [.ref r16]) (ci := 12) (R' := xR 6 1 400) (zz := yJ4_append_15ec4) dX9_text_76 ml_X9_39 wi_J4_append_15ec4 wv_J4_append_15ec4 wn_J4 wc_J4_append_15ec4 hp_J4_append_15ec4 ⟨by show 6 + 1 ≤ (7 + D + 1); omega, by show 8 + (2 + 11) + 42 * 6 ≤ 42 * (7 + D + 1); omega⟩ rfl (Nat.le_of_ble_eq_true rfl) c22 vc_J4 c21 (T_J4_append_15ec4 (G := G) e24) ?_
  refine x_aload_n 0 dX9_text_79 rfl rfl ?_
  obtain ⟨c28, h⟩ := x_ckk h
  refine x_geti dX9_text_80 vc_X9 xin9 fb_X9_0 fl_X9_16 xr_X9_0 c28 ?_
  refine x_iconst (v := 2) dX9_text_83 rfl ?_
  rcases x_if h with ⟨c29, h⟩ | ⟨c29, h⟩
  · refine x_icmp_ne_f (tgt := 92) dX9_text_84 (by decide) c29 ?_
    refine x_ldcS (tx := "+") (i := 31) dX9_text_87 (by decide) ?_
    refine x_goto (tgt := 120) dX9_text_89 (by decide) ?_
    exact T_X9_text_120 (G := G) D ihD Y25 q26 p_0 v_1 s0 (xS G 31) r23 (k + 1 + 1 + (rC 17 D) + 1) (n + 4 + 16 + (rC 3300 D) + 400) N27 h
  · refine x_icmp_ne_t (tgt := 92) dX9_text_84 (by decide) c29 ?_
    refine x_aload_n 0 dX9_text_92 rfl rfl ?_
    refine x_geti dX9_text_93 vc_X9 xin9 fb_X9_0 fl_X9_16 xr_X9_0 c28 ?_
    refine x_iconst (v := 3) dX9_text_96 rfl ?_
    rcases x_if h with ⟨c30, h⟩ | ⟨c30, h⟩
    · refine x_icmp_ne_f (tgt := 105) dX9_text_97 (by decide) c30 ?_
      refine x_ldcS (tx := " - ") (i := 32) dX9_text_100 (by decide) ?_
      refine x_goto (tgt := 120) dX9_text_102 (by decide) ?_
      exact T_X9_text_120 (G := G) D ihD Y25 q26 p_0 v_1 s0 (xS G 32) r23 (k + 1 + 1 + (rC 17 D) + 1) (n + 4 + 16 + (rC 3300 D) + 400) N27 h
    · refine x_icmp_ne_t (tgt := 105) dX9_text_97 (by decide) c30 ?_
      refine x_aload_n 0 dX9_text_105 rfl rfl ?_
      refine x_geti dX9_text_106 vc_X9 xin9 fb_X9_0 fl_X9_16 xr_X9_0 c28 ?_
      refine x_iconst (v := 4) dX9_text_109 rfl ?_
      rcases x_if h with ⟨c31, h⟩ | ⟨c31, h⟩
      · refine x_icmp_ne_f (tgt := 118) dX9_text_110 (by decide) c31 ?_
        refine x_ldcS (tx := "* ") (i := 33) dX9_text_113 (by decide) ?_
        refine x_goto (tgt := 120) dX9_text_115 (by decide) ?_
        exact T_X9_text_120 (G := G) D ihD Y25 q26 p_0 v_1 s0 (xS G 33) r23 (k + 1 + 1 + (rC 17 D) + 1) (n + 4 + 16 + (rC 3300 D) + 400) N27 h
      · refine x_icmp_ne_t (tgt := 118) dX9_text_110 (by decide) c31 ?_
        refine x_ldcS (tx := "/") (i := 34) dX9_text_118 (by decide) ?_
        exact T_X9_text_120 (G := G) D ihD Y25 q26 p_0 v_1 s0 (xS G 34) r23 (k + 1 + 1 + (rC 17 D) + 1) (n + 4 + 16 + (rC 3300 D) + 400) N27 h
set_option maxHeartbeats 4000000 in
set_option maxRecDepth 100000 in
theorem T_X9_text {G : XG} : ∀ (D : Nat) {Y : XY} {q : Nat} {a0 : Nat} {a1 : Int32} {N : XN} {rz : Nat} {Yz : XY} {qz : Nat} {Nz : XN}, f_X9_text (xS G) (xSv G) D Y q a0 a1 N = some (rz, Yz, qz, Nz) → Cn G yX9_text cX9_text 4 (some (.object "java/lang/String")) (xR (7 + D) (rC 17 D) (rC 3300 D)) [.ref a0, .int a1] (some (.ref rz)) Y N Yz Nz := by
  intro D
  induction D with
  | zero => intro Y q a0 a1 N rz Yz qz Nz h; exact nomatch (show none = some _ from h)
  | succ D ihD =>
    intro Y q a0 a1 N rz Yz qz Nz h
    refine x_entryN (by decide) (Nat.le_of_ble_eq_true rfl) rfl fun tb => ?_
    rw [f_X9_text] at h
    refine x_aload_n 0 dX9_text_0 rfl rfl ?_
    obtain ⟨c1, h⟩ := x_ckk h
    refine x_geti dX9_text_1 vc_X9 xin9 fb_X9_0 fl_X9_16 xr_X9_0 c1 ?_
    rcases x_if h with ⟨c2, h⟩ | ⟨c2, h⟩
    · refine x_if_ne_f (tgt := 30) dX9_text_4 (by decide) c2 ?_
      obtain ⟨c3, h⟩ := x_ckk h
      refine x_newO (q := q) (ci := 12) dX9_text_7 vc_J4 xin12 tyJ4_ok kl9_X9_34 it9_J4 wn_J4 (fun j hj => match j, hj with | 0, _ => rfl | 1, _ => rfl | 2, _ => rfl | 3, _ => rfl | z + 4, h => absurd h (by omega)) c3.1 ⟨by show 1 ≤ 17 + 2 * rC 17 D; omega, by show 4 ≤ 3300 + 2 * rC 3300 D; omega⟩ ?_
      obtain ⟨Y4, eY4, h⟩ := x_lt h
      refine x_nmY eY4 ?_
      obtain ⟨N5, eN5, h⟩ := x_lt h
      refine x_nmM eN5 ?_
      have k6 : kc Y4 q = 22 := by rw [eY4]; exact kcq rfl
      refine x_dup dX9_text_10 rfl ?_
      obtain ⟨Y8, q9, N10, e7, h⟩ := x_bd3 h
      refine x_init (b := q) (As := []) (R' := xR 2 1 16) (zz := yJ4_init_da8c8) dX9_text_11 ml_X9_36 wi_J4_init_da8c8 wn_J4 wc_J4_init_da8c8 rfl hp_J4_init_da8c8 ⟨by show 2 + 1 ≤ (7 + D + 1); omega, by show 8 + (1 + 11) + 42 * 2 ≤ 42 * (7 + D + 1); omega⟩ rfl (Nat.le_of_ble_eq_true rfl) ⟨by show 2 ≤ 17 + 2 * rC 17 D; omega, by show 20 ≤ 3300 + 2 * rC 3300 D; omega⟩ (T_J4_init_da8c8 (G := G) e7) ?_
      refine x_ldcS (tx := "") (i := 30) dX9_text_14 (by decide) ?_
      obtain ⟨c11, h⟩ := x_ckk h
      obtain ⟨r12, Y14, q15, N16, e13, h⟩ := x_bd4 h
      refine x_nV (b := q) (As := [.ref (xS G 30)]) (ci := 12) (R' := xR 6 1 400) (zz := yJ4_append_15ec4) dX9_text_16 ml_X9_39 wi_J4_append_15ec4 wv_J4_append_15ec4 wn_J4 wc_J4_append_15ec4 hp_J4_append_15ec4 ⟨by show 6 + 1 ≤ (7 + D + 1); omega, by show 8 + (2 + 11) + 42 * 6 ≤ 42 * (7 + D + 1); omega⟩ rfl (Nat.le_of_ble_eq_true rfl) ⟨by show 3 ≤ 17 + 2 * rC 17 D; omega, by show 420 ≤ 3300 + 2 * rC 3300 D; omega⟩ vc_J4 c11 (T_J4_append_15ec4 (G := G) e13) ?_
      refine x_aload_n 0 dX9_text_19 rfl rfl ?_
      obtain ⟨c17, h⟩ := x_ckk h
      refine x_geti dX9_text_20 vc_X9 xin9 fb_X9_1 fl_X9_20 xr_X9_1 c17 ?_
      obtain ⟨c18, h⟩ := x_ckk h
      obtain ⟨r19, Y21, q22, N23, e20, h⟩ := x_bd4 h
      refine x_nV (b := r12) (As := [.int (gi N16 a0 1)]) (ci := 12) (R' := xR 6 1 400) (zz := yJ4_append_bf812) dX9_text_23 ml_X9_43 wi_J4_append_bf812 wv_J4_append_bf812 wn_J4 wc_J4_append_bf812 hp_J4_append_bf812 ⟨by show 6 + 1 ≤ (7 + D + 1); omega, by show 8 + (2 + 11) + 42 * 6 ≤ 42 * (7 + D + 1); omega⟩ rfl (Nat.le_of_ble_eq_true rfl) ⟨by show 4 ≤ 17 + 2 * rC 17 D; omega, by show 820 ≤ 3300 + 2 * rC 3300 D; omega⟩ vc_J4 c18 (T_J4_append_bf812 (G := G) e20) ?_
      obtain ⟨c24, h⟩ := x_ckk h
      obtain ⟨r25, Y27, q28, N29, e26, h⟩ := x_bd4 h
      refine x_nV (b := r19) (As := []) (ci := 12) (R' := xR 6 2 404) (zz := yJ4_toString_0e30d) dX9_text_26 ml_X9_46 wi_J4_toString_0e30d wv_J4_toString_0e30d wn_J4 wc_J4_toString_0e30d hp_J4_toString_0e30d ⟨by show 6 + 1 ≤ (7 + D + 1); omega, by show 8 + (1 + 11) + 42 * 6 ≤ 42 * (7 + D + 1); omega⟩ rfl (Nat.le_of_ble_eq_true rfl) ⟨by show 6 ≤ 17 + 2 * rC 17 D; omega, by show 1224 ≤ 3300 + 2 * rC 3300 D; omega⟩ vc_J4 c24 (T_J4_toString_0e30d (G := G) e26) ?_
      refine x_wide (k' := rC 17 (D + 1)) (n' := rC 3300 (D + 1)) ⟨by show 6 ≤ 17 + 2 * rC 17 D; omega, by show 1224 ≤ 3300 + 2 * rC 3300 D; omega⟩ ?_
      obtain ⟨rfl, h8⟩ := Prod.mk.inj (x_so h)
      obtain ⟨rfl, h7⟩ := Prod.mk.inj h8
      obtain ⟨rfl, rfl⟩ := Prod.mk.inj h7
      exact x_naret dX9_text_29 rfl (Or.inl ⟨_, rfl⟩) rfl rfl
    · refine x_if_ne_t (tgt := 30) dX9_text_4 (by decide) c2 ?_
      refine x_aload_n 0 dX9_text_30 rfl rfl ?_
      refine x_geti dX9_text_31 vc_X9 xin9 fb_X9_0 fl_X9_16 xr_X9_0 c1 ?_
      refine x_iconst (v := 1) dX9_text_34 rfl ?_
      rcases x_if h with ⟨c30, h⟩ | ⟨c30, h⟩
      · refine x_icmp_ne_f (tgt := 47) dX9_text_35 (by decide) c30 ?_
        refine x_getsV dX9_text_38 rfl ?_
        refine x_aload_n 0 dX9_text_41 rfl rfl ?_
        refine x_geti dX9_text_42 vc_X9 xin9 fb_X9_1 fl_X9_20 xr_X9_1 c1 ?_
        obtain ⟨c31, h⟩ := x_ckk h
        obtain ⟨c32, h⟩ := x_ckk h
        obtain ⟨c34, h⟩ := x_ckk h
        obtain ⟨p33, lp33, h⟩ := x_lt h
        have ep33 : gr Y (xSv G 102) (gi N a0 1).toNatClampNeg = some p33 := by rw [lp33]; exact c34
        refine x_aaldF dX9_text_45 c31 (xb_in c32) ep33 ?_
        refine x_wide (k' := rC 17 (D + 1)) (n' := rC 3300 (D + 1)) ⟨by show 0 ≤ 17 + 2 * rC 17 D; omega, by show 0 ≤ 3300 + 2 * rC 3300 D; omega⟩ ?_
        obtain ⟨rfl, h8⟩ := Prod.mk.inj (x_so h)
        obtain ⟨rfl, h7⟩ := Prod.mk.inj h8
        obtain ⟨rfl, rfl⟩ := Prod.mk.inj h7
        exact x_naret dX9_text_46 rfl (Or.inl ⟨_, rfl⟩) rfl rfl
      · refine x_icmp_ne_t (tgt := 47) dX9_text_35 (by decide) c30 ?_
        refine x_aload_n 0 dX9_text_47 rfl rfl ?_
        refine x_geti dX9_text_48 vc_X9 xin9 fb_X9_0 fl_X9_16 xr_X9_0 c1 ?_
        refine x_iconst (v := 4) dX9_text_51 rfl ?_
        rcases x_if h with ⟨c35, h⟩ | ⟨c35, h⟩
        · refine x_icmp_ge_t (tgt := 59) dX9_text_52 (by decide) c35 ?_
          refine x_iconst (v := 2) dX9_text_59 rfl ?_
          exact T_X9_text_60 (G := G) D ihD Y q a0 a1 2 0 0 N h
        · refine x_icmp_ge_f (tgt := 59) dX9_text_52 (by decide) c35 ?_
          refine x_iconst (v := 1) dX9_text_55 rfl ?_
          refine x_goto (tgt := 60) dX9_text_56 (by decide) ?_
          exact T_X9_text_60 (G := G) D ihD Y q a0 a1 1 0 0 N h
theorem T_X9_text_at {G : XG} {Y : XY} {q : Nat} {a0 : Nat} {a1 : Int32} {N : XN} {rz : Nat} {Yz : XY} {qz : Nat} {Nz : XN} (h : f_X9_text (xS G) (xSv G) 3 Y q a0 a1 N = some (rz, Yz, qz, Nz)) : Cn G yX9_text cX9_text 4 (some (.object "java/lang/String")) (xR 10 119 23100) [.ref a0, .int a1] (some (.ref rz)) Y N Yz Nz := T_X9_text 3 h
set_option maxHeartbeats 4000000 in
set_option maxRecDepth 100000 in
theorem T_X9_value {G : XG} : ∀ (D : Nat) {Y : XY} {a0 : Nat} {a1 : Nat} {N : XN} {rz : Int64} {Nz : XN}, f_X9_value D Y a0 a1 N = some (rz, Nz) → Cn G yX9_value cX9_value 8 (some .long) (xR (2 + D) 0 0) [.ref a0, .ref a1] (some (.long rz)) Y N Y Nz := by
  intro D
  induction D with
  | zero => intro Y a0 a1 N rz Nz h; exact nomatch (show none = some _ from h)
  | succ D ihD =>
    intro Y a0 a1 N rz Nz h
    refine x_entryN (by decide) (Nat.le_of_ble_eq_true rfl) rfl fun tb => ?_
    rw [f_X9_value] at h
    refine x_aload_n 0 dX9_value_0 rfl rfl ?_
    obtain ⟨c1, h⟩ := x_ckk h
    refine x_geti dX9_value_1 vc_X9 xin9 fb_X9_0 fl_X9_16 xr_X9_0 c1 ?_
    refine x_iconst (v := 2) dX9_value_4 rfl ?_
    rcases x_if h with ⟨c2, h⟩ | ⟨c2, h⟩
    · refine x_icmp_ge_t (tgt := 30) dX9_value_5 (by decide) c2 ?_
      refine x_aload_n 0 dX9_value_30 rfl rfl ?_
      obtain ⟨c4, h⟩ := x_ckk h
      obtain ⟨p3, lp3, h⟩ := x_lt h
      have ep3 : gr Y a0 2 = some p3 := by rw [lp3]; exact c4
      refine x_getr dX9_value_31 vc_X9 xin9 fb_X9_2 fl_X9_27 xr_X9_2 c1 ep3 ?_
      refine x_aload_n 1 dX9_value_34 rfl rfl ?_
      obtain ⟨c5, h⟩ := x_ckk h
      obtain ⟨r6, N8, e7, h⟩ := x_bd2 h
      refine x_nV (b := p3) (As := [.ref a1]) (ci := 9) (R' := xR (2 + D) 0 0) (zz := yX9_value) dX9_value_35 ml_X9_72 wi_X9_value wv_X9_value wn_X9 wc_X9_value hp_X9_value ⟨by show (2 + D) + 1 ≤ (2 + D + 1); omega, by show 8 + (8 + 11) + 42 * (2 + D) ≤ 42 * (2 + D + 1); omega⟩ rfl (Nat.le_of_ble_eq_true rfl) ⟨Nat.le_refl _, Nat.le_refl _⟩ vc_X9 c5 (ihD e7) ?_
      refine x_lstore_n (L' := [(0, .ref a0), (1, .ref a1), (2, .long r6)]) [1, 2, 0] dX9_value_38 rfl (by decide) rfl ?_
      refine x_aload_n 0 dX9_value_39 rfl rfl ?_
      obtain ⟨c10, h⟩ := x_ckk h
      obtain ⟨p9, lp9, h⟩ := x_lt h
      have ep9 : gr Y a0 3 = some p9 := by rw [lp9]; exact c10
      refine x_getr dX9_value_40 vc_X9 xin9 fb_X9_3 fl_X9_31 xr_X9_3 c1 ep9 ?_
      refine x_aload_n 1 dX9_value_43 rfl rfl ?_
      obtain ⟨c11, h⟩ := x_ckk h
      obtain ⟨r12, N14, e13, h⟩ := x_bd2 h
      refine x_nV (b := p9) (As := [.ref a1]) (ci := 9) (R' := xR (2 + D) 0 0) (zz := yX9_value) dX9_value_44 ml_X9_72 wi_X9_value wv_X9_value wn_X9 wc_X9_value hp_X9_value ⟨by show (2 + D) + 1 ≤ (2 + D + 1); omega, by show 8 + (8 + 11) + 42 * (2 + D) ≤ 42 * (2 + D + 1); omega⟩ rfl (Nat.le_of_ble_eq_true rfl) ⟨Nat.le_refl _, Nat.le_refl _⟩ vc_X9 c11 (ihD e13) ?_
      refine x_lstore (L' := [(0, .ref a0), (2, .long r6), (4, .long r12)]) [1, 3, 0] dX9_value_47 (by decide) rfl ?_
      refine x_aload_n 0 dX9_value_49 rfl rfl ?_
      refine x_geti dX9_value_50 vc_X9 xin9 fb_X9_0 fl_X9_16 xr_X9_0 c1 ?_
      refine x_iconst (v := 2) dX9_value_53 rfl ?_
      rcases x_if h with ⟨c15, h⟩ | ⟨c15, h⟩
      · refine x_icmp_ne_f (tgt := 64) dX9_value_54 (by decide) c15 ?_
        refine x_lload_n 1 dX9_value_57 rfl rfl ?_
        refine x_lload 2 dX9_value_58 rfl ?_
        refine x_ladd dX9_value_60 ?_
        refine x_goto (tgt := 109) dX9_value_61 (by decide) ?_
        refine x_lstore (L' := [(6, .long (r6 + r12))]) [0] dX9_value_109 (by decide) rfl ?_
        refine x_ldc2 (v := (-1000000)) dX9_value_111 kl_X9_76 ?_
        refine x_ldc2 (v := 1000000) dX9_value_114 kl_X9_78 ?_
        refine x_lload 0 dX9_value_117 rfl ?_
        obtain ⟨r16, N17, e18, h⟩ := x_bd2 h
        refine x_J9_min_f86c9 dX9_value_119 ml_X9_80 e18 (by show 1 ≤ (2 + D + 1); omega) (by show 40 ≤ 42 * (2 + D + 1); omega) (Nat.le_of_ble_eq_true rfl) ⟨Nat.le_refl _, Nat.le_refl _⟩ ?_
        obtain ⟨r19, N20, e21, h⟩ := x_bd2 h
        refine x_J9_max_f86c9 dX9_value_122 ml_X9_86 e21 (by show 1 ≤ (2 + D + 1); omega) (by show 40 ≤ 42 * (2 + D + 1); omega) (Nat.le_of_ble_eq_true rfl) ⟨Nat.le_refl _, Nat.le_refl _⟩ ?_
        obtain ⟨rfl, rfl⟩ := Prod.mk.inj (x_so h)
        exact x_nlret dX9_value_125 rfl rfl rfl
      · refine x_icmp_ne_t (tgt := 64) dX9_value_54 (by decide) c15 ?_
        refine x_aload_n 0 dX9_value_64 rfl rfl ?_
        refine x_geti dX9_value_65 vc_X9 xin9 fb_X9_0 fl_X9_16 xr_X9_0 c1 ?_
        refine x_iconst (v := 3) dX9_value_68 rfl ?_
        rcases x_if h with ⟨c22, h⟩ | ⟨c22, h⟩
        · refine x_icmp_ne_f (tgt := 79) dX9_value_69 (by decide) c22 ?_
          refine x_lload_n 1 dX9_value_72 rfl rfl ?_
          refine x_lload 2 dX9_value_73 rfl ?_
          refine x_lsub dX9_value_75 ?_
          refine x_goto (tgt := 109) dX9_value_76 (by decide) ?_
          refine x_lstore (L' := [(6, .long (r6 - r12))]) [0] dX9_value_109 (by decide) rfl ?_
          refine x_ldc2 (v := (-1000000)) dX9_value_111 kl_X9_76 ?_
          refine x_ldc2 (v := 1000000) dX9_value_114 kl_X9_78 ?_
          refine x_lload 0 dX9_value_117 rfl ?_
          obtain ⟨r23, N24, e25, h⟩ := x_bd2 h
          refine x_J9_min_f86c9 dX9_value_119 ml_X9_80 e25 (by show 1 ≤ (2 + D + 1); omega) (by show 40 ≤ 42 * (2 + D + 1); omega) (Nat.le_of_ble_eq_true rfl) ⟨Nat.le_refl _, Nat.le_refl _⟩ ?_
          obtain ⟨r26, N27, e28, h⟩ := x_bd2 h
          refine x_J9_max_f86c9 dX9_value_122 ml_X9_86 e28 (by show 1 ≤ (2 + D + 1); omega) (by show 40 ≤ 42 * (2 + D + 1); omega) (Nat.le_of_ble_eq_true rfl) ⟨Nat.le_refl _, Nat.le_refl _⟩ ?_
          obtain ⟨rfl, rfl⟩ := Prod.mk.inj (x_so h)
          exact x_nlret dX9_value_125 rfl rfl rfl
        · refine x_icmp_ne_t (tgt := 79) dX9_value_69 (by decide) c22 ?_
          refine x_aload_n 0 dX9_value_79 rfl rfl ?_
          refine x_geti dX9_value_80 vc_X9 xin9 fb_X9_0 fl_X9_16 xr_X9_0 c1 ?_
          refine x_iconst (v := 4) dX9_value_83 rfl ?_
          rcases x_if h with ⟨c29, h⟩ | ⟨c29, h⟩
          · refine x_icmp_ne_f (tgt := 94) dX9_value_84 (by decide) c29 ?_
            refine x_lload_n 1 dX9_value_87 rfl rfl ?_
            refine x_lload 2 dX9_value_88 rfl ?_
            refine x_lmul dX9_value_90 ?_
            refine x_goto (tgt := 109) dX9_value_91 (by decide) ?_
            refine x_lstore (L' := [(6, .long (r6 * r12))]) [0] dX9_value_109 (by decide) rfl ?_
            refine x_ldc2 (v := (-1000000)) dX9_value_111 kl_X9_76 ?_
            refine x_ldc2 (v := 1000000) dX9_value_114 kl_X9_78 ?_
            refine x_lload 0 dX9_value_117 rfl ?_
            obtain ⟨r30, N31, e32, h⟩ := x_bd2 h
            refine x_J9_min_f86c9 dX9_value_119 ml_X9_80 e32 (by show 1 ≤ (2 + D + 1); omega) (by show 40 ≤ 42 * (2 + D + 1); omega) (Nat.le_of_ble_eq_true rfl) ⟨Nat.le_refl _, Nat.le_refl _⟩ ?_
            obtain ⟨r33, N34, e35, h⟩ := x_bd2 h
            refine x_J9_max_f86c9 dX9_value_122 ml_X9_86 e35 (by show 1 ≤ (2 + D + 1); omega) (by show 40 ≤ 42 * (2 + D + 1); omega) (Nat.le_of_ble_eq_true rfl) ⟨Nat.le_refl _, Nat.le_refl _⟩ ?_
            obtain ⟨rfl, rfl⟩ := Prod.mk.inj (x_so h)
            exact x_nlret dX9_value_125 rfl rfl rfl
          · refine x_icmp_ne_t (tgt := 94) dX9_value_84 (by decide) c29 ?_
            refine x_lload 2 dX9_value_94 rfl ?_
            refine x_lconst (v := 0) dX9_value_96 rfl ?_
            refine x_lcmp dX9_value_97 ?_
            rcases x_if h with ⟨c36, h⟩ | ⟨c36, h⟩
            · refine x_if_ne_f (tgt := 105) dX9_value_98 (by decide) c36 ?_
              refine x_lconst (v := 0) dX9_value_101 rfl ?_
              refine x_goto (tgt := 109) dX9_value_102 (by decide) ?_
              refine x_lstore (L' := [(6, .long 0)]) [0] dX9_value_109 (by decide) rfl ?_
              refine x_ldc2 (v := (-1000000)) dX9_value_111 kl_X9_76 ?_
              refine x_ldc2 (v := 1000000) dX9_value_114 kl_X9_78 ?_
              refine x_lload 0 dX9_value_117 rfl ?_
              obtain ⟨r37, N38, e39, h⟩ := x_bd2 h
              refine x_J9_min_f86c9 dX9_value_119 ml_X9_80 e39 (by show 1 ≤ (2 + D + 1); omega) (by show 40 ≤ 42 * (2 + D + 1); omega) (Nat.le_of_ble_eq_true rfl) ⟨Nat.le_refl _, Nat.le_refl _⟩ ?_
              obtain ⟨r40, N41, e42, h⟩ := x_bd2 h
              refine x_J9_max_f86c9 dX9_value_122 ml_X9_86 e42 (by show 1 ≤ (2 + D + 1); omega) (by show 40 ≤ 42 * (2 + D + 1); omega) (Nat.le_of_ble_eq_true rfl) ⟨Nat.le_refl _, Nat.le_refl _⟩ ?_
              obtain ⟨rfl, rfl⟩ := Prod.mk.inj (x_so h)
              exact x_nlret dX9_value_125 rfl rfl rfl
            · refine x_if_ne_t (tgt := 105) dX9_value_98 (by decide) c36 ?_
              refine x_lload_n 1 dX9_value_105 rfl rfl ?_
              refine x_lload 2 dX9_value_106 rfl ?_
              obtain ⟨c43, h⟩ := x_ckk h
              refine x_ldiv dX9_value_108 c43 ?_
              refine x_lstore (L' := [(6, .long (r6 / r12))]) [0] dX9_value_109 (by decide) rfl ?_
              refine x_ldc2 (v := (-1000000)) dX9_value_111 kl_X9_76 ?_
              refine x_ldc2 (v := 1000000) dX9_value_114 kl_X9_78 ?_
              refine x_lload 0 dX9_value_117 rfl ?_
              obtain ⟨r44, N45, e46, h⟩ := x_bd2 h
              refine x_J9_min_f86c9 dX9_value_119 ml_X9_80 e46 (by show 1 ≤ (2 + D + 1); omega) (by show 40 ≤ 42 * (2 + D + 1); omega) (Nat.le_of_ble_eq_true rfl) ⟨Nat.le_refl _, Nat.le_refl _⟩ ?_
              obtain ⟨r47, N48, e49, h⟩ := x_bd2 h
              refine x_J9_max_f86c9 dX9_value_122 ml_X9_86 e49 (by show 1 ≤ (2 + D + 1); omega) (by show 40 ≤ 42 * (2 + D + 1); omega) (Nat.le_of_ble_eq_true rfl) ⟨Nat.le_refl _, Nat.le_refl _⟩ ?_
              obtain ⟨rfl, rfl⟩ := Prod.mk.inj (x_so h)
              exact x_nlret dX9_value_125 rfl rfl rfl
    · refine x_icmp_ge_f (tgt := 30) dX9_value_5 (by decide) c2 ?_
      refine x_aload_n 0 dX9_value_8 rfl rfl ?_
      refine x_geti dX9_value_9 vc_X9 xin9 fb_X9_0 fl_X9_16 xr_X9_0 c1 ?_
      rcases x_if h with ⟨c50, h⟩ | ⟨c50, h⟩
      · refine x_if_ne_f (tgt := 23) dX9_value_12 (by decide) c50 ?_
        refine x_aload_n 0 dX9_value_15 rfl rfl ?_
        refine x_geti dX9_value_16 vc_X9 xin9 fb_X9_1 fl_X9_20 xr_X9_1 c1 ?_
        refine x_i2l dX9_value_19 ?_
        refine x_goto (tgt := 29) dX9_value_20 (by decide) ?_
        obtain ⟨rfl, rfl⟩ := Prod.mk.inj (x_so h)
        exact x_nlret dX9_value_29 rfl rfl rfl
      · refine x_if_ne_t (tgt := 23) dX9_value_12 (by decide) c50 ?_
        refine x_aload_n 1 dX9_value_23 rfl rfl ?_
        refine x_aload_n 0 dX9_value_24 rfl rfl ?_
        refine x_geti dX9_value_25 vc_X9 xin9 fb_X9_1 fl_X9_20 xr_X9_1 c1 ?_
        obtain ⟨c51, h⟩ := x_ckk h
        obtain ⟨c52, h⟩ := x_ckk h
        refine x_lald dX9_value_28 c51 (xb_in c52) rfl ?_
        obtain ⟨rfl, rfl⟩ := Prod.mk.inj (x_so h)
        exact x_nlret dX9_value_29 rfl rfl rfl
theorem T_X9_value_at {G : XG} {Y : XY} {a0 : Nat} {a1 : Nat} {N : XN} {rz : Int64} {Nz : XN} (h : f_X9_value 3 Y a0 a1 N = some (rz, Nz)) : Cn G yX9_value cX9_value 8 (some .long) (xR 5 0 0) [.ref a0, .ref a1] (some (.long rz)) Y N Y Nz := T_X9_value 3 h
