set_option maxHeartbeats 4000000 in
set_option maxRecDepth 100000 in
theorem T_X7_putBytes_3 {G : XG} {Y : XY} (hw : WT Y) {N9 : XN}: ∀ (D9 : Nat) (p_0 : Nat) (v_1 : Int32) (v_2 : Int32) (N : XN), kc Y p_0 = 17 → f_X7_putBytes_3 Y D9 p_0 v_1 v_2 N = some N9 → Ex G yX7_putBytes cX7_putBytes 3 none (xR 1 0 0) (.inl none) Y N9 0 0 3 [(0, .ref p_0), (1, .int v_1), (2, .int v_2)] [] Y N := by
  intro D9
  induction D9 with
  | zero => intro p_0 v_1 v_2 N kk0 h; exact nomatch (show none = some _ from h)
  | succ D9 ih =>
    intro p_0 v_1 v_2 N kk0 h
    rw [f_X7_putBytes_3] at h
    refine x_iload_n 2 dX7_putBytes_3 rfl rfl ?_
    rcases x_if h with ⟨c1, h⟩ | ⟨c1, h⟩
    · refine x_if_lt_t (tgt := 48) dX7_putBytes_4 (by decide) c1 ?_
      obtain rfl := x_so h
      exact x_vret dX7_putBytes_48 rfl rfl rfl
    · refine x_if_lt_f (tgt := 48) dX7_putBytes_4 (by decide) c1 ?_
      refine x_aload_n 0 dX7_putBytes_7 rfl rfl ?_
      refine x_geti dX7_putBytes_8 vc_X7 xin7 fb_X7_1 fl_X7_13 xr_X7_1 kk0 ?_
      refine x_aload_n 0 dX7_putBytes_11 rfl rfl ?_
      obtain ⟨g2, k3, n4⟩ := wt_X7_0 hw kk0
      refine x_getr dX7_putBytes_12 vc_X7 xin7 fb_X7_0 fl_X7_9 xr_X7_0 kk0 g2 ?_
      refine x_blen dX7_putBytes_15 k3 (congrArg Int32.ofNat n4) ?_
      rcases x_if h with ⟨c5, h⟩ | ⟨c5, h⟩
      · refine x_icmp_ge_t (tgt := 48) dX7_putBytes_16 (by decide) c5 ?_
        obtain rfl := x_so h
        exact x_vret dX7_putBytes_48 rfl rfl rfl
      · refine x_icmp_ge_f (tgt := 48) dX7_putBytes_16 (by decide) c5 ?_
        refine x_aload_n 0 dX7_putBytes_19 rfl rfl ?_
        refine x_getr dX7_putBytes_20 vc_X7 xin7 fb_X7_0 fl_X7_9 xr_X7_0 kk0 g2 ?_
        refine x_aload_n 0 dX7_putBytes_23 rfl rfl ?_
        refine x_geti dX7_putBytes_24 vc_X7 xin7 fb_X7_1 fl_X7_13 xr_X7_1 kk0 ?_
        refine x_iload_n 1 dX7_putBytes_27 rfl rfl ?_
        refine x_iload_n 2 dX7_putBytes_28 rfl rfl ?_
        refine x_iushr dX7_putBytes_29 rfl ?_
        refine x_i2b dX7_putBytes_30 ?_
        obtain ⟨c6, h⟩ := x_ck h
        refine x_bast dX7_putBytes_31 k3 (xb_at n4 c6) rfl ?_
        obtain ⟨N7, eN7, h⟩ := x_lt h
        refine x_nmN eN7 ?_
        refine x_aload_n 0 dX7_putBytes_32 rfl rfl ?_
        refine x_dup dX7_putBytes_33 rfl ?_
        refine x_geti dX7_putBytes_34 vc_X7 xin7 fb_X7_1 fl_X7_13 xr_X7_1 kk0 ?_
        refine x_iconst (v := 1) dX7_putBytes_37 rfl ?_
        refine x_iadd dX7_putBytes_38 ?_
        refine x_puti dX7_putBytes_39 vc_X7 xin7 tyX7_ok nmX7 fb_X7_1 fl_X7_13 ff_X7_1 xr_X7_1 (nf_X7_1 _) (ft_X7_1 _) kk0 ?_
        obtain ⟨N8, eN8, h⟩ := x_lt h
        refine x_nmN eN8 ?_
        refine x_iinc (L' := [(0, .ref p_0), (1, .int v_1), (2, .int (v_2 + (-8)))]) 2 [1, 2, 0] dX7_putBytes_42 rfl rfl (by decide) rfl ?_
        refine x_goto (tgt := 3) dX7_putBytes_45 (by decide) ?_
        exact ih p_0 v_1 (v_2 + (-8)) N8 kk0 h
set_option maxHeartbeats 4000000 in
set_option maxRecDepth 100000 in
theorem T_X7_putBytes {G : XG} {Y : XY} (hw : WT Y) {a0 : Nat} {a1 : Int32} {N : XN} (k100 : kc Y a0 = 17) {N9 : XN} (h : f_X7_putBytes Y a0 a1 N = some N9) : Cl G yX7_putBytes cX7_putBytes 3 none (xR 1 0 0) [.ref a0, .int a1] (.inl none) Y N Y N9 := by
  refine x_entry (by decide) (Nat.le_of_ble_eq_true rfl) rfl ?_
  rw [f_X7_putBytes] at h
  refine x_bipush (v := 24) dX7_putBytes_0 rfl ?_
  refine x_istore_n (L' := [(0, .ref a0), (1, .int a1), (2, .int 24)]) [1, 2, 0] dX7_putBytes_2 rfl (by decide) rfl ?_
  exact T_X7_putBytes_3 (G := G) hw FU a0 a1 24 N k100 h
set_option maxHeartbeats 4000000 in
set_option maxRecDepth 100000 in
theorem T_X7_append {G : XG} {Y : XY} (hw : WT Y) {a0 : Nat} {a1 : Int32} {a2 : Int32} {a3 : Int32} {a4 : Int32} {a5 : Int32} {N : XN} (k100 : kc Y a0 = 17) {r9 : Int32} {N9 : XN} (h : f_X7_append Y a0 a1 a2 a3 a4 a5 N = some (r9, N9)) : Cl G yX7_append cX7_append 6 (some .int) (xR 2 0 0) [.ref a0, .int a1, .int a2, .int a3, .int a4, .int a5] (.inl (some (.int r9))) Y N Y N9 := by
  refine x_entry (by decide) (Nat.le_of_ble_eq_true rfl) rfl ?_
  rw [f_X7_append] at h
  refine x_aload_n 0 dX7_append_0 rfl rfl ?_
  refine x_geti dX7_append_1 vc_X7 xin7 fb_X7_1 fl_X7_13 xr_X7_1 k100 ?_
  refine x_sipush (v := 680) dX7_append_4 rfl ?_
  rcases x_if h with ⟨c1, h⟩ | ⟨c1, h⟩
  · refine x_icmp_le_t (tgt := 12) dX7_append_7 (by decide) c1 ?_
    refine x_aload_n 0 dX7_append_12 rfl rfl ?_
    refine x_iload_n 1 dX7_append_13 rfl rfl ?_
    obtain ⟨N3, q2, h⟩ := x_bd1 h
    refine x_cv (b := a0) (As := [.int a1]) (ci := 7) (d' := 1) (zz := yX7_putBytes) dX7_append_14 ml_X7_54 wi_X7_putBytes wv_X7_putBytes wn_X7 wc_X7_putBytes hp_X7_putBytes (by decide) (by decide) rfl (Nat.le_of_ble_eq_true rfl) ⟨Nat.zero_le _, Nat.zero_le _⟩ rfl k100 (T_X7_putBytes (G := G) hw k100 q2) ?_
    refine x_aload_n 0 dX7_append_17 rfl rfl ?_
    refine x_iload_n 2 dX7_append_18 rfl rfl ?_
    obtain ⟨N5, q4, h⟩ := x_bd1 h
    refine x_cv (b := a0) (As := [.int a2]) (ci := 7) (d' := 1) (zz := yX7_putBytes) dX7_append_19 ml_X7_54 wi_X7_putBytes wv_X7_putBytes wn_X7 wc_X7_putBytes hp_X7_putBytes (by decide) (by decide) rfl (Nat.le_of_ble_eq_true rfl) ⟨Nat.zero_le _, Nat.zero_le _⟩ rfl k100 (T_X7_putBytes (G := G) hw k100 q4) ?_
    refine x_aload_n 0 dX7_append_22 rfl rfl ?_
    refine x_iload_n 3 dX7_append_23 rfl rfl ?_
    obtain ⟨N7, q6, h⟩ := x_bd1 h
    refine x_cv (b := a0) (As := [.int a3]) (ci := 7) (d' := 1) (zz := yX7_putBytes) dX7_append_24 ml_X7_54 wi_X7_putBytes wv_X7_putBytes wn_X7 wc_X7_putBytes hp_X7_putBytes (by decide) (by decide) rfl (Nat.le_of_ble_eq_true rfl) ⟨Nat.zero_le _, Nat.zero_le _⟩ rfl k100 (T_X7_putBytes (G := G) hw k100 q6) ?_
    refine x_aload_n 0 dX7_append_27 rfl rfl ?_
    refine x_iload 4 dX7_append_28 rfl ?_
    obtain ⟨N9, q8, h⟩ := x_bd1 h
    refine x_cv (b := a0) (As := [.int a4]) (ci := 7) (d' := 1) (zz := yX7_putBytes) dX7_append_30 ml_X7_54 wi_X7_putBytes wv_X7_putBytes wn_X7 wc_X7_putBytes hp_X7_putBytes (by decide) (by decide) rfl (Nat.le_of_ble_eq_true rfl) ⟨Nat.zero_le _, Nat.zero_le _⟩ rfl k100 (T_X7_putBytes (G := G) hw k100 q8) ?_
    refine x_aload_n 0 dX7_append_33 rfl rfl ?_
    refine x_iload 5 dX7_append_34 rfl ?_
    obtain ⟨N11, q10, h⟩ := x_bd1 h
    refine x_cv (b := a0) (As := [.int a5]) (ci := 7) (d' := 1) (zz := yX7_putBytes) dX7_append_36 ml_X7_54 wi_X7_putBytes wv_X7_putBytes wn_X7 wc_X7_putBytes hp_X7_putBytes (by decide) (by decide) rfl (Nat.le_of_ble_eq_true rfl) ⟨Nat.zero_le _, Nat.zero_le _⟩ rfl k100 (T_X7_putBytes (G := G) hw k100 q10) ?_
    refine x_aload_n 0 dX7_append_39 rfl rfl ?_
    refine x_geti dX7_append_40 vc_X7 xin7 fb_X7_1 fl_X7_13 xr_X7_1 k100 ?_
    obtain ⟨rfl, rfl⟩ := Prod.mk.inj (x_so h)
    exact x_iret dX7_append_43 rfl rfl rfl
  · refine x_icmp_le_f (tgt := 12) dX7_append_7 (by decide) c1 ?_
    refine x_iconst (v := (-1)) dX7_append_10 rfl ?_
    obtain ⟨rfl, rfl⟩ := Prod.mk.inj (x_so h)
    exact x_iret dX7_append_11 rfl rfl rfl
set_option maxHeartbeats 4000000 in
set_option maxRecDepth 100000 in
theorem T_X7_keepPresent {G : XG} {Y : XY} (hw : WT Y) {a0 : Nat} {N : XN} (k100 : kc Y a0 = 17) {N9 : XN} (h : f_X7_keepPresent Y a0 N = some N9) : Cl G yX7_keepPresent cX7_keepPresent 1 none (xR 3 0 0) [.ref a0] (.inl none) Y N Y N9 := by
  refine x_entry (by decide) (Nat.le_of_ble_eq_true rfl) rfl ?_
  rw [f_X7_keepPresent] at h
  refine x_aload_n 0 dX7_keepPresent_0 rfl rfl ?_
  obtain ⟨g1, k2, n3⟩ := wt_X7_7 hw k100
  refine x_getr dX7_keepPresent_1 vc_X7 xin7 fb_X7_7 fl_X7_44 xr_X7_7 k100 g1 ?_
  refine x_aload_n 0 dX7_keepPresent_4 rfl rfl ?_
  refine x_geti dX7_keepPresent_5 vc_X7 xin7 fb_X7_9 fl_X7_51 xr_X7_9 k100 ?_
  obtain ⟨c4, h⟩ := x_ck h
  obtain ⟨g5, k6⟩ := wt_7 hw k2 (xb_at n3 c4)
  refine x_aald (j := 3) dX7_keepPresent_8 (by decide) k2 (xb_at n3 c4) g5 ?_
  refine x_aload_n 0 dX7_keepPresent_9 rfl rfl ?_
  obtain ⟨g7, k8⟩ := wt_X7_5 hw k100
  refine x_getr dX7_keepPresent_10 vc_X7 xin7 fb_X7_5 fl_X7_37 xr_X7_5 k100 g7 ?_
  obtain ⟨N10, q9, h⟩ := x_bd1 h
  refine x_cv (b := (gp Y (gp Y a0 7) (gi N a0 9).toNatClampNeg)) (As := [.ref (gp Y a0 5)]) (ci := 6) (d' := 2) (zz := yX6_copyOf) dX7_keepPresent_13 ml_X7_80 wi_X6_copyOf wv_X6_copyOf wn_X6 wc_X6_copyOf hp_X6_copyOf (by decide) (by decide) rfl (Nat.le_of_ble_eq_true rfl) ⟨Nat.zero_le _, Nat.zero_le _⟩ rfl k6 (T_X6_copyOf (G := G) hw k6 k8 q9) ?_
  refine x_aload_n 0 dX7_keepPresent_16 rfl rfl ?_
  refine x_aload_n 0 dX7_keepPresent_17 rfl rfl ?_
  refine x_geti dX7_keepPresent_18 vc_X7 xin7 fb_X7_9 fl_X7_51 xr_X7_9 k100 ?_
  refine x_iconst (v := 1) dX7_keepPresent_21 rfl ?_
  refine x_iadd dX7_keepPresent_22 ?_
  refine x_aload_n 0 dX7_keepPresent_23 rfl rfl ?_
  refine x_getr dX7_keepPresent_24 vc_X7 xin7 fb_X7_7 fl_X7_44 xr_X7_7 k100 g1 ?_
  refine x_rlen (j := 3) dX7_keepPresent_27 (by decide) k2 (congrArg Int32.ofNat n3) ?_
  rcases x_if h with ⟨c11, h⟩ | ⟨c11, h⟩
  · refine x_icmp_ge_t (tgt := 40) dX7_keepPresent_28 (by decide) c11 ?_
    refine x_iconst (v := 0) dX7_keepPresent_40 rfl ?_
    refine x_puti dX7_keepPresent_41 vc_X7 xin7 tyX7_ok nmX7 fb_X7_9 fl_X7_51 ff_X7_9 xr_X7_9 (nf_X7_9 _) (ft_X7_9 _) k100 ?_
    obtain ⟨N12, eN12, h⟩ := x_lt h
    refine x_nmN eN12 ?_
    refine x_aload_n 0 dX7_keepPresent_44 rfl rfl ?_
    refine x_geti dX7_keepPresent_45 vc_X7 xin7 fb_X7_8 fl_X7_48 xr_X7_8 k100 ?_
    refine x_aload_n 0 dX7_keepPresent_48 rfl rfl ?_
    refine x_getr dX7_keepPresent_49 vc_X7 xin7 fb_X7_7 fl_X7_44 xr_X7_7 k100 g1 ?_
    refine x_rlen (j := 3) dX7_keepPresent_52 (by decide) k2 (congrArg Int32.ofNat n3) ?_
    rcases x_if h with ⟨c13, h⟩ | ⟨c13, h⟩
    · refine x_icmp_ge_t (tgt := 66) dX7_keepPresent_53 (by decide) c13 ?_
      obtain rfl := x_so h
      exact x_vret dX7_keepPresent_66 rfl rfl rfl
    · refine x_icmp_ge_f (tgt := 66) dX7_keepPresent_53 (by decide) c13 ?_
      refine x_aload_n 0 dX7_keepPresent_56 rfl rfl ?_
      refine x_dup dX7_keepPresent_57 rfl ?_
      refine x_geti dX7_keepPresent_58 vc_X7 xin7 fb_X7_8 fl_X7_48 xr_X7_8 k100 ?_
      refine x_iconst (v := 1) dX7_keepPresent_61 rfl ?_
      refine x_iadd dX7_keepPresent_62 ?_
      refine x_puti dX7_keepPresent_63 vc_X7 xin7 tyX7_ok nmX7 fb_X7_8 fl_X7_48 ff_X7_8 xr_X7_8 (nf_X7_8 _) (ft_X7_8 _) k100 ?_
      obtain ⟨N14, eN14, h⟩ := x_lt h
      refine x_nmN eN14 ?_
      obtain rfl := x_so h
      exact x_vret dX7_keepPresent_66 rfl rfl rfl
  · refine x_icmp_ge_f (tgt := 40) dX7_keepPresent_28 (by decide) c11 ?_
    refine x_aload_n 0 dX7_keepPresent_31 rfl rfl ?_
    refine x_geti dX7_keepPresent_32 vc_X7 xin7 fb_X7_9 fl_X7_51 xr_X7_9 k100 ?_
    refine x_iconst (v := 1) dX7_keepPresent_35 rfl ?_
    refine x_iadd dX7_keepPresent_36 ?_
    refine x_goto (tgt := 41) dX7_keepPresent_37 (by decide) ?_
    refine x_puti dX7_keepPresent_41 vc_X7 xin7 tyX7_ok nmX7 fb_X7_9 fl_X7_51 ff_X7_9 xr_X7_9 (nf_X7_9 _) (ft_X7_9 _) k100 ?_
    obtain ⟨N15, eN15, h⟩ := x_lt h
    refine x_nmN eN15 ?_
    refine x_aload_n 0 dX7_keepPresent_44 rfl rfl ?_
    refine x_geti dX7_keepPresent_45 vc_X7 xin7 fb_X7_8 fl_X7_48 xr_X7_8 k100 ?_
    refine x_aload_n 0 dX7_keepPresent_48 rfl rfl ?_
    refine x_getr dX7_keepPresent_49 vc_X7 xin7 fb_X7_7 fl_X7_44 xr_X7_7 k100 g1 ?_
    refine x_rlen (j := 3) dX7_keepPresent_52 (by decide) k2 (congrArg Int32.ofNat n3) ?_
    rcases x_if h with ⟨c16, h⟩ | ⟨c16, h⟩
    · refine x_icmp_ge_t (tgt := 66) dX7_keepPresent_53 (by decide) c16 ?_
      obtain rfl := x_so h
      exact x_vret dX7_keepPresent_66 rfl rfl rfl
    · refine x_icmp_ge_f (tgt := 66) dX7_keepPresent_53 (by decide) c16 ?_
      refine x_aload_n 0 dX7_keepPresent_56 rfl rfl ?_
      refine x_dup dX7_keepPresent_57 rfl ?_
      refine x_geti dX7_keepPresent_58 vc_X7 xin7 fb_X7_8 fl_X7_48 xr_X7_8 k100 ?_
      refine x_iconst (v := 1) dX7_keepPresent_61 rfl ?_
      refine x_iadd dX7_keepPresent_62 ?_
      refine x_puti dX7_keepPresent_63 vc_X7 xin7 tyX7_ok nmX7 fb_X7_8 fl_X7_48 ff_X7_8 xr_X7_8 (nf_X7_8 _) (ft_X7_8 _) k100 ?_
      obtain ⟨N17, eN17, h⟩ := x_lt h
      refine x_nmN eN17 ?_
      obtain rfl := x_so h
      exact x_vret dX7_keepPresent_66 rfl rfl rfl
set_option maxHeartbeats 4000000 in
set_option maxRecDepth 100000 in
theorem T_X7_errorOffset {G : XG} {Y : XY} (hw : WT Y) {a0 : Nat} {N : XN} (k100 : kc Y a0 = 17) {r9 : Int32} (h : f_X7_errorOffset Y a0 N = r9) : Cl G yX7_errorOffset cX7_errorOffset 1 (some .int) (xR 1 0 0) [.ref a0] (.inl (some (.int r9))) Y N Y N := by
  refine x_entry (by decide) (Nat.le_of_ble_eq_true rfl) rfl ?_
  rw [f_X7_errorOffset] at h
  refine x_aload_n 0 dX7_errorOffset_0 rfl rfl ?_
  refine x_geti dX7_errorOffset_1 vc_X7 xin7 fb_X7_2 fl_X7_17 xr_X7_2 k100 ?_
  subst h
  exact x_iret dX7_errorOffset_4 rfl rfl rfl
set_option maxHeartbeats 4000000 in
set_option maxRecDepth 100000 in
theorem T_X7_state {G : XG} {Y : XY} (hw : WT Y) {a0 : Nat} {a1 : Int32} {N : XN} (k100 : kc Y a0 = 17) {r9 : Int32} {N9 : XN} (h : f_X7_state Y a0 a1 N = some (.inl r9, N9)) : Cl G yX7_state cX7_state 2 (some .int) (xR 7 0 0) [.ref a0, .int a1] (.inl (some (.int r9))) Y N Y N9 := by
  refine x_entry (by decide) (Nat.le_of_ble_eq_true rfl) rfl ?_
  rw [f_X7_state] at h
  refine x_iload_n 1 dX7_state_0 rfl rfl ?_
  rcases x_if h with ⟨c1, h⟩ | ⟨c1, h⟩
  · refine x_swIn (off := 55) (tgt := 56) dX7_state_1 (by rw [c1]; decide) (by rw [c1]; decide) (by rw [c1]; rfl) (by decide) ?_
    refine x_aload_n 0 dX7_state_56 rfl rfl ?_
    obtain ⟨g2, k3⟩ := wt_X7_5 hw k100
    refine x_getr dX7_state_57 vc_X7 xin7 fb_X7_5 fl_X7_37 xr_X7_5 k100 g2 ?_
    refine x_geti dX7_state_60 vc_X6 xin6 fb_X6_6 fl_X7_87 xr_X6_6 k3 ?_
    obtain ⟨h7, rfl⟩ := Prod.mk.inj (x_so h)
    obtain rfl := Sum.inl.inj h7
    exact x_iret dX7_state_63 rfl rfl rfl
  · rcases x_if h with ⟨c4, h⟩ | ⟨c4, h⟩
    · refine x_swIn (off := 63) (tgt := 64) dX7_state_1 (by rw [c4]; decide) (by rw [c4]; decide) (by rw [c4]; rfl) (by decide) ?_
      refine x_aload_n 0 dX7_state_64 rfl rfl ?_
      obtain ⟨g5, k6⟩ := wt_X7_5 hw k100
      refine x_getr dX7_state_65 vc_X7 xin7 fb_X7_5 fl_X7_37 xr_X7_5 k100 g5 ?_
      refine x_geti dX7_state_68 vc_X6 xin6 fb_X6_1 fl_X7_90 xr_X6_1 k6 ?_
      obtain ⟨h7, rfl⟩ := Prod.mk.inj (x_so h)
      obtain rfl := Sum.inl.inj h7
      exact x_iret dX7_state_71 rfl rfl rfl
    · rcases x_if h with ⟨c7, h⟩ | ⟨c7, h⟩
      · refine x_swIn (off := 71) (tgt := 72) dX7_state_1 (by rw [c7]; decide) (by rw [c7]; decide) (by rw [c7]; rfl) (by decide) ?_
        refine x_aload_n 0 dX7_state_72 rfl rfl ?_
        obtain ⟨g8, k9⟩ := wt_X7_5 hw k100
        refine x_getr dX7_state_73 vc_X7 xin7 fb_X7_5 fl_X7_37 xr_X7_5 k100 g8 ?_
        refine x_geti dX7_state_76 vc_X6 xin6 fb_X6_3 fl_X7_93 xr_X6_3 k9 ?_
        obtain ⟨h7, rfl⟩ := Prod.mk.inj (x_so h)
        obtain rfl := Sum.inl.inj h7
        exact x_iret dX7_state_79 rfl rfl rfl
      · rcases x_if h with ⟨c10, h⟩ | ⟨c10, h⟩
        · refine x_swIn (off := 79) (tgt := 80) dX7_state_1 (by rw [c10]; decide) (by rw [c10]; decide) (by rw [c10]; rfl) (by decide) ?_
          refine x_aload_n 0 dX7_state_80 rfl rfl ?_
          obtain ⟨g11, k12⟩ := wt_X7_5 hw k100
          refine x_getr dX7_state_81 vc_X7 xin7 fb_X7_5 fl_X7_37 xr_X7_5 k100 g11 ?_
          refine x_geti dX7_state_84 vc_X6 xin6 fb_X6_5 fl_X7_84 xr_X6_5 k12 ?_
          obtain ⟨h7, rfl⟩ := Prod.mk.inj (x_so h)
          obtain rfl := Sum.inl.inj h7
          exact x_iret dX7_state_87 rfl rfl rfl
        · rcases x_if h with ⟨c13, h⟩ | ⟨c13, h⟩
          · refine x_swIn (off := 87) (tgt := 88) dX7_state_1 (by rw [c13]; decide) (by rw [c13]; decide) (by rw [c13]; rfl) (by decide) ?_
            refine x_aload_n 0 dX7_state_88 rfl rfl ?_
            obtain ⟨g14, k15⟩ := wt_X7_5 hw k100
            refine x_getr dX7_state_89 vc_X7 xin7 fb_X7_5 fl_X7_37 xr_X7_5 k100 g14 ?_
            refine x_geti dX7_state_92 vc_X6 xin6 fb_X6_7 fl_X7_96 xr_X6_7 k15 ?_
            obtain ⟨h7, rfl⟩ := Prod.mk.inj (x_so h)
            obtain rfl := Sum.inl.inj h7
            exact x_iret dX7_state_95 rfl rfl rfl
          · rcases x_if h with ⟨c16, h⟩ | ⟨c16, h⟩
            · refine x_swIn (off := 95) (tgt := 96) dX7_state_1 (by rw [c16]; decide) (by rw [c16]; decide) (by rw [c16]; rfl) (by decide) ?_
              refine x_aload_n 0 dX7_state_96 rfl rfl ?_
              obtain ⟨g17, k18⟩ := wt_X7_5 hw k100
              refine x_getr dX7_state_97 vc_X7 xin7 fb_X7_5 fl_X7_37 xr_X7_5 k100 g17 ?_
              refine x_iconst (v := 1) dX7_state_100 rfl ?_
              obtain ⟨r20, q19, h⟩ := x_bd1 h
              refine x_cv (b := (gp Y a0 5)) (As := [.int 1]) (ci := 6) (d' := 1) (zz := yX6_requestsIn) dX7_state_101 ml_X7_99 wi_X6_requestsIn wv_X6_requestsIn wn_X6 wc_X6_requestsIn hp_X6_requestsIn (by decide) (by decide) rfl (Nat.le_of_ble_eq_true rfl) ⟨Nat.zero_le _, Nat.zero_le _⟩ rfl k18 (T_X6_requestsIn (G := G) hw k18 q19) ?_
              obtain ⟨h7, rfl⟩ := Prod.mk.inj (x_so h)
              obtain rfl := Sum.inl.inj h7
              exact x_iret dX7_state_104 rfl rfl rfl
            · rcases x_if h with ⟨c21, h⟩ | ⟨c21, h⟩
              · refine x_swIn (off := 104) (tgt := 105) dX7_state_1 (by rw [c21]; decide) (by rw [c21]; decide) (by rw [c21]; rfl) (by decide) ?_
                refine x_aload_n 0 dX7_state_105 rfl rfl ?_
                obtain ⟨g22, k23⟩ := wt_X7_5 hw k100
                refine x_getr dX7_state_106 vc_X7 xin7 fb_X7_5 fl_X7_37 xr_X7_5 k100 g22 ?_
                refine x_iconst (v := 2) dX7_state_109 rfl ?_
                obtain ⟨r25, q24, h⟩ := x_bd1 h
                refine x_cv (b := (gp Y a0 5)) (As := [.int 2]) (ci := 6) (d' := 1) (zz := yX6_requestsIn) dX7_state_110 ml_X7_99 wi_X6_requestsIn wv_X6_requestsIn wn_X6 wc_X6_requestsIn hp_X6_requestsIn (by decide) (by decide) rfl (Nat.le_of_ble_eq_true rfl) ⟨Nat.zero_le _, Nat.zero_le _⟩ rfl k23 (T_X6_requestsIn (G := G) hw k23 q24) ?_
                obtain ⟨h7, rfl⟩ := Prod.mk.inj (x_so h)
                obtain rfl := Sum.inl.inj h7
                exact x_iret dX7_state_113 rfl rfl rfl
              · rcases x_if h with ⟨c26, h⟩ | ⟨c26, h⟩
                · refine x_swIn (off := 113) (tgt := 114) dX7_state_1 (by rw [c26]; decide) (by rw [c26]; decide) (by rw [c26]; rfl) (by decide) ?_
                  refine x_aload_n 0 dX7_state_114 rfl rfl ?_
                  obtain ⟨g27, k28⟩ := wt_X7_5 hw k100
                  refine x_getr dX7_state_115 vc_X7 xin7 fb_X7_5 fl_X7_37 xr_X7_5 k100 g27 ?_
                  refine x_iconst (v := 3) dX7_state_118 rfl ?_
                  obtain ⟨r30, q29, h⟩ := x_bd1 h
                  refine x_cv (b := (gp Y a0 5)) (As := [.int 3]) (ci := 6) (d' := 1) (zz := yX6_requestsIn) dX7_state_119 ml_X7_99 wi_X6_requestsIn wv_X6_requestsIn wn_X6 wc_X6_requestsIn hp_X6_requestsIn (by decide) (by decide) rfl (Nat.le_of_ble_eq_true rfl) ⟨Nat.zero_le _, Nat.zero_le _⟩ rfl k28 (T_X6_requestsIn (G := G) hw k28 q29) ?_
                  obtain ⟨h7, rfl⟩ := Prod.mk.inj (x_so h)
                  obtain rfl := Sum.inl.inj h7
                  exact x_iret dX7_state_122 rfl rfl rfl
                · rcases x_if h with ⟨c31, h⟩ | ⟨c31, h⟩
                  · refine x_swIn (off := 122) (tgt := 123) dX7_state_1 (by rw [c31]; decide) (by rw [c31]; decide) (by rw [c31]; rfl) (by decide) ?_
                    refine x_aload_n 0 dX7_state_123 rfl rfl ?_
                    obtain ⟨g32, k33⟩ := wt_X7_5 hw k100
                    refine x_getr dX7_state_124 vc_X7 xin7 fb_X7_5 fl_X7_37 xr_X7_5 k100 g32 ?_
                    obtain ⟨r35, q34, h⟩ := x_bd1 h
                    refine x_cv (b := (gp Y a0 5)) (As := []) (ci := 6) (d' := 1) (zz := yX6_bankruptHandlers) dX7_state_127 ml_X7_103 wi_X6_bankruptHandlers wv_X6_bankruptHandlers wn_X6 wc_X6_bankruptHandlers hp_X6_bankruptHandlers (by decide) (by decide) rfl (Nat.le_of_ble_eq_true rfl) ⟨Nat.zero_le _, Nat.zero_le _⟩ rfl k33 (T_X6_bankruptHandlers (G := G) hw k33 q34) ?_
                    obtain ⟨h7, rfl⟩ := Prod.mk.inj (x_so h)
                    obtain rfl := Sum.inl.inj h7
                    exact x_iret dX7_state_130 rfl rfl rfl
                  · rcases x_if h with ⟨c36, h⟩ | ⟨c36, h⟩
                    · refine x_swIn (off := 130) (tgt := 131) dX7_state_1 (by rw [c36]; decide) (by rw [c36]; decide) (by rw [c36]; rfl) (by decide) ?_
                      refine x_aload_n 0 dX7_state_131 rfl rfl ?_
                      obtain ⟨g37, k38⟩ := wt_X7_5 hw k100
                      refine x_getr dX7_state_132 vc_X7 xin7 fb_X7_5 fl_X7_37 xr_X7_5 k100 g37 ?_
                      obtain ⟨r40, q39, h⟩ := x_bd1 h
                      refine x_cv (b := (gp Y a0 5)) (As := []) (ci := 6) (d' := 1) (zz := yX6_allCoins) dX7_state_135 ml_X7_107 wi_X6_allCoins wv_X6_allCoins wn_X6 wc_X6_allCoins hp_X6_allCoins (by decide) (by decide) rfl (Nat.le_of_ble_eq_true rfl) ⟨Nat.zero_le _, Nat.zero_le _⟩ rfl k38 (T_X6_allCoins (G := G) hw k38 q39) ?_
                      obtain ⟨h7, rfl⟩ := Prod.mk.inj (x_so h)
                      obtain rfl := Sum.inl.inj h7
                      exact x_iret dX7_state_138 rfl rfl rfl
                    · refine x_swOut (tgt := 139) dX7_state_1 (x_swo (fun z h1 h2 => by
                        rcases (show z = 0 ∨ z = 1 ∨ z = 2 ∨ z = 3 ∨ z = 4 ∨ z = 5 ∨ z = 6 ∨ z = 7 ∨ z = 8 ∨ z = 9 by omega) with rfl | rfl | rfl | rfl | rfl | rfl | rfl | rfl | rfl | rfl
                        · exact x_ti c1 rfl
                        · exact x_ti c4 rfl
                        · exact x_ti c7 rfl
                        · exact x_ti c10 rfl
                        · exact x_ti c13 rfl
                        · exact x_ti c16 rfl
                        · exact x_ti c21 rfl
                        · exact x_ti c26 rfl
                        · exact x_ti c31 rfl
                        · exact x_ti c36 rfl)) (by decide) ?_
                      cases (Prod.mk.inj (x_so h)).1
set_option maxHeartbeats 4000000 in
set_option maxRecDepth 100000 in
theorem T_X7_statex {G : XG} {Y : XY} (hw : WT Y) (h9 : ∀ a, kc Y a ≠ 9) {a0 : Nat} {a1 : Int32} {N : XN} (k100 : kc Y a0 = 17) {r9 : String} {N9 : XN} (h : f_X7_state Y a0 a1 N = some (.inr r9, N9)) : Cl G yX7_state cX7_state 2 (some .int) (xR 7 1 6) [.ref a0, .int a1] (.inr r9) Y N Y N9 := by
  refine x_entry (by decide) (Nat.le_of_ble_eq_true rfl) rfl ?_
  rw [f_X7_state] at h
  refine x_iload_n 1 dX7_state_0 rfl rfl ?_
  rcases x_if h with ⟨c1, h⟩ | ⟨c1, h⟩
  · refine x_swIn (off := 55) (tgt := 56) dX7_state_1 (by rw [c1]; decide) (by rw [c1]; decide) (by rw [c1]; rfl) (by decide) ?_
    refine x_aload_n 0 dX7_state_56 rfl rfl ?_
    obtain ⟨g2, k3⟩ := wt_X7_5 hw k100
    refine x_getr dX7_state_57 vc_X7 xin7 fb_X7_5 fl_X7_37 xr_X7_5 k100 g2 ?_
    refine x_geti dX7_state_60 vc_X6 xin6 fb_X6_6 fl_X7_87 xr_X6_6 k3 ?_
    cases (Prod.mk.inj (x_so h)).1
  · rcases x_if h with ⟨c4, h⟩ | ⟨c4, h⟩
    · refine x_swIn (off := 63) (tgt := 64) dX7_state_1 (by rw [c4]; decide) (by rw [c4]; decide) (by rw [c4]; rfl) (by decide) ?_
      refine x_aload_n 0 dX7_state_64 rfl rfl ?_
      obtain ⟨g5, k6⟩ := wt_X7_5 hw k100
      refine x_getr dX7_state_65 vc_X7 xin7 fb_X7_5 fl_X7_37 xr_X7_5 k100 g5 ?_
      refine x_geti dX7_state_68 vc_X6 xin6 fb_X6_1 fl_X7_90 xr_X6_1 k6 ?_
      cases (Prod.mk.inj (x_so h)).1
    · rcases x_if h with ⟨c7, h⟩ | ⟨c7, h⟩
      · refine x_swIn (off := 71) (tgt := 72) dX7_state_1 (by rw [c7]; decide) (by rw [c7]; decide) (by rw [c7]; rfl) (by decide) ?_
        refine x_aload_n 0 dX7_state_72 rfl rfl ?_
        obtain ⟨g8, k9⟩ := wt_X7_5 hw k100
        refine x_getr dX7_state_73 vc_X7 xin7 fb_X7_5 fl_X7_37 xr_X7_5 k100 g8 ?_
        refine x_geti dX7_state_76 vc_X6 xin6 fb_X6_3 fl_X7_93 xr_X6_3 k9 ?_
        cases (Prod.mk.inj (x_so h)).1
      · rcases x_if h with ⟨c10, h⟩ | ⟨c10, h⟩
        · refine x_swIn (off := 79) (tgt := 80) dX7_state_1 (by rw [c10]; decide) (by rw [c10]; decide) (by rw [c10]; rfl) (by decide) ?_
          refine x_aload_n 0 dX7_state_80 rfl rfl ?_
          obtain ⟨g11, k12⟩ := wt_X7_5 hw k100
          refine x_getr dX7_state_81 vc_X7 xin7 fb_X7_5 fl_X7_37 xr_X7_5 k100 g11 ?_
          refine x_geti dX7_state_84 vc_X6 xin6 fb_X6_5 fl_X7_84 xr_X6_5 k12 ?_
          cases (Prod.mk.inj (x_so h)).1
        · rcases x_if h with ⟨c13, h⟩ | ⟨c13, h⟩
          · refine x_swIn (off := 87) (tgt := 88) dX7_state_1 (by rw [c13]; decide) (by rw [c13]; decide) (by rw [c13]; rfl) (by decide) ?_
            refine x_aload_n 0 dX7_state_88 rfl rfl ?_
            obtain ⟨g14, k15⟩ := wt_X7_5 hw k100
            refine x_getr dX7_state_89 vc_X7 xin7 fb_X7_5 fl_X7_37 xr_X7_5 k100 g14 ?_
            refine x_geti dX7_state_92 vc_X6 xin6 fb_X6_7 fl_X7_96 xr_X6_7 k15 ?_
            cases (Prod.mk.inj (x_so h)).1
          · rcases x_if h with ⟨c16, h⟩ | ⟨c16, h⟩
            · refine x_swIn (off := 95) (tgt := 96) dX7_state_1 (by rw [c16]; decide) (by rw [c16]; decide) (by rw [c16]; rfl) (by decide) ?_
              refine x_aload_n 0 dX7_state_96 rfl rfl ?_
              obtain ⟨g17, k18⟩ := wt_X7_5 hw k100
              refine x_getr dX7_state_97 vc_X7 xin7 fb_X7_5 fl_X7_37 xr_X7_5 k100 g17 ?_
              refine x_iconst (v := 1) dX7_state_100 rfl ?_
              obtain ⟨r20, q19, h⟩ := x_bd1 h
              refine x_cv (b := (gp Y a0 5)) (As := [.int 1]) (ci := 6) (d' := 1) (zz := yX6_requestsIn) dX7_state_101 ml_X7_99 wi_X6_requestsIn wv_X6_requestsIn wn_X6 wc_X6_requestsIn hp_X6_requestsIn (by decide) (by decide) rfl (Nat.le_of_ble_eq_true rfl) ⟨Nat.zero_le _, Nat.zero_le _⟩ rfl k18 (T_X6_requestsIn (G := G) hw k18 q19) ?_
              cases (Prod.mk.inj (x_so h)).1
            · rcases x_if h with ⟨c21, h⟩ | ⟨c21, h⟩
              · refine x_swIn (off := 104) (tgt := 105) dX7_state_1 (by rw [c21]; decide) (by rw [c21]; decide) (by rw [c21]; rfl) (by decide) ?_
                refine x_aload_n 0 dX7_state_105 rfl rfl ?_
                obtain ⟨g22, k23⟩ := wt_X7_5 hw k100
                refine x_getr dX7_state_106 vc_X7 xin7 fb_X7_5 fl_X7_37 xr_X7_5 k100 g22 ?_
                refine x_iconst (v := 2) dX7_state_109 rfl ?_
                obtain ⟨r25, q24, h⟩ := x_bd1 h
                refine x_cv (b := (gp Y a0 5)) (As := [.int 2]) (ci := 6) (d' := 1) (zz := yX6_requestsIn) dX7_state_110 ml_X7_99 wi_X6_requestsIn wv_X6_requestsIn wn_X6 wc_X6_requestsIn hp_X6_requestsIn (by decide) (by decide) rfl (Nat.le_of_ble_eq_true rfl) ⟨Nat.zero_le _, Nat.zero_le _⟩ rfl k23 (T_X6_requestsIn (G := G) hw k23 q24) ?_
                cases (Prod.mk.inj (x_so h)).1
              · rcases x_if h with ⟨c26, h⟩ | ⟨c26, h⟩
                · refine x_swIn (off := 113) (tgt := 114) dX7_state_1 (by rw [c26]; decide) (by rw [c26]; decide) (by rw [c26]; rfl) (by decide) ?_
                  refine x_aload_n 0 dX7_state_114 rfl rfl ?_
                  obtain ⟨g27, k28⟩ := wt_X7_5 hw k100
                  refine x_getr dX7_state_115 vc_X7 xin7 fb_X7_5 fl_X7_37 xr_X7_5 k100 g27 ?_
                  refine x_iconst (v := 3) dX7_state_118 rfl ?_
                  obtain ⟨r30, q29, h⟩ := x_bd1 h
                  refine x_cv (b := (gp Y a0 5)) (As := [.int 3]) (ci := 6) (d' := 1) (zz := yX6_requestsIn) dX7_state_119 ml_X7_99 wi_X6_requestsIn wv_X6_requestsIn wn_X6 wc_X6_requestsIn hp_X6_requestsIn (by decide) (by decide) rfl (Nat.le_of_ble_eq_true rfl) ⟨Nat.zero_le _, Nat.zero_le _⟩ rfl k28 (T_X6_requestsIn (G := G) hw k28 q29) ?_
                  cases (Prod.mk.inj (x_so h)).1
                · rcases x_if h with ⟨c31, h⟩ | ⟨c31, h⟩
                  · refine x_swIn (off := 122) (tgt := 123) dX7_state_1 (by rw [c31]; decide) (by rw [c31]; decide) (by rw [c31]; rfl) (by decide) ?_
                    refine x_aload_n 0 dX7_state_123 rfl rfl ?_
                    obtain ⟨g32, k33⟩ := wt_X7_5 hw k100
                    refine x_getr dX7_state_124 vc_X7 xin7 fb_X7_5 fl_X7_37 xr_X7_5 k100 g32 ?_
                    obtain ⟨r35, q34, h⟩ := x_bd1 h
                    refine x_cv (b := (gp Y a0 5)) (As := []) (ci := 6) (d' := 1) (zz := yX6_bankruptHandlers) dX7_state_127 ml_X7_103 wi_X6_bankruptHandlers wv_X6_bankruptHandlers wn_X6 wc_X6_bankruptHandlers hp_X6_bankruptHandlers (by decide) (by decide) rfl (Nat.le_of_ble_eq_true rfl) ⟨Nat.zero_le _, Nat.zero_le _⟩ rfl k33 (T_X6_bankruptHandlers (G := G) hw k33 q34) ?_
                    cases (Prod.mk.inj (x_so h)).1
                  · rcases x_if h with ⟨c36, h⟩ | ⟨c36, h⟩
                    · refine x_swIn (off := 130) (tgt := 131) dX7_state_1 (by rw [c36]; decide) (by rw [c36]; decide) (by rw [c36]; rfl) (by decide) ?_
                      refine x_aload_n 0 dX7_state_131 rfl rfl ?_
                      obtain ⟨g37, k38⟩ := wt_X7_5 hw k100
                      refine x_getr dX7_state_132 vc_X7 xin7 fb_X7_5 fl_X7_37 xr_X7_5 k100 g37 ?_
                      obtain ⟨r40, q39, h⟩ := x_bd1 h
                      refine x_cv (b := (gp Y a0 5)) (As := []) (ci := 6) (d' := 1) (zz := yX6_allCoins) dX7_state_135 ml_X7_107 wi_X6_allCoins wv_X6_allCoins wn_X6 wc_X6_allCoins hp_X6_allCoins (by decide) (by decide) rfl (Nat.le_of_ble_eq_true rfl) ⟨Nat.zero_le _, Nat.zero_le _⟩ rfl k38 (T_X6_allCoins (G := G) hw k38 q39) ?_
                      cases (Prod.mk.inj (x_so h)).1
                    · refine x_swOut (tgt := 139) dX7_state_1 (x_swo (fun z h1 h2 => by
                        rcases (show z = 0 ∨ z = 1 ∨ z = 2 ∨ z = 3 ∨ z = 4 ∨ z = 5 ∨ z = 6 ∨ z = 7 ∨ z = 8 ∨ z = 9 by omega) with rfl | rfl | rfl | rfl | rfl | rfl | rfl | rfl | rfl | rfl
                        · exact x_ti c1 rfl
                        · exact x_ti c4 rfl
                        · exact x_ti c7 rfl
                        · exact x_ti c10 rfl
                        · exact x_ti c13 rfl
                        · exact x_ti c16 rfl
                        · exact x_ti c21 rfl
                        · exact x_ti c26 rfl
                        · exact x_ti c31 rfl
                        · exact x_ti c36 rfl)) (by decide) ?_
                      obtain ⟨h7, rfl⟩ := Prod.mk.inj (x_so h)
                      obtain rfl := Sum.inr.inj h7
                      exact xt_iae dX7_state_139 dX7_state_142 dX7_state_143 dX7_state_145 dX7_state_148 (tx := "no such number of the state") (by decide) rfl (fun _ => h9 _) (by decide) (Nat.le_of_ble_eq_true rfl)
set_option maxHeartbeats 4000000 in
set_option maxRecDepth 100000 in
theorem T_X7_handler {G : XG} {Y : XY} (hw : WT Y) {a0 : Nat} {a1 : Int32} {a2 : Int32} {N : XN} (k100 : kc Y a0 = 17) {r9 : Int32} {N9 : XN} (h : f_X7_handler Y a0 a1 a2 N = some (.inl r9, N9)) : Cl G yX7_handler cX7_handler 4 (some .int) (xR 7 0 0) [.ref a0, .int a1, .int a2] (.inl (some (.int r9))) Y N Y N9 := by
  refine x_entry (by decide) (Nat.le_of_ble_eq_true rfl) rfl ?_
  rw [f_X7_handler] at h
  refine x_aload_n 0 dX7_handler_0 rfl rfl ?_
  obtain ⟨g1, k2⟩ := wt_X7_5 hw k100
  refine x_getr dX7_handler_1 vc_X7 xin7 fb_X7_5 fl_X7_37 xr_X7_5 k100 g1 ?_
  refine x_iload_n 1 dX7_handler_4 rfl rfl ?_
  refine x_cv (b := (gp Y a0 5)) (As := [.int a1]) (ci := 6) (d' := 1) (zz := yX6_hasHandler) dX7_handler_5 ml_X7_112 wi_X6_hasHandler wv_X6_hasHandler wn_X6 wc_X6_hasHandler hp_X6_hasHandler (by decide) (by decide) rfl (Nat.le_of_ble_eq_true rfl) ⟨Nat.zero_le _, Nat.zero_le _⟩ rfl k2 (T_X6_hasHandler (G := G) hw k2 rfl) ?_
  rcases x_if h with ⟨c3, h⟩ | ⟨c3, h⟩
  · refine x_if_ne_f (tgt := 21) dX7_handler_8 (by decide) c3 ?_
    cases (Prod.mk.inj (x_so h)).1
  · refine x_if_ne_t (tgt := 21) dX7_handler_8 (by decide) c3 ?_
    refine x_aload_n 0 dX7_handler_21 rfl rfl ?_
    refine x_getr dX7_handler_22 vc_X7 xin7 fb_X7_5 fl_X7_37 xr_X7_5 k100 g1 ?_
    obtain ⟨g4, k5, n6⟩ := wt_X6_0 hw k2
    refine x_getr dX7_handler_25 vc_X6 xin6 fb_X6_0 fl_X7_121 xr_X6_0 k2 g4 ?_
    refine x_iload_n 1 dX7_handler_28 rfl rfl ?_
    obtain ⟨c7, h⟩ := x_ck h
    obtain ⟨g8, k9⟩ := wt_4 hw k5 (xb_at n6 c7)
    refine x_aald (j := 0) dX7_handler_29 (by decide) k5 (xb_at n6 c7) g8 ?_
    obtain ⟨p10, ep10, h⟩ := x_lt h
    refine x_nmr ep10 ?_
    have k11 := k9; rw [← ep10] at k11
    refine x_astore_n (L' := [(0, .ref a0), (1, .int a1), (2, .int a2), (3, .ref p10)]) [1, 2, 3, 0] dX7_handler_30 rfl (by decide) rfl ?_
    refine x_iload_n 2 dX7_handler_31 rfl rfl ?_
    rcases x_if h with ⟨c12, h⟩ | ⟨c12, h⟩
    · refine x_swIn (off := 48) (tgt := 80) dX7_handler_32 (by rw [c12]; decide) (by rw [c12]; decide) (by rw [c12]; rfl) (by decide) ?_
      refine x_aload_n 3 dX7_handler_80 rfl rfl ?_
      refine x_geti dX7_handler_81 vc_X1 xin1 fb_X1_0 fl_X7_125 xr_X1_0 k11 ?_
      obtain ⟨h7, rfl⟩ := Prod.mk.inj (x_so h)
      obtain rfl := Sum.inl.inj h7
      exact x_iret dX7_handler_84 rfl rfl rfl
    · rcases x_if h with ⟨c13, h⟩ | ⟨c13, h⟩
      · refine x_swIn (off := 53) (tgt := 85) dX7_handler_32 (by rw [c13]; decide) (by rw [c13]; decide) (by rw [c13]; rfl) (by decide) ?_
        refine x_aload_n 3 dX7_handler_85 rfl rfl ?_
        refine x_geti dX7_handler_86 vc_X1 xin1 fb_X1_1 fl_X7_130 xr_X1_1 k11 ?_
        obtain ⟨h7, rfl⟩ := Prod.mk.inj (x_so h)
        obtain rfl := Sum.inl.inj h7
        exact x_iret dX7_handler_89 rfl rfl rfl
      · rcases x_if h with ⟨c14, h⟩ | ⟨c14, h⟩
        · refine x_swIn (off := 58) (tgt := 90) dX7_handler_32 (by rw [c14]; decide) (by rw [c14]; decide) (by rw [c14]; rfl) (by decide) ?_
          refine x_aload_n 3 dX7_handler_90 rfl rfl ?_
          refine x_geti dX7_handler_91 vc_X1 xin1 fb_X1_2 fl_X7_133 xr_X1_2 k11 ?_
          rcases x_if h with ⟨c15, h⟩ | ⟨c15, h⟩
          · refine x_if_eq_t (tgt := 101) dX7_handler_94 (by decide) c15 ?_
            refine x_iconst (v := 0) dX7_handler_101 rfl ?_
            obtain ⟨h7, rfl⟩ := Prod.mk.inj (x_so h)
            obtain rfl := Sum.inl.inj h7
            exact x_iret dX7_handler_102 rfl rfl rfl
          · refine x_if_eq_f (tgt := 101) dX7_handler_94 (by decide) c15 ?_
            refine x_iconst (v := 1) dX7_handler_97 rfl ?_
            refine x_goto (tgt := 102) dX7_handler_98 (by decide) ?_
            obtain ⟨h7, rfl⟩ := Prod.mk.inj (x_so h)
            obtain rfl := Sum.inl.inj h7
            exact x_iret dX7_handler_102 rfl rfl rfl
        · rcases x_if h with ⟨c16, h⟩ | ⟨c16, h⟩
          · refine x_swIn (off := 71) (tgt := 103) dX7_handler_32 (by rw [c16]; decide) (by rw [c16]; decide) (by rw [c16]; rfl) (by decide) ?_
            refine x_aload_n 3 dX7_handler_103 rfl rfl ?_
            refine x_geti dX7_handler_104 vc_X1 xin1 fb_X1_3 fl_X7_137 xr_X1_3 k11 ?_
            obtain ⟨h7, rfl⟩ := Prod.mk.inj (x_so h)
            obtain rfl := Sum.inl.inj h7
            exact x_iret dX7_handler_107 rfl rfl rfl
          · rcases x_if h with ⟨c17, h⟩ | ⟨c17, h⟩
            · refine x_swIn (off := 76) (tgt := 108) dX7_handler_32 (by rw [c17]; decide) (by rw [c17]; decide) (by rw [c17]; rfl) (by decide) ?_
              refine x_aload_n 0 dX7_handler_108 rfl rfl ?_
              refine x_getr dX7_handler_109 vc_X7 xin7 fb_X7_5 fl_X7_37 xr_X7_5 k100 g1 ?_
              refine x_iload_n 1 dX7_handler_112 rfl rfl ?_
              obtain ⟨r19, q18, h⟩ := x_bd1 h
              refine x_cv (b := (gp Y a0 5)) (As := [.int a1]) (ci := 6) (d' := 2) (zz := yX6_linesOf) dX7_handler_113 ml_X7_140 wi_X6_linesOf wv_X6_linesOf wn_X6 wc_X6_linesOf hp_X6_linesOf (by decide) (by decide) rfl (Nat.le_of_ble_eq_true rfl) ⟨Nat.zero_le _, Nat.zero_le _⟩ rfl k2 (T_X6_linesOf (G := G) hw k2 q18) ?_
              obtain ⟨h7, rfl⟩ := Prod.mk.inj (x_so h)
              obtain rfl := Sum.inl.inj h7
              exact x_iret dX7_handler_116 rfl rfl rfl
            · rcases x_if h with ⟨c20, h⟩ | ⟨c20, h⟩
              · refine x_swIn (off := 85) (tgt := 117) dX7_handler_32 (by rw [c20]; decide) (by rw [c20]; decide) (by rw [c20]; rfl) (by decide) ?_
                refine x_aload_n 3 dX7_handler_117 rfl rfl ?_
                refine x_geti dX7_handler_118 vc_X1 xin1 fb_X1_4 fl_X7_143 xr_X1_4 k11 ?_
                obtain ⟨h7, rfl⟩ := Prod.mk.inj (x_so h)
                obtain rfl := Sum.inl.inj h7
                exact x_iret dX7_handler_121 rfl rfl rfl
              · rcases x_if h with ⟨c21, h⟩ | ⟨c21, h⟩
                · refine x_swIn (off := 90) (tgt := 122) dX7_handler_32 (by rw [c21]; decide) (by rw [c21]; decide) (by rw [c21]; rfl) (by decide) ?_
                  refine x_aload_n 3 dX7_handler_122 rfl rfl ?_
                  refine x_geti dX7_handler_123 vc_X1 xin1 fb_X1_5 fl_X7_146 xr_X1_5 k11 ?_
                  obtain ⟨h7, rfl⟩ := Prod.mk.inj (x_so h)
                  obtain rfl := Sum.inl.inj h7
                  exact x_iret dX7_handler_126 rfl rfl rfl
                · rcases x_if h with ⟨c22, h⟩ | ⟨c22, h⟩
                  · refine x_swIn (off := 95) (tgt := 127) dX7_handler_32 (by rw [c22]; decide) (by rw [c22]; decide) (by rw [c22]; rfl) (by decide) ?_
                    refine x_aload_n 3 dX7_handler_127 rfl rfl ?_
                    refine x_geti dX7_handler_128 vc_X1 xin1 fb_X1_6 fl_X7_149 xr_X1_6 k11 ?_
                    obtain ⟨h7, rfl⟩ := Prod.mk.inj (x_so h)
                    obtain rfl := Sum.inl.inj h7
                    exact x_iret dX7_handler_131 rfl rfl rfl
                  · refine x_swOut (tgt := 132) dX7_handler_32 (x_swo (fun z h1 h2 => by
                    rcases (show z = 0 ∨ z = 1 ∨ z = 2 ∨ z = 3 ∨ z = 4 ∨ z = 5 ∨ z = 6 ∨ z = 7 by omega) with rfl | rfl | rfl | rfl | rfl | rfl | rfl | rfl
                    · exact x_ti c12 rfl
                    · exact x_ti c13 rfl
                    · exact x_ti c14 rfl
                    · exact x_ti c16 rfl
                    · exact x_ti c17 rfl
                    · exact x_ti c20 rfl
                    · exact x_ti c21 rfl
                    · exact x_ti c22 rfl)) (by decide) ?_
                    cases (Prod.mk.inj (x_so h)).1
set_option maxHeartbeats 4000000 in
set_option maxRecDepth 100000 in
theorem T_X7_handlerx {G : XG} {Y : XY} (hw : WT Y) (h9 : ∀ a, kc Y a ≠ 9) {a0 : Nat} {a1 : Int32} {a2 : Int32} {N : XN} (k100 : kc Y a0 = 17) {r9 : String} {N9 : XN} (h : f_X7_handler Y a0 a1 a2 N = some (.inr r9, N9)) : Cl G yX7_handler cX7_handler 4 (some .int) (xR 7 1 6) [.ref a0, .int a1, .int a2] (.inr r9) Y N Y N9 := by
  refine x_entry (by decide) (Nat.le_of_ble_eq_true rfl) rfl ?_
  rw [f_X7_handler] at h
  refine x_aload_n 0 dX7_handler_0 rfl rfl ?_
  obtain ⟨g1, k2⟩ := wt_X7_5 hw k100
  refine x_getr dX7_handler_1 vc_X7 xin7 fb_X7_5 fl_X7_37 xr_X7_5 k100 g1 ?_
  refine x_iload_n 1 dX7_handler_4 rfl rfl ?_
  refine x_cv (b := (gp Y a0 5)) (As := [.int a1]) (ci := 6) (d' := 1) (zz := yX6_hasHandler) dX7_handler_5 ml_X7_112 wi_X6_hasHandler wv_X6_hasHandler wn_X6 wc_X6_hasHandler hp_X6_hasHandler (by decide) (by decide) rfl (Nat.le_of_ble_eq_true rfl) ⟨Nat.zero_le _, Nat.zero_le _⟩ rfl k2 (T_X6_hasHandler (G := G) hw k2 rfl) ?_
  rcases x_if h with ⟨c3, h⟩ | ⟨c3, h⟩
  · refine x_if_ne_f (tgt := 21) dX7_handler_8 (by decide) c3 ?_
    obtain ⟨h7, rfl⟩ := Prod.mk.inj (x_so h)
    obtain rfl := Sum.inr.inj h7
    exact xt_iob dX7_handler_11 dX7_handler_14 dX7_handler_15 dX7_handler_17 dX7_handler_20 (tx := "no such handler") (by decide) rfl (fun _ => h9 _) (by decide) (Nat.le_of_ble_eq_true rfl)
  · refine x_if_ne_t (tgt := 21) dX7_handler_8 (by decide) c3 ?_
    refine x_aload_n 0 dX7_handler_21 rfl rfl ?_
    refine x_getr dX7_handler_22 vc_X7 xin7 fb_X7_5 fl_X7_37 xr_X7_5 k100 g1 ?_
    obtain ⟨g4, k5, n6⟩ := wt_X6_0 hw k2
    refine x_getr dX7_handler_25 vc_X6 xin6 fb_X6_0 fl_X7_121 xr_X6_0 k2 g4 ?_
    refine x_iload_n 1 dX7_handler_28 rfl rfl ?_
    obtain ⟨c7, h⟩ := x_ck h
    obtain ⟨g8, k9⟩ := wt_4 hw k5 (xb_at n6 c7)
    refine x_aald (j := 0) dX7_handler_29 (by decide) k5 (xb_at n6 c7) g8 ?_
    obtain ⟨p10, ep10, h⟩ := x_lt h
    refine x_nmr ep10 ?_
    have k11 := k9; rw [← ep10] at k11
    refine x_astore_n (L' := [(0, .ref a0), (1, .int a1), (2, .int a2), (3, .ref p10)]) [1, 2, 3, 0] dX7_handler_30 rfl (by decide) rfl ?_
    refine x_iload_n 2 dX7_handler_31 rfl rfl ?_
    rcases x_if h with ⟨c12, h⟩ | ⟨c12, h⟩
    · refine x_swIn (off := 48) (tgt := 80) dX7_handler_32 (by rw [c12]; decide) (by rw [c12]; decide) (by rw [c12]; rfl) (by decide) ?_
      refine x_aload_n 3 dX7_handler_80 rfl rfl ?_
      refine x_geti dX7_handler_81 vc_X1 xin1 fb_X1_0 fl_X7_125 xr_X1_0 k11 ?_
      cases (Prod.mk.inj (x_so h)).1
    · rcases x_if h with ⟨c13, h⟩ | ⟨c13, h⟩
      · refine x_swIn (off := 53) (tgt := 85) dX7_handler_32 (by rw [c13]; decide) (by rw [c13]; decide) (by rw [c13]; rfl) (by decide) ?_
        refine x_aload_n 3 dX7_handler_85 rfl rfl ?_
        refine x_geti dX7_handler_86 vc_X1 xin1 fb_X1_1 fl_X7_130 xr_X1_1 k11 ?_
        cases (Prod.mk.inj (x_so h)).1
      · rcases x_if h with ⟨c14, h⟩ | ⟨c14, h⟩
        · refine x_swIn (off := 58) (tgt := 90) dX7_handler_32 (by rw [c14]; decide) (by rw [c14]; decide) (by rw [c14]; rfl) (by decide) ?_
          refine x_aload_n 3 dX7_handler_90 rfl rfl ?_
          refine x_geti dX7_handler_91 vc_X1 xin1 fb_X1_2 fl_X7_133 xr_X1_2 k11 ?_
          rcases x_if h with ⟨c15, h⟩ | ⟨c15, h⟩
          · refine x_if_eq_t (tgt := 101) dX7_handler_94 (by decide) c15 ?_
            refine x_iconst (v := 0) dX7_handler_101 rfl ?_
            cases (Prod.mk.inj (x_so h)).1
          · refine x_if_eq_f (tgt := 101) dX7_handler_94 (by decide) c15 ?_
            refine x_iconst (v := 1) dX7_handler_97 rfl ?_
            refine x_goto (tgt := 102) dX7_handler_98 (by decide) ?_
            cases (Prod.mk.inj (x_so h)).1
        · rcases x_if h with ⟨c16, h⟩ | ⟨c16, h⟩
          · refine x_swIn (off := 71) (tgt := 103) dX7_handler_32 (by rw [c16]; decide) (by rw [c16]; decide) (by rw [c16]; rfl) (by decide) ?_
            refine x_aload_n 3 dX7_handler_103 rfl rfl ?_
            refine x_geti dX7_handler_104 vc_X1 xin1 fb_X1_3 fl_X7_137 xr_X1_3 k11 ?_
            cases (Prod.mk.inj (x_so h)).1
          · rcases x_if h with ⟨c17, h⟩ | ⟨c17, h⟩
            · refine x_swIn (off := 76) (tgt := 108) dX7_handler_32 (by rw [c17]; decide) (by rw [c17]; decide) (by rw [c17]; rfl) (by decide) ?_
              refine x_aload_n 0 dX7_handler_108 rfl rfl ?_
              refine x_getr dX7_handler_109 vc_X7 xin7 fb_X7_5 fl_X7_37 xr_X7_5 k100 g1 ?_
              refine x_iload_n 1 dX7_handler_112 rfl rfl ?_
              obtain ⟨r19, q18, h⟩ := x_bd1 h
              refine x_cv (b := (gp Y a0 5)) (As := [.int a1]) (ci := 6) (d' := 2) (zz := yX6_linesOf) dX7_handler_113 ml_X7_140 wi_X6_linesOf wv_X6_linesOf wn_X6 wc_X6_linesOf hp_X6_linesOf (by decide) (by decide) rfl (Nat.le_of_ble_eq_true rfl) ⟨Nat.zero_le _, Nat.zero_le _⟩ rfl k2 (T_X6_linesOf (G := G) hw k2 q18) ?_
              cases (Prod.mk.inj (x_so h)).1
            · rcases x_if h with ⟨c20, h⟩ | ⟨c20, h⟩
              · refine x_swIn (off := 85) (tgt := 117) dX7_handler_32 (by rw [c20]; decide) (by rw [c20]; decide) (by rw [c20]; rfl) (by decide) ?_
                refine x_aload_n 3 dX7_handler_117 rfl rfl ?_
                refine x_geti dX7_handler_118 vc_X1 xin1 fb_X1_4 fl_X7_143 xr_X1_4 k11 ?_
                cases (Prod.mk.inj (x_so h)).1
              · rcases x_if h with ⟨c21, h⟩ | ⟨c21, h⟩
                · refine x_swIn (off := 90) (tgt := 122) dX7_handler_32 (by rw [c21]; decide) (by rw [c21]; decide) (by rw [c21]; rfl) (by decide) ?_
                  refine x_aload_n 3 dX7_handler_122 rfl rfl ?_
                  refine x_geti dX7_handler_123 vc_X1 xin1 fb_X1_5 fl_X7_146 xr_X1_5 k11 ?_
                  cases (Prod.mk.inj (x_so h)).1
                · rcases x_if h with ⟨c22, h⟩ | ⟨c22, h⟩
                  · refine x_swIn (off := 95) (tgt := 127) dX7_handler_32 (by rw [c22]; decide) (by rw [c22]; decide) (by rw [c22]; rfl) (by decide) ?_
                    refine x_aload_n 3 dX7_handler_127 rfl rfl ?_
                    refine x_geti dX7_handler_128 vc_X1 xin1 fb_X1_6 fl_X7_149 xr_X1_6 k11 ?_
                    cases (Prod.mk.inj (x_so h)).1
                  · refine x_swOut (tgt := 132) dX7_handler_32 (x_swo (fun z h1 h2 => by
                    rcases (show z = 0 ∨ z = 1 ∨ z = 2 ∨ z = 3 ∨ z = 4 ∨ z = 5 ∨ z = 6 ∨ z = 7 by omega) with rfl | rfl | rfl | rfl | rfl | rfl | rfl | rfl
                    · exact x_ti c12 rfl
                    · exact x_ti c13 rfl
                    · exact x_ti c14 rfl
                    · exact x_ti c16 rfl
                    · exact x_ti c17 rfl
                    · exact x_ti c20 rfl
                    · exact x_ti c21 rfl
                    · exact x_ti c22 rfl)) (by decide) ?_
                    obtain ⟨h7, rfl⟩ := Prod.mk.inj (x_so h)
                    obtain rfl := Sum.inr.inj h7
                    exact xt_iae dX7_handler_132 dX7_handler_135 dX7_handler_136 dX7_handler_138 dX7_handler_141 (tx := "no such number of a handler") (by decide) rfl (fun _ => h9 _) (by decide) (Nat.le_of_ble_eq_true rfl)
set_option maxHeartbeats 4000000 in
set_option maxRecDepth 100000 in
theorem T_X7_line {G : XG} {Y : XY} (hw : WT Y) {a0 : Nat} {a1 : Int32} {a2 : Int32} {N : XN} (k100 : kc Y a0 = 17) {r9 : Int32} {N9 : XN} (h : f_X7_line Y a0 a1 a2 N = some (.inl r9, N9)) : Cl G yX7_line cX7_line 4 (some .int) (xR 7 0 0) [.ref a0, .int a1, .int a2] (.inl (some (.int r9))) Y N Y N9 := by
  refine x_entry (by decide) (Nat.le_of_ble_eq_true rfl) rfl ?_
  rw [f_X7_line] at h
  refine x_aload_n 0 dX7_line_0 rfl rfl ?_
  obtain ⟨g1, k2⟩ := wt_X7_5 hw k100
  refine x_getr dX7_line_1 vc_X7 xin7 fb_X7_5 fl_X7_37 xr_X7_5 k100 g1 ?_
  refine x_iload_n 1 dX7_line_4 rfl rfl ?_
  refine x_cv (b := (gp Y a0 5)) (As := [.int a1]) (ci := 6) (d' := 1) (zz := yX6_hasLine) dX7_line_5 ml_X7_154 wi_X6_hasLine wv_X6_hasLine wn_X6 wc_X6_hasLine hp_X6_hasLine (by decide) (by decide) rfl (Nat.le_of_ble_eq_true rfl) ⟨Nat.zero_le _, Nat.zero_le _⟩ rfl k2 (T_X6_hasLine (G := G) hw k2 rfl) ?_
  rcases x_if h with ⟨c3, h⟩ | ⟨c3, h⟩
  · refine x_if_ne_f (tgt := 21) dX7_line_8 (by decide) c3 ?_
    cases (Prod.mk.inj (x_so h)).1
  · refine x_if_ne_t (tgt := 21) dX7_line_8 (by decide) c3 ?_
    refine x_aload_n 0 dX7_line_21 rfl rfl ?_
    refine x_getr dX7_line_22 vc_X7 xin7 fb_X7_5 fl_X7_37 xr_X7_5 k100 g1 ?_
    obtain ⟨g4, k5, n6⟩ := wt_X6_2 hw k2
    refine x_getr dX7_line_25 vc_X6 xin6 fb_X6_2 fl_X7_159 xr_X6_2 k2 g4 ?_
    refine x_iload_n 1 dX7_line_28 rfl rfl ?_
    obtain ⟨c7, h⟩ := x_ck h
    obtain ⟨g8, k9⟩ := wt_5 hw k5 (xb_at n6 c7)
    refine x_aald (j := 1) dX7_line_29 (by decide) k5 (xb_at n6 c7) g8 ?_
    obtain ⟨p10, ep10, h⟩ := x_lt h
    refine x_nmr ep10 ?_
    have k11 := k9; rw [← ep10] at k11
    refine x_astore_n (L' := [(0, .ref a0), (1, .int a1), (2, .int a2), (3, .ref p10)]) [1, 2, 3, 0] dX7_line_30 rfl (by decide) rfl ?_
    refine x_iload_n 2 dX7_line_31 rfl rfl ?_
    rcases x_if h with ⟨c12, h⟩ | ⟨c12, h⟩
    · refine x_swIn (off := 36) (tgt := 68) dX7_line_32 (by rw [c12]; decide) (by rw [c12]; decide) (by rw [c12]; rfl) (by decide) ?_
      refine x_aload_n 3 dX7_line_68 rfl rfl ?_
      refine x_geti dX7_line_69 vc_X2 xin2 fb_X2_0 fl_X7_163 xr_X2_0 k11 ?_
      obtain ⟨h7, rfl⟩ := Prod.mk.inj (x_so h)
      obtain rfl := Sum.inl.inj h7
      exact x_iret dX7_line_72 rfl rfl rfl
    · rcases x_if h with ⟨c13, h⟩ | ⟨c13, h⟩
      · refine x_swIn (off := 41) (tgt := 73) dX7_line_32 (by rw [c13]; decide) (by rw [c13]; decide) (by rw [c13]; rfl) (by decide) ?_
        refine x_aload_n 3 dX7_line_73 rfl rfl ?_
        refine x_geti dX7_line_74 vc_X2 xin2 fb_X2_1 fl_X7_168 xr_X2_1 k11 ?_
        obtain ⟨h7, rfl⟩ := Prod.mk.inj (x_so h)
        obtain rfl := Sum.inl.inj h7
        exact x_iret dX7_line_77 rfl rfl rfl
      · rcases x_if h with ⟨c14, h⟩ | ⟨c14, h⟩
        · refine x_swIn (off := 46) (tgt := 78) dX7_line_32 (by rw [c14]; decide) (by rw [c14]; decide) (by rw [c14]; rfl) (by decide) ?_
          refine x_aload_n 3 dX7_line_78 rfl rfl ?_
          refine x_geti dX7_line_79 vc_X2 xin2 fb_X2_2 fl_X7_171 xr_X2_2 k11 ?_
          obtain ⟨h7, rfl⟩ := Prod.mk.inj (x_so h)
          obtain rfl := Sum.inl.inj h7
          exact x_iret dX7_line_82 rfl rfl rfl
        · rcases x_if h with ⟨c15, h⟩ | ⟨c15, h⟩
          · refine x_swIn (off := 51) (tgt := 83) dX7_line_32 (by rw [c15]; decide) (by rw [c15]; decide) (by rw [c15]; rfl) (by decide) ?_
            refine x_aload_n 3 dX7_line_83 rfl rfl ?_
            refine x_geti dX7_line_84 vc_X2 xin2 fb_X2_4 fl_X7_172 xr_X2_4 k11 ?_
            obtain ⟨h7, rfl⟩ := Prod.mk.inj (x_so h)
            obtain rfl := Sum.inl.inj h7
            exact x_iret dX7_line_87 rfl rfl rfl
          · rcases x_if h with ⟨c16, h⟩ | ⟨c16, h⟩
            · refine x_swIn (off := 56) (tgt := 88) dX7_line_32 (by rw [c16]; decide) (by rw [c16]; decide) (by rw [c16]; rfl) (by decide) ?_
              refine x_aload_n 0 dX7_line_88 rfl rfl ?_
              refine x_getr dX7_line_89 vc_X7 xin7 fb_X7_5 fl_X7_37 xr_X7_5 k100 g1 ?_
              refine x_iload_n 1 dX7_line_92 rfl rfl ?_
              refine x_iconst (v := (-1)) dX7_line_93 rfl ?_
              obtain ⟨r18, q17, h⟩ := x_bd1 h
              refine x_cv (b := (gp Y a0 5)) (As := [.int a1, .int (-1)]) (ci := 6) (d' := 1) (zz := yX6_openOf) dX7_line_94 ml_X7_175 wi_X6_openOf wv_X6_openOf wn_X6 wc_X6_openOf hp_X6_openOf (by decide) (by decide) rfl (Nat.le_of_ble_eq_true rfl) ⟨Nat.zero_le _, Nat.zero_le _⟩ rfl k2 (T_X6_openOf (G := G) hw k2 q17) ?_
              obtain ⟨h7, rfl⟩ := Prod.mk.inj (x_so h)
              obtain rfl := Sum.inl.inj h7
              exact x_iret dX7_line_97 rfl rfl rfl
            · refine x_swOut (tgt := 98) dX7_line_32 (x_swo (fun z h1 h2 => by
              rcases (show z = 0 ∨ z = 1 ∨ z = 2 ∨ z = 3 ∨ z = 4 by omega) with rfl | rfl | rfl | rfl | rfl
              · exact x_ti c12 rfl
              · exact x_ti c13 rfl
              · exact x_ti c14 rfl
              · exact x_ti c15 rfl
              · exact x_ti c16 rfl)) (by decide) ?_
              cases (Prod.mk.inj (x_so h)).1
set_option maxHeartbeats 4000000 in
set_option maxRecDepth 100000 in
theorem T_X7_linex {G : XG} {Y : XY} (hw : WT Y) (h9 : ∀ a, kc Y a ≠ 9) {a0 : Nat} {a1 : Int32} {a2 : Int32} {N : XN} (k100 : kc Y a0 = 17) {r9 : String} {N9 : XN} (h : f_X7_line Y a0 a1 a2 N = some (.inr r9, N9)) : Cl G yX7_line cX7_line 4 (some .int) (xR 7 1 6) [.ref a0, .int a1, .int a2] (.inr r9) Y N Y N9 := by
  refine x_entry (by decide) (Nat.le_of_ble_eq_true rfl) rfl ?_
  rw [f_X7_line] at h
  refine x_aload_n 0 dX7_line_0 rfl rfl ?_
  obtain ⟨g1, k2⟩ := wt_X7_5 hw k100
  refine x_getr dX7_line_1 vc_X7 xin7 fb_X7_5 fl_X7_37 xr_X7_5 k100 g1 ?_
  refine x_iload_n 1 dX7_line_4 rfl rfl ?_
  refine x_cv (b := (gp Y a0 5)) (As := [.int a1]) (ci := 6) (d' := 1) (zz := yX6_hasLine) dX7_line_5 ml_X7_154 wi_X6_hasLine wv_X6_hasLine wn_X6 wc_X6_hasLine hp_X6_hasLine (by decide) (by decide) rfl (Nat.le_of_ble_eq_true rfl) ⟨Nat.zero_le _, Nat.zero_le _⟩ rfl k2 (T_X6_hasLine (G := G) hw k2 rfl) ?_
  rcases x_if h with ⟨c3, h⟩ | ⟨c3, h⟩
  · refine x_if_ne_f (tgt := 21) dX7_line_8 (by decide) c3 ?_
    obtain ⟨h7, rfl⟩ := Prod.mk.inj (x_so h)
    obtain rfl := Sum.inr.inj h7
    exact xt_iob dX7_line_11 dX7_line_14 dX7_line_15 dX7_line_17 dX7_line_20 (tx := "no such line") (by decide) rfl (fun _ => h9 _) (by decide) (Nat.le_of_ble_eq_true rfl)
  · refine x_if_ne_t (tgt := 21) dX7_line_8 (by decide) c3 ?_
    refine x_aload_n 0 dX7_line_21 rfl rfl ?_
    refine x_getr dX7_line_22 vc_X7 xin7 fb_X7_5 fl_X7_37 xr_X7_5 k100 g1 ?_
    obtain ⟨g4, k5, n6⟩ := wt_X6_2 hw k2
    refine x_getr dX7_line_25 vc_X6 xin6 fb_X6_2 fl_X7_159 xr_X6_2 k2 g4 ?_
    refine x_iload_n 1 dX7_line_28 rfl rfl ?_
    obtain ⟨c7, h⟩ := x_ck h
    obtain ⟨g8, k9⟩ := wt_5 hw k5 (xb_at n6 c7)
    refine x_aald (j := 1) dX7_line_29 (by decide) k5 (xb_at n6 c7) g8 ?_
    obtain ⟨p10, ep10, h⟩ := x_lt h
    refine x_nmr ep10 ?_
    have k11 := k9; rw [← ep10] at k11
    refine x_astore_n (L' := [(0, .ref a0), (1, .int a1), (2, .int a2), (3, .ref p10)]) [1, 2, 3, 0] dX7_line_30 rfl (by decide) rfl ?_
    refine x_iload_n 2 dX7_line_31 rfl rfl ?_
    rcases x_if h with ⟨c12, h⟩ | ⟨c12, h⟩
    · refine x_swIn (off := 36) (tgt := 68) dX7_line_32 (by rw [c12]; decide) (by rw [c12]; decide) (by rw [c12]; rfl) (by decide) ?_
      refine x_aload_n 3 dX7_line_68 rfl rfl ?_
      refine x_geti dX7_line_69 vc_X2 xin2 fb_X2_0 fl_X7_163 xr_X2_0 k11 ?_
      cases (Prod.mk.inj (x_so h)).1
    · rcases x_if h with ⟨c13, h⟩ | ⟨c13, h⟩
      · refine x_swIn (off := 41) (tgt := 73) dX7_line_32 (by rw [c13]; decide) (by rw [c13]; decide) (by rw [c13]; rfl) (by decide) ?_
        refine x_aload_n 3 dX7_line_73 rfl rfl ?_
        refine x_geti dX7_line_74 vc_X2 xin2 fb_X2_1 fl_X7_168 xr_X2_1 k11 ?_
        cases (Prod.mk.inj (x_so h)).1
      · rcases x_if h with ⟨c14, h⟩ | ⟨c14, h⟩
        · refine x_swIn (off := 46) (tgt := 78) dX7_line_32 (by rw [c14]; decide) (by rw [c14]; decide) (by rw [c14]; rfl) (by decide) ?_
          refine x_aload_n 3 dX7_line_78 rfl rfl ?_
          refine x_geti dX7_line_79 vc_X2 xin2 fb_X2_2 fl_X7_171 xr_X2_2 k11 ?_
          cases (Prod.mk.inj (x_so h)).1
        · rcases x_if h with ⟨c15, h⟩ | ⟨c15, h⟩
          · refine x_swIn (off := 51) (tgt := 83) dX7_line_32 (by rw [c15]; decide) (by rw [c15]; decide) (by rw [c15]; rfl) (by decide) ?_
            refine x_aload_n 3 dX7_line_83 rfl rfl ?_
            refine x_geti dX7_line_84 vc_X2 xin2 fb_X2_4 fl_X7_172 xr_X2_4 k11 ?_
            cases (Prod.mk.inj (x_so h)).1
          · rcases x_if h with ⟨c16, h⟩ | ⟨c16, h⟩
            · refine x_swIn (off := 56) (tgt := 88) dX7_line_32 (by rw [c16]; decide) (by rw [c16]; decide) (by rw [c16]; rfl) (by decide) ?_
              refine x_aload_n 0 dX7_line_88 rfl rfl ?_
              refine x_getr dX7_line_89 vc_X7 xin7 fb_X7_5 fl_X7_37 xr_X7_5 k100 g1 ?_
              refine x_iload_n 1 dX7_line_92 rfl rfl ?_
              refine x_iconst (v := (-1)) dX7_line_93 rfl ?_
              obtain ⟨r18, q17, h⟩ := x_bd1 h
              refine x_cv (b := (gp Y a0 5)) (As := [.int a1, .int (-1)]) (ci := 6) (d' := 1) (zz := yX6_openOf) dX7_line_94 ml_X7_175 wi_X6_openOf wv_X6_openOf wn_X6 wc_X6_openOf hp_X6_openOf (by decide) (by decide) rfl (Nat.le_of_ble_eq_true rfl) ⟨Nat.zero_le _, Nat.zero_le _⟩ rfl k2 (T_X6_openOf (G := G) hw k2 q17) ?_
              cases (Prod.mk.inj (x_so h)).1
            · refine x_swOut (tgt := 98) dX7_line_32 (x_swo (fun z h1 h2 => by
              rcases (show z = 0 ∨ z = 1 ∨ z = 2 ∨ z = 3 ∨ z = 4 by omega) with rfl | rfl | rfl | rfl | rfl
              · exact x_ti c12 rfl
              · exact x_ti c13 rfl
              · exact x_ti c14 rfl
              · exact x_ti c15 rfl
              · exact x_ti c16 rfl)) (by decide) ?_
              obtain ⟨h7, rfl⟩ := Prod.mk.inj (x_so h)
              obtain rfl := Sum.inr.inj h7
              exact xt_iae dX7_line_98 dX7_line_101 dX7_line_102 dX7_line_104 dX7_line_107 (tx := "no such number of a line") (by decide) rfl (fun _ => h9 _) (by decide) (Nat.le_of_ble_eq_true rfl)
set_option maxHeartbeats 4000000 in
set_option maxRecDepth 100000 in
theorem T_X7_tenant {G : XG} {Y : XY} (hw : WT Y) {a0 : Nat} {a1 : Int32} {a2 : Int32} {N : XN} (k100 : kc Y a0 = 17) {r9 : Int32} {N9 : XN} (h : f_X7_tenant Y a0 a1 a2 N = some (.inl r9, N9)) : Cl G yX7_tenant cX7_tenant 4 (some .int) (xR 7 0 0) [.ref a0, .int a1, .int a2] (.inl (some (.int r9))) Y N Y N9 := by
  refine x_entry (by decide) (Nat.le_of_ble_eq_true rfl) rfl ?_
  rw [f_X7_tenant] at h
  refine x_aload_n 0 dX7_tenant_0 rfl rfl ?_
  obtain ⟨g1, k2⟩ := wt_X7_5 hw k100
  refine x_getr dX7_tenant_1 vc_X7 xin7 fb_X7_5 fl_X7_37 xr_X7_5 k100 g1 ?_
  refine x_iload_n 1 dX7_tenant_4 rfl rfl ?_
  refine x_cv (b := (gp Y a0 5)) (As := [.int a1]) (ci := 6) (d' := 1) (zz := yX6_hasLine) dX7_tenant_5 ml_X7_154 wi_X6_hasLine wv_X6_hasLine wn_X6 wc_X6_hasLine hp_X6_hasLine (by decide) (by decide) rfl (Nat.le_of_ble_eq_true rfl) ⟨Nat.zero_le _, Nat.zero_le _⟩ rfl k2 (T_X6_hasLine (G := G) hw k2 rfl) ?_
  rcases x_if h with ⟨c3, h⟩ | ⟨c3, h⟩
  · refine x_if_ne_f (tgt := 21) dX7_tenant_8 (by decide) c3 ?_
    cases (Prod.mk.inj (x_so h)).1
  · refine x_if_ne_t (tgt := 21) dX7_tenant_8 (by decide) c3 ?_
    refine x_aload_n 0 dX7_tenant_21 rfl rfl ?_
    refine x_getr dX7_tenant_22 vc_X7 xin7 fb_X7_5 fl_X7_37 xr_X7_5 k100 g1 ?_
    obtain ⟨g4, k5, n6⟩ := wt_X6_2 hw k2
    refine x_getr dX7_tenant_25 vc_X6 xin6 fb_X6_2 fl_X7_159 xr_X6_2 k2 g4 ?_
    refine x_iload_n 1 dX7_tenant_28 rfl rfl ?_
    obtain ⟨c7, h⟩ := x_ck h
    obtain ⟨g8, k9⟩ := wt_5 hw k5 (xb_at n6 c7)
    refine x_aald (j := 1) dX7_tenant_29 (by decide) k5 (xb_at n6 c7) g8 ?_
    obtain ⟨p10, ep10, h⟩ := x_lt h
    refine x_nmr ep10 ?_
    have k11 := k9; rw [← ep10] at k11
    refine x_astore_n (L' := [(2, .int a2), (3, .ref p10)]) [3, 0] dX7_tenant_30 rfl (by decide) rfl ?_
    refine x_iload_n 0 dX7_tenant_31 rfl rfl ?_
    rcases x_if h with ⟨c12, h⟩ | ⟨c12, h⟩
    · refine x_if_lt_t (tgt := 43) dX7_tenant_32 (by decide) c12 ?_
      cases (Prod.mk.inj (x_so h)).1
    · refine x_if_lt_f (tgt := 43) dX7_tenant_32 (by decide) c12 ?_
      refine x_iload_n 0 dX7_tenant_35 rfl rfl ?_
      refine x_aload_n 1 dX7_tenant_36 rfl rfl ?_
      refine x_geti dX7_tenant_37 vc_X2 xin2 fb_X2_4 fl_X7_172 xr_X2_4 k11 ?_
      rcases x_if h with ⟨c13, h⟩ | ⟨c13, h⟩
      · refine x_icmp_lt_t (tgt := 53) dX7_tenant_40 (by decide) c13 ?_
        refine x_aload_n 1 dX7_tenant_53 rfl rfl ?_
        obtain ⟨g14, k15, n16⟩ := wt_X2_3 hw k11
        refine x_getr dX7_tenant_54 vc_X2 xin2 fb_X2_3 fl_X7_186 xr_X2_3 k11 g14 ?_
        refine x_iload_n 0 dX7_tenant_57 rfl rfl ?_
        obtain ⟨c17, h⟩ := x_ck h
        refine x_iald dX7_tenant_58 k15 (xb_at n16 c17) rfl ?_
        obtain ⟨h7, rfl⟩ := Prod.mk.inj (x_so h)
        obtain rfl := Sum.inl.inj h7
        exact x_iret dX7_tenant_59 rfl rfl rfl
      · refine x_icmp_lt_f (tgt := 53) dX7_tenant_40 (by decide) c13 ?_
        cases (Prod.mk.inj (x_so h)).1
set_option maxHeartbeats 4000000 in
set_option maxRecDepth 100000 in
theorem T_X7_tenantx {G : XG} {Y : XY} (hw : WT Y) (h9 : ∀ a, kc Y a ≠ 9) {a0 : Nat} {a1 : Int32} {a2 : Int32} {N : XN} (k100 : kc Y a0 = 17) {r9 : String} {N9 : XN} (h : f_X7_tenant Y a0 a1 a2 N = some (.inr r9, N9)) : Cl G yX7_tenant cX7_tenant 4 (some .int) (xR 7 1 6) [.ref a0, .int a1, .int a2] (.inr r9) Y N Y N9 := by
  refine x_entry (by decide) (Nat.le_of_ble_eq_true rfl) rfl ?_
  rw [f_X7_tenant] at h
  refine x_aload_n 0 dX7_tenant_0 rfl rfl ?_
  obtain ⟨g1, k2⟩ := wt_X7_5 hw k100
  refine x_getr dX7_tenant_1 vc_X7 xin7 fb_X7_5 fl_X7_37 xr_X7_5 k100 g1 ?_
  refine x_iload_n 1 dX7_tenant_4 rfl rfl ?_
  refine x_cv (b := (gp Y a0 5)) (As := [.int a1]) (ci := 6) (d' := 1) (zz := yX6_hasLine) dX7_tenant_5 ml_X7_154 wi_X6_hasLine wv_X6_hasLine wn_X6 wc_X6_hasLine hp_X6_hasLine (by decide) (by decide) rfl (Nat.le_of_ble_eq_true rfl) ⟨Nat.zero_le _, Nat.zero_le _⟩ rfl k2 (T_X6_hasLine (G := G) hw k2 rfl) ?_
  rcases x_if h with ⟨c3, h⟩ | ⟨c3, h⟩
  · refine x_if_ne_f (tgt := 21) dX7_tenant_8 (by decide) c3 ?_
    obtain ⟨h7, rfl⟩ := Prod.mk.inj (x_so h)
    obtain rfl := Sum.inr.inj h7
    exact xt_iob dX7_tenant_11 dX7_tenant_14 dX7_tenant_15 dX7_tenant_17 dX7_tenant_20 (tx := "no such line") (by decide) rfl (fun _ => h9 _) (by decide) (Nat.le_of_ble_eq_true rfl)
  · refine x_if_ne_t (tgt := 21) dX7_tenant_8 (by decide) c3 ?_
    refine x_aload_n 0 dX7_tenant_21 rfl rfl ?_
    refine x_getr dX7_tenant_22 vc_X7 xin7 fb_X7_5 fl_X7_37 xr_X7_5 k100 g1 ?_
    obtain ⟨g4, k5, n6⟩ := wt_X6_2 hw k2
    refine x_getr dX7_tenant_25 vc_X6 xin6 fb_X6_2 fl_X7_159 xr_X6_2 k2 g4 ?_
    refine x_iload_n 1 dX7_tenant_28 rfl rfl ?_
    obtain ⟨c7, h⟩ := x_ck h
    obtain ⟨g8, k9⟩ := wt_5 hw k5 (xb_at n6 c7)
    refine x_aald (j := 1) dX7_tenant_29 (by decide) k5 (xb_at n6 c7) g8 ?_
    obtain ⟨p10, ep10, h⟩ := x_lt h
    refine x_nmr ep10 ?_
    have k11 := k9; rw [← ep10] at k11
    refine x_astore_n (L' := [(2, .int a2), (3, .ref p10)]) [3, 0] dX7_tenant_30 rfl (by decide) rfl ?_
    refine x_iload_n 0 dX7_tenant_31 rfl rfl ?_
    rcases x_if h with ⟨c12, h⟩ | ⟨c12, h⟩
    · refine x_if_lt_t (tgt := 43) dX7_tenant_32 (by decide) c12 ?_
      obtain ⟨h7, rfl⟩ := Prod.mk.inj (x_so h)
      obtain rfl := Sum.inr.inj h7
      exact xt_nse2 dX7_tenant_43 dX7_tenant_46 dX7_tenant_47 dX7_tenant_49 dX7_tenant_52 (tx := "no such place") (by decide) rfl (fun _ => h9 _) (by decide) (Nat.le_of_ble_eq_true rfl)
    · refine x_if_lt_f (tgt := 43) dX7_tenant_32 (by decide) c12 ?_
      refine x_iload_n 0 dX7_tenant_35 rfl rfl ?_
      refine x_aload_n 1 dX7_tenant_36 rfl rfl ?_
      refine x_geti dX7_tenant_37 vc_X2 xin2 fb_X2_4 fl_X7_172 xr_X2_4 k11 ?_
      rcases x_if h with ⟨c13, h⟩ | ⟨c13, h⟩
      · refine x_icmp_lt_t (tgt := 53) dX7_tenant_40 (by decide) c13 ?_
        refine x_aload_n 1 dX7_tenant_53 rfl rfl ?_
        obtain ⟨g14, k15, n16⟩ := wt_X2_3 hw k11
        refine x_getr dX7_tenant_54 vc_X2 xin2 fb_X2_3 fl_X7_186 xr_X2_3 k11 g14 ?_
        refine x_iload_n 0 dX7_tenant_57 rfl rfl ?_
        obtain ⟨c17, h⟩ := x_ck h
        refine x_iald dX7_tenant_58 k15 (xb_at n16 c17) rfl ?_
        cases (Prod.mk.inj (x_so h)).1
      · refine x_icmp_lt_f (tgt := 53) dX7_tenant_40 (by decide) c13 ?_
        obtain ⟨h7, rfl⟩ := Prod.mk.inj (x_so h)
        obtain rfl := Sum.inr.inj h7
        exact xt_nse2 dX7_tenant_43 dX7_tenant_46 dX7_tenant_47 dX7_tenant_49 dX7_tenant_52 (tx := "no such place") (by decide) rfl (fun _ => h9 _) (by decide) (Nat.le_of_ble_eq_true rfl)
set_option maxHeartbeats 4000000 in
set_option maxRecDepth 100000 in
theorem T_X7_request {G : XG} {Y : XY} (hw : WT Y) {a0 : Nat} {a1 : Int32} {a2 : Int32} {N : XN} (k100 : kc Y a0 = 17) {r9 : Int32} {N9 : XN} (h : f_X7_request Y a0 a1 a2 N = some (.inl r9, N9)) : Cl G yX7_request cX7_request 4 (some .int) (xR 7 0 0) [.ref a0, .int a1, .int a2] (.inl (some (.int r9))) Y N Y N9 := by
  refine x_entry (by decide) (Nat.le_of_ble_eq_true rfl) rfl ?_
  rw [f_X7_request] at h
  refine x_aload_n 0 dX7_request_0 rfl rfl ?_
  obtain ⟨g1, k2⟩ := wt_X7_5 hw k100
  refine x_getr dX7_request_1 vc_X7 xin7 fb_X7_5 fl_X7_37 xr_X7_5 k100 g1 ?_
  refine x_iload_n 1 dX7_request_4 rfl rfl ?_
  refine x_cv (b := (gp Y a0 5)) (As := [.int a1]) (ci := 6) (d' := 1) (zz := yX6_hasRequest) dX7_request_5 ml_X7_190 wi_X6_hasRequest wv_X6_hasRequest wn_X6 wc_X6_hasRequest hp_X6_hasRequest (by decide) (by decide) rfl (Nat.le_of_ble_eq_true rfl) ⟨Nat.zero_le _, Nat.zero_le _⟩ rfl k2 (T_X6_hasRequest (G := G) hw k2 rfl) ?_
  rcases x_if h with ⟨c3, h⟩ | ⟨c3, h⟩
  · refine x_if_ne_f (tgt := 21) dX7_request_8 (by decide) c3 ?_
    cases (Prod.mk.inj (x_so h)).1
  · refine x_if_ne_t (tgt := 21) dX7_request_8 (by decide) c3 ?_
    refine x_aload_n 0 dX7_request_21 rfl rfl ?_
    refine x_getr dX7_request_22 vc_X7 xin7 fb_X7_5 fl_X7_37 xr_X7_5 k100 g1 ?_
    obtain ⟨g4, k5, n6⟩ := wt_X6_4 hw k2
    refine x_getr dX7_request_25 vc_X6 xin6 fb_X6_4 fl_X7_195 xr_X6_4 k2 g4 ?_
    refine x_iload_n 1 dX7_request_28 rfl rfl ?_
    obtain ⟨c7, h⟩ := x_ck h
    obtain ⟨g8, k9⟩ := wt_6 hw k5 (xb_at n6 c7)
    refine x_aald (j := 2) dX7_request_29 (by decide) k5 (xb_at n6 c7) g8 ?_
    obtain ⟨p10, ep10, h⟩ := x_lt h
    refine x_nmr ep10 ?_
    have k11 := k9; rw [← ep10] at k11
    refine x_astore_n (L' := [(2, .int a2), (3, .ref p10)]) [3, 0] dX7_request_30 rfl (by decide) rfl ?_
    refine x_iload_n 0 dX7_request_31 rfl rfl ?_
    rcases x_if h with ⟨c12, h⟩ | ⟨c12, h⟩
    · refine x_swIn (off := 44) (tgt := 76) dX7_request_32 (by rw [c12]; decide) (by rw [c12]; decide) (by rw [c12]; rfl) (by decide) ?_
      refine x_aload_n 1 dX7_request_76 rfl rfl ?_
      refine x_geti dX7_request_77 vc_X3 xin3 fb_X3_0 fl_X7_199 xr_X3_0 k11 ?_
      obtain ⟨h7, rfl⟩ := Prod.mk.inj (x_so h)
      obtain rfl := Sum.inl.inj h7
      exact x_iret dX7_request_80 rfl rfl rfl
    · rcases x_if h with ⟨c13, h⟩ | ⟨c13, h⟩
      · refine x_swIn (off := 49) (tgt := 81) dX7_request_32 (by rw [c13]; decide) (by rw [c13]; decide) (by rw [c13]; rfl) (by decide) ?_
        refine x_aload_n 1 dX7_request_81 rfl rfl ?_
        refine x_geti dX7_request_82 vc_X3 xin3 fb_X3_1 fl_X7_204 xr_X3_1 k11 ?_
        obtain ⟨h7, rfl⟩ := Prod.mk.inj (x_so h)
        obtain rfl := Sum.inl.inj h7
        exact x_iret dX7_request_85 rfl rfl rfl
      · rcases x_if h with ⟨c14, h⟩ | ⟨c14, h⟩
        · refine x_swIn (off := 54) (tgt := 86) dX7_request_32 (by rw [c14]; decide) (by rw [c14]; decide) (by rw [c14]; rfl) (by decide) ?_
          refine x_aload_n 1 dX7_request_86 rfl rfl ?_
          refine x_geti dX7_request_87 vc_X3 xin3 fb_X3_2 fl_X7_205 xr_X3_2 k11 ?_
          obtain ⟨h7, rfl⟩ := Prod.mk.inj (x_so h)
          obtain rfl := Sum.inl.inj h7
          exact x_iret dX7_request_90 rfl rfl rfl
        · rcases x_if h with ⟨c15, h⟩ | ⟨c15, h⟩
          · refine x_swIn (off := 59) (tgt := 91) dX7_request_32 (by rw [c15]; decide) (by rw [c15]; decide) (by rw [c15]; rfl) (by decide) ?_
            refine x_aload_n 1 dX7_request_91 rfl rfl ?_
            refine x_geti dX7_request_92 vc_X3 xin3 fb_X3_3 fl_X7_208 xr_X3_3 k11 ?_
            obtain ⟨h7, rfl⟩ := Prod.mk.inj (x_so h)
            obtain rfl := Sum.inl.inj h7
            exact x_iret dX7_request_95 rfl rfl rfl
          · rcases x_if h with ⟨c16, h⟩ | ⟨c16, h⟩
            · refine x_swIn (off := 64) (tgt := 96) dX7_request_32 (by rw [c16]; decide) (by rw [c16]; decide) (by rw [c16]; rfl) (by decide) ?_
              refine x_aload_n 1 dX7_request_96 rfl rfl ?_
              refine x_geti dX7_request_97 vc_X3 xin3 fb_X3_4 fl_X7_211 xr_X3_4 k11 ?_
              obtain ⟨h7, rfl⟩ := Prod.mk.inj (x_so h)
              obtain rfl := Sum.inl.inj h7
              exact x_iret dX7_request_100 rfl rfl rfl
            · rcases x_if h with ⟨c17, h⟩ | ⟨c17, h⟩
              · refine x_swIn (off := 69) (tgt := 101) dX7_request_32 (by rw [c17]; decide) (by rw [c17]; decide) (by rw [c17]; rfl) (by decide) ?_
                refine x_aload_n 1 dX7_request_101 rfl rfl ?_
                refine x_geti dX7_request_102 vc_X3 xin3 fb_X3_5 fl_X7_214 xr_X3_5 k11 ?_
                obtain ⟨h7, rfl⟩ := Prod.mk.inj (x_so h)
                obtain rfl := Sum.inl.inj h7
                exact x_iret dX7_request_105 rfl rfl rfl
              · rcases x_if h with ⟨c18, h⟩ | ⟨c18, h⟩
                · refine x_swIn (off := 74) (tgt := 106) dX7_request_32 (by rw [c18]; decide) (by rw [c18]; decide) (by rw [c18]; rfl) (by decide) ?_
                  refine x_aload_n 1 dX7_request_106 rfl rfl ?_
                  refine x_geti dX7_request_107 vc_X3 xin3 fb_X3_7 fl_X7_217 xr_X3_7 k11 ?_
                  obtain ⟨h7, rfl⟩ := Prod.mk.inj (x_so h)
                  obtain rfl := Sum.inl.inj h7
                  exact x_iret dX7_request_110 rfl rfl rfl
                · refine x_swOut (tgt := 111) dX7_request_32 (x_swo (fun z h1 h2 => by
                  rcases (show z = 0 ∨ z = 1 ∨ z = 2 ∨ z = 3 ∨ z = 4 ∨ z = 5 ∨ z = 6 by omega) with rfl | rfl | rfl | rfl | rfl | rfl | rfl
                  · exact x_ti c12 rfl
                  · exact x_ti c13 rfl
                  · exact x_ti c14 rfl
                  · exact x_ti c15 rfl
                  · exact x_ti c16 rfl
                  · exact x_ti c17 rfl
                  · exact x_ti c18 rfl)) (by decide) ?_
                  cases (Prod.mk.inj (x_so h)).1
set_option maxHeartbeats 4000000 in
set_option maxRecDepth 100000 in
theorem T_X7_requestx {G : XG} {Y : XY} (hw : WT Y) (h9 : ∀ a, kc Y a ≠ 9) {a0 : Nat} {a1 : Int32} {a2 : Int32} {N : XN} (k100 : kc Y a0 = 17) {r9 : String} {N9 : XN} (h : f_X7_request Y a0 a1 a2 N = some (.inr r9, N9)) : Cl G yX7_request cX7_request 4 (some .int) (xR 7 1 6) [.ref a0, .int a1, .int a2] (.inr r9) Y N Y N9 := by
  refine x_entry (by decide) (Nat.le_of_ble_eq_true rfl) rfl ?_
  rw [f_X7_request] at h
  refine x_aload_n 0 dX7_request_0 rfl rfl ?_
  obtain ⟨g1, k2⟩ := wt_X7_5 hw k100
  refine x_getr dX7_request_1 vc_X7 xin7 fb_X7_5 fl_X7_37 xr_X7_5 k100 g1 ?_
  refine x_iload_n 1 dX7_request_4 rfl rfl ?_
  refine x_cv (b := (gp Y a0 5)) (As := [.int a1]) (ci := 6) (d' := 1) (zz := yX6_hasRequest) dX7_request_5 ml_X7_190 wi_X6_hasRequest wv_X6_hasRequest wn_X6 wc_X6_hasRequest hp_X6_hasRequest (by decide) (by decide) rfl (Nat.le_of_ble_eq_true rfl) ⟨Nat.zero_le _, Nat.zero_le _⟩ rfl k2 (T_X6_hasRequest (G := G) hw k2 rfl) ?_
  rcases x_if h with ⟨c3, h⟩ | ⟨c3, h⟩
  · refine x_if_ne_f (tgt := 21) dX7_request_8 (by decide) c3 ?_
    obtain ⟨h7, rfl⟩ := Prod.mk.inj (x_so h)
    obtain rfl := Sum.inr.inj h7
    exact xt_iob dX7_request_11 dX7_request_14 dX7_request_15 dX7_request_17 dX7_request_20 (tx := "no such request") (by decide) rfl (fun _ => h9 _) (by decide) (Nat.le_of_ble_eq_true rfl)
  · refine x_if_ne_t (tgt := 21) dX7_request_8 (by decide) c3 ?_
    refine x_aload_n 0 dX7_request_21 rfl rfl ?_
    refine x_getr dX7_request_22 vc_X7 xin7 fb_X7_5 fl_X7_37 xr_X7_5 k100 g1 ?_
    obtain ⟨g4, k5, n6⟩ := wt_X6_4 hw k2
    refine x_getr dX7_request_25 vc_X6 xin6 fb_X6_4 fl_X7_195 xr_X6_4 k2 g4 ?_
    refine x_iload_n 1 dX7_request_28 rfl rfl ?_
    obtain ⟨c7, h⟩ := x_ck h
    obtain ⟨g8, k9⟩ := wt_6 hw k5 (xb_at n6 c7)
    refine x_aald (j := 2) dX7_request_29 (by decide) k5 (xb_at n6 c7) g8 ?_
    obtain ⟨p10, ep10, h⟩ := x_lt h
    refine x_nmr ep10 ?_
    have k11 := k9; rw [← ep10] at k11
    refine x_astore_n (L' := [(2, .int a2), (3, .ref p10)]) [3, 0] dX7_request_30 rfl (by decide) rfl ?_
    refine x_iload_n 0 dX7_request_31 rfl rfl ?_
    rcases x_if h with ⟨c12, h⟩ | ⟨c12, h⟩
    · refine x_swIn (off := 44) (tgt := 76) dX7_request_32 (by rw [c12]; decide) (by rw [c12]; decide) (by rw [c12]; rfl) (by decide) ?_
      refine x_aload_n 1 dX7_request_76 rfl rfl ?_
      refine x_geti dX7_request_77 vc_X3 xin3 fb_X3_0 fl_X7_199 xr_X3_0 k11 ?_
      cases (Prod.mk.inj (x_so h)).1
    · rcases x_if h with ⟨c13, h⟩ | ⟨c13, h⟩
      · refine x_swIn (off := 49) (tgt := 81) dX7_request_32 (by rw [c13]; decide) (by rw [c13]; decide) (by rw [c13]; rfl) (by decide) ?_
        refine x_aload_n 1 dX7_request_81 rfl rfl ?_
        refine x_geti dX7_request_82 vc_X3 xin3 fb_X3_1 fl_X7_204 xr_X3_1 k11 ?_
        cases (Prod.mk.inj (x_so h)).1
      · rcases x_if h with ⟨c14, h⟩ | ⟨c14, h⟩
        · refine x_swIn (off := 54) (tgt := 86) dX7_request_32 (by rw [c14]; decide) (by rw [c14]; decide) (by rw [c14]; rfl) (by decide) ?_
          refine x_aload_n 1 dX7_request_86 rfl rfl ?_
          refine x_geti dX7_request_87 vc_X3 xin3 fb_X3_2 fl_X7_205 xr_X3_2 k11 ?_
          cases (Prod.mk.inj (x_so h)).1
        · rcases x_if h with ⟨c15, h⟩ | ⟨c15, h⟩
          · refine x_swIn (off := 59) (tgt := 91) dX7_request_32 (by rw [c15]; decide) (by rw [c15]; decide) (by rw [c15]; rfl) (by decide) ?_
            refine x_aload_n 1 dX7_request_91 rfl rfl ?_
            refine x_geti dX7_request_92 vc_X3 xin3 fb_X3_3 fl_X7_208 xr_X3_3 k11 ?_
            cases (Prod.mk.inj (x_so h)).1
          · rcases x_if h with ⟨c16, h⟩ | ⟨c16, h⟩
            · refine x_swIn (off := 64) (tgt := 96) dX7_request_32 (by rw [c16]; decide) (by rw [c16]; decide) (by rw [c16]; rfl) (by decide) ?_
              refine x_aload_n 1 dX7_request_96 rfl rfl ?_
              refine x_geti dX7_request_97 vc_X3 xin3 fb_X3_4 fl_X7_211 xr_X3_4 k11 ?_
              cases (Prod.mk.inj (x_so h)).1
            · rcases x_if h with ⟨c17, h⟩ | ⟨c17, h⟩
              · refine x_swIn (off := 69) (tgt := 101) dX7_request_32 (by rw [c17]; decide) (by rw [c17]; decide) (by rw [c17]; rfl) (by decide) ?_
                refine x_aload_n 1 dX7_request_101 rfl rfl ?_
                refine x_geti dX7_request_102 vc_X3 xin3 fb_X3_5 fl_X7_214 xr_X3_5 k11 ?_
                cases (Prod.mk.inj (x_so h)).1
              · rcases x_if h with ⟨c18, h⟩ | ⟨c18, h⟩
                · refine x_swIn (off := 74) (tgt := 106) dX7_request_32 (by rw [c18]; decide) (by rw [c18]; decide) (by rw [c18]; rfl) (by decide) ?_
                  refine x_aload_n 1 dX7_request_106 rfl rfl ?_
                  refine x_geti dX7_request_107 vc_X3 xin3 fb_X3_7 fl_X7_217 xr_X3_7 k11 ?_
                  cases (Prod.mk.inj (x_so h)).1
                · refine x_swOut (tgt := 111) dX7_request_32 (x_swo (fun z h1 h2 => by
                  rcases (show z = 0 ∨ z = 1 ∨ z = 2 ∨ z = 3 ∨ z = 4 ∨ z = 5 ∨ z = 6 by omega) with rfl | rfl | rfl | rfl | rfl | rfl | rfl
                  · exact x_ti c12 rfl
                  · exact x_ti c13 rfl
                  · exact x_ti c14 rfl
                  · exact x_ti c15 rfl
                  · exact x_ti c16 rfl
                  · exact x_ti c17 rfl
                  · exact x_ti c18 rfl)) (by decide) ?_
                  obtain ⟨h7, rfl⟩ := Prod.mk.inj (x_so h)
                  obtain rfl := Sum.inr.inj h7
                  exact xt_iae dX7_request_111 dX7_request_114 dX7_request_115 dX7_request_117 dX7_request_120 (tx := "no such number of a request") (by decide) rfl (fun _ => h9 _) (by decide) (Nat.le_of_ble_eq_true rfl)
set_option maxHeartbeats 4000000 in
set_option maxRecDepth 100000 in
theorem T_X7_calm {G : XG} {Y : XY} (hw : WT Y) {a0 : Nat} {a1 : Int32} {N : XN} (k100 : kc Y a0 = 17) {r9 : Int32} {N9 : XN} (h : f_X7_calm Y a0 a1 N = some (.inl r9, N9)) : Cl G yX7_calm cX7_calm 3 (some .int) (xR 7 0 0) [.ref a0, .int a1] (.inl (some (.int r9))) Y N Y N9 := by
  refine x_entry (by decide) (Nat.le_of_ble_eq_true rfl) rfl ?_
  rw [f_X7_calm] at h
  refine x_aload_n 0 dX7_calm_0 rfl rfl ?_
  obtain ⟨g1, k2⟩ := wt_X7_5 hw k100
  refine x_getr dX7_calm_1 vc_X7 xin7 fb_X7_5 fl_X7_37 xr_X7_5 k100 g1 ?_
  refine x_iload_n 1 dX7_calm_4 rfl rfl ?_
  refine x_cv (b := (gp Y a0 5)) (As := [.int a1]) (ci := 6) (d' := 1) (zz := yX6_hasLine) dX7_calm_5 ml_X7_154 wi_X6_hasLine wv_X6_hasLine wn_X6 wc_X6_hasLine hp_X6_hasLine (by decide) (by decide) rfl (Nat.le_of_ble_eq_true rfl) ⟨Nat.zero_le _, Nat.zero_le _⟩ rfl k2 (T_X6_hasLine (G := G) hw k2 rfl) ?_
  rcases x_if h with ⟨c3, h⟩ | ⟨c3, h⟩
  · refine x_if_ne_f (tgt := 21) dX7_calm_8 (by decide) c3 ?_
    cases (Prod.mk.inj (x_so h)).1
  · refine x_if_ne_t (tgt := 21) dX7_calm_8 (by decide) c3 ?_
    refine x_aload_n 0 dX7_calm_21 rfl rfl ?_
    refine x_getr dX7_calm_22 vc_X7 xin7 fb_X7_5 fl_X7_37 xr_X7_5 k100 g1 ?_
    obtain ⟨g4, k5, n6⟩ := wt_X6_2 hw k2
    refine x_getr dX7_calm_25 vc_X6 xin6 fb_X6_2 fl_X7_159 xr_X6_2 k2 g4 ?_
    refine x_iload_n 1 dX7_calm_28 rfl rfl ?_
    obtain ⟨c7, h⟩ := x_ck h
    obtain ⟨g8, k9⟩ := wt_5 hw k5 (xb_at n6 c7)
    refine x_aald (j := 1) dX7_calm_29 (by decide) k5 (xb_at n6 c7) g8 ?_
    refine x_geti dX7_calm_30 vc_X2 xin2 fb_X2_1 fl_X7_168 xr_X2_1 k9 ?_
    refine x_aload_n 0 dX7_calm_33 rfl rfl ?_
    refine x_getr dX7_calm_34 vc_X7 xin7 fb_X7_5 fl_X7_37 xr_X7_5 k100 g1 ?_
    refine x_iload_n 1 dX7_calm_37 rfl rfl ?_
    obtain ⟨r11, q10, h⟩ := x_bd1 h
    refine x_cv (b := (gp Y a0 5)) (As := [.int a1]) (ci := 6) (d' := 1) (zz := yX6_raisedInWindow) dX7_calm_38 ml_X7_222 wi_X6_raisedInWindow wv_X6_raisedInWindow wn_X6 wc_X6_raisedInWindow hp_X6_raisedInWindow (by decide) (by decide) rfl (Nat.le_of_ble_eq_true rfl) ⟨Nat.zero_le _, Nat.zero_le _⟩ rfl k2 (T_X6_raisedInWindow (G := G) hw k2 q10) ?_
    refine x_isub dX7_calm_41 ?_
    obtain ⟨v12, ev12, h⟩ := x_lt h
    refine x_nmi ev12 ?_
    refine x_istore_n (L' := [(2, .int v12)]) [0] dX7_calm_42 rfl (by decide) rfl ?_
    refine x_iload_n 0 dX7_calm_43 rfl rfl ?_
    rcases x_if h with ⟨c13, h⟩ | ⟨c13, h⟩
    · refine x_if_ge_t (tgt := 51) dX7_calm_44 (by decide) c13 ?_
      refine x_iload_n 0 dX7_calm_51 rfl rfl ?_
      obtain ⟨h7, rfl⟩ := Prod.mk.inj (x_so h)
      obtain rfl := Sum.inl.inj h7
      exact x_iret dX7_calm_52 rfl rfl rfl
    · refine x_if_ge_f (tgt := 51) dX7_calm_44 (by decide) c13 ?_
      refine x_iconst (v := 0) dX7_calm_47 rfl ?_
      refine x_goto (tgt := 52) dX7_calm_48 (by decide) ?_
      obtain ⟨h7, rfl⟩ := Prod.mk.inj (x_so h)
      obtain rfl := Sum.inl.inj h7
      exact x_iret dX7_calm_52 rfl rfl rfl
set_option maxHeartbeats 4000000 in
set_option maxRecDepth 100000 in
theorem T_X7_calmx {G : XG} {Y : XY} (hw : WT Y) (h9 : ∀ a, kc Y a ≠ 9) {a0 : Nat} {a1 : Int32} {N : XN} (k100 : kc Y a0 = 17) {r9 : String} {N9 : XN} (h : f_X7_calm Y a0 a1 N = some (.inr r9, N9)) : Cl G yX7_calm cX7_calm 3 (some .int) (xR 7 1 6) [.ref a0, .int a1] (.inr r9) Y N Y N9 := by
  refine x_entry (by decide) (Nat.le_of_ble_eq_true rfl) rfl ?_
  rw [f_X7_calm] at h
  refine x_aload_n 0 dX7_calm_0 rfl rfl ?_
  obtain ⟨g1, k2⟩ := wt_X7_5 hw k100
  refine x_getr dX7_calm_1 vc_X7 xin7 fb_X7_5 fl_X7_37 xr_X7_5 k100 g1 ?_
  refine x_iload_n 1 dX7_calm_4 rfl rfl ?_
  refine x_cv (b := (gp Y a0 5)) (As := [.int a1]) (ci := 6) (d' := 1) (zz := yX6_hasLine) dX7_calm_5 ml_X7_154 wi_X6_hasLine wv_X6_hasLine wn_X6 wc_X6_hasLine hp_X6_hasLine (by decide) (by decide) rfl (Nat.le_of_ble_eq_true rfl) ⟨Nat.zero_le _, Nat.zero_le _⟩ rfl k2 (T_X6_hasLine (G := G) hw k2 rfl) ?_
  rcases x_if h with ⟨c3, h⟩ | ⟨c3, h⟩
  · refine x_if_ne_f (tgt := 21) dX7_calm_8 (by decide) c3 ?_
    obtain ⟨h7, rfl⟩ := Prod.mk.inj (x_so h)
    obtain rfl := Sum.inr.inj h7
    exact xt_iob dX7_calm_11 dX7_calm_14 dX7_calm_15 dX7_calm_17 dX7_calm_20 (tx := "no such line") (by decide) rfl (fun _ => h9 _) (by decide) (Nat.le_of_ble_eq_true rfl)
  · refine x_if_ne_t (tgt := 21) dX7_calm_8 (by decide) c3 ?_
    refine x_aload_n 0 dX7_calm_21 rfl rfl ?_
    refine x_getr dX7_calm_22 vc_X7 xin7 fb_X7_5 fl_X7_37 xr_X7_5 k100 g1 ?_
    obtain ⟨g4, k5, n6⟩ := wt_X6_2 hw k2
    refine x_getr dX7_calm_25 vc_X6 xin6 fb_X6_2 fl_X7_159 xr_X6_2 k2 g4 ?_
    refine x_iload_n 1 dX7_calm_28 rfl rfl ?_
    obtain ⟨c7, h⟩ := x_ck h
    obtain ⟨g8, k9⟩ := wt_5 hw k5 (xb_at n6 c7)
    refine x_aald (j := 1) dX7_calm_29 (by decide) k5 (xb_at n6 c7) g8 ?_
    refine x_geti dX7_calm_30 vc_X2 xin2 fb_X2_1 fl_X7_168 xr_X2_1 k9 ?_
    refine x_aload_n 0 dX7_calm_33 rfl rfl ?_
    refine x_getr dX7_calm_34 vc_X7 xin7 fb_X7_5 fl_X7_37 xr_X7_5 k100 g1 ?_
    refine x_iload_n 1 dX7_calm_37 rfl rfl ?_
    obtain ⟨r11, q10, h⟩ := x_bd1 h
    refine x_cv (b := (gp Y a0 5)) (As := [.int a1]) (ci := 6) (d' := 1) (zz := yX6_raisedInWindow) dX7_calm_38 ml_X7_222 wi_X6_raisedInWindow wv_X6_raisedInWindow wn_X6 wc_X6_raisedInWindow hp_X6_raisedInWindow (by decide) (by decide) rfl (Nat.le_of_ble_eq_true rfl) ⟨Nat.zero_le _, Nat.zero_le _⟩ rfl k2 (T_X6_raisedInWindow (G := G) hw k2 q10) ?_
    refine x_isub dX7_calm_41 ?_
    obtain ⟨v12, ev12, h⟩ := x_lt h
    refine x_nmi ev12 ?_
    refine x_istore_n (L' := [(2, .int v12)]) [0] dX7_calm_42 rfl (by decide) rfl ?_
    refine x_iload_n 0 dX7_calm_43 rfl rfl ?_
    rcases x_if h with ⟨c13, h⟩ | ⟨c13, h⟩
    · refine x_if_ge_t (tgt := 51) dX7_calm_44 (by decide) c13 ?_
      refine x_iload_n 0 dX7_calm_51 rfl rfl ?_
      cases (Prod.mk.inj (x_so h)).1
    · refine x_if_ge_f (tgt := 51) dX7_calm_44 (by decide) c13 ?_
      refine x_iconst (v := 0) dX7_calm_47 rfl ?_
      refine x_goto (tgt := 52) dX7_calm_48 (by decide) ?_
      cases (Prod.mk.inj (x_so h)).1
set_option maxHeartbeats 4000000 in
set_option maxRecDepth 100000 in
theorem T_X7_endsAt_44 {G : XG} {Y : XY} (hw : WT Y) {r9 : Int32} {N9 : XN}: ∀ (D9 : Nat) (p_0 : Nat) (p_2 : Nat) (v_3 : Int32) (N : XN), kc Y p_0 = 17 → kc Y p_2 = 13 → f_X7_endsAt_44 Y D9 p_0 p_2 v_3 N = some (.inl r9, N9) → Ex G yX7_endsAt cX7_endsAt 4 (some .int) (xR 7 0 0) (.inl (some (.int r9))) Y N9 0 0 44 [(0, .ref p_0), (2, .ref p_2), (3, .int v_3)] [] Y N := by
  intro D9
  induction D9 with
  | zero => intro p_0 p_2 v_3 N kk0 kk2 h; exact nomatch (show none = some _ from h)
  | succ D9 ih =>
    intro p_0 p_2 v_3 N kk0 kk2 h
    rw [f_X7_endsAt_44] at h
    refine x_iload_n 2 dX7_endsAt_44 rfl rfl ?_
    refine x_sipush (v := 1100) dX7_endsAt_45 rfl ?_
    rcases x_if h with ⟨c1, h⟩ | ⟨c1, h⟩
    · refine x_icmp_ge_t (tgt := 71) dX7_endsAt_48 (by decide) c1 ?_
      refine x_aload_n 1 dX7_endsAt_71 rfl rfl ?_
      refine x_geti dX7_endsAt_72 vc_X3 xin3 fb_X3_7 fl_X7_217 xr_X3_7 kk2 ?_
      obtain ⟨h7, rfl⟩ := Prod.mk.inj (x_so h)
      obtain rfl := Sum.inl.inj h7
      exact x_iret dX7_endsAt_75 rfl rfl rfl
    · refine x_icmp_ge_f (tgt := 71) dX7_endsAt_48 (by decide) c1 ?_
      refine x_aload_n 1 dX7_endsAt_51 rfl rfl ?_
      refine x_geti dX7_endsAt_52 vc_X3 xin3 fb_X3_7 fl_X7_217 xr_X3_7 kk2 ?_
      rcases x_if h with ⟨c2, h⟩ | ⟨c2, h⟩
      · refine x_if_ge_t (tgt := 71) dX7_endsAt_55 (by decide) c2 ?_
        refine x_aload_n 1 dX7_endsAt_71 rfl rfl ?_
        refine x_geti dX7_endsAt_72 vc_X3 xin3 fb_X3_7 fl_X7_217 xr_X3_7 kk2 ?_
        obtain ⟨h7, rfl⟩ := Prod.mk.inj (x_so h)
        obtain rfl := Sum.inl.inj h7
        exact x_iret dX7_endsAt_75 rfl rfl rfl
      · refine x_if_ge_f (tgt := 71) dX7_endsAt_55 (by decide) c2 ?_
        refine x_aload_n 0 dX7_endsAt_58 rfl rfl ?_
        obtain ⟨g3, k4⟩ := wt_X7_6 hw kk0
        refine x_getr dX7_endsAt_59 vc_X7 xin7 fb_X7_6 fl_X7_41 xr_X7_6 kk0 g3 ?_
        obtain ⟨N6, q5, h⟩ := x_bd1 h
        refine x_cv (b := (gp Y p_0 6)) (As := []) (ci := 6) (d' := 6) (zz := yX6_passTick) dX7_endsAt_62 ml_X7_225 wi_X6_passTick wv_X6_passTick wn_X6 wc_X6_passTick hp_X6_passTick (by decide) (by decide) rfl (Nat.le_of_ble_eq_true rfl) ⟨Nat.zero_le _, Nat.zero_le _⟩ rfl k4 (T_X6_passTick (G := G) hw k4 q5) ?_
        refine x_iinc (L' := [(0, .ref p_0), (2, .ref p_2), (3, .int (v_3 + 1))]) 2 [1, 2, 0] dX7_endsAt_65 rfl rfl (by decide) rfl ?_
        refine x_goto (tgt := 44) dX7_endsAt_68 (by decide) ?_
        exact ih p_0 p_2 (v_3 + 1) N6 kk0 kk2 h
set_option maxHeartbeats 4000000 in
set_option maxRecDepth 100000 in
theorem T_X7_endsAt_44x {G : XG} {Y : XY} (hw : WT Y) (h9 : ∀ a, kc Y a ≠ 9) {r9 : String} {N9 : XN}: ∀ (D9 : Nat) (p_0 : Nat) (p_2 : Nat) (v_3 : Int32) (N : XN), kc Y p_0 = 17 → kc Y p_2 = 13 → f_X7_endsAt_44 Y D9 p_0 p_2 v_3 N = some (.inr r9, N9) → Ex G yX7_endsAt cX7_endsAt 4 (some .int) (xR 7 1 6) (.inr r9) Y N9 0 0 44 [(0, .ref p_0), (2, .ref p_2), (3, .int v_3)] [] Y N := by
  intro D9
  induction D9 with
  | zero => intro p_0 p_2 v_3 N kk0 kk2 h; exact nomatch (show none = some _ from h)
  | succ D9 ih =>
    intro p_0 p_2 v_3 N kk0 kk2 h
    rw [f_X7_endsAt_44] at h
    refine x_iload_n 2 dX7_endsAt_44 rfl rfl ?_
    refine x_sipush (v := 1100) dX7_endsAt_45 rfl ?_
    rcases x_if h with ⟨c1, h⟩ | ⟨c1, h⟩
    · refine x_icmp_ge_t (tgt := 71) dX7_endsAt_48 (by decide) c1 ?_
      refine x_aload_n 1 dX7_endsAt_71 rfl rfl ?_
      refine x_geti dX7_endsAt_72 vc_X3 xin3 fb_X3_7 fl_X7_217 xr_X3_7 kk2 ?_
      cases (Prod.mk.inj (x_so h)).1
    · refine x_icmp_ge_f (tgt := 71) dX7_endsAt_48 (by decide) c1 ?_
      refine x_aload_n 1 dX7_endsAt_51 rfl rfl ?_
      refine x_geti dX7_endsAt_52 vc_X3 xin3 fb_X3_7 fl_X7_217 xr_X3_7 kk2 ?_
      rcases x_if h with ⟨c2, h⟩ | ⟨c2, h⟩
      · refine x_if_ge_t (tgt := 71) dX7_endsAt_55 (by decide) c2 ?_
        refine x_aload_n 1 dX7_endsAt_71 rfl rfl ?_
        refine x_geti dX7_endsAt_72 vc_X3 xin3 fb_X3_7 fl_X7_217 xr_X3_7 kk2 ?_
        cases (Prod.mk.inj (x_so h)).1
      · refine x_if_ge_f (tgt := 71) dX7_endsAt_55 (by decide) c2 ?_
        refine x_aload_n 0 dX7_endsAt_58 rfl rfl ?_
        obtain ⟨g3, k4⟩ := wt_X7_6 hw kk0
        refine x_getr dX7_endsAt_59 vc_X7 xin7 fb_X7_6 fl_X7_41 xr_X7_6 kk0 g3 ?_
        obtain ⟨N6, q5, h⟩ := x_bd1 h
        refine x_cv (b := (gp Y p_0 6)) (As := []) (ci := 6) (d' := 6) (zz := yX6_passTick) dX7_endsAt_62 ml_X7_225 wi_X6_passTick wv_X6_passTick wn_X6 wc_X6_passTick hp_X6_passTick (by decide) (by decide) rfl (Nat.le_of_ble_eq_true rfl) ⟨Nat.zero_le _, Nat.zero_le _⟩ rfl k4 (T_X6_passTick (G := G) hw k4 q5) ?_
        refine x_iinc (L' := [(0, .ref p_0), (2, .ref p_2), (3, .int (v_3 + 1))]) 2 [1, 2, 0] dX7_endsAt_65 rfl rfl (by decide) rfl ?_
        refine x_goto (tgt := 44) dX7_endsAt_68 (by decide) ?_
        exact ih p_0 p_2 (v_3 + 1) N6 kk0 kk2 h
set_option maxHeartbeats 4000000 in
set_option maxRecDepth 100000 in
theorem T_X7_endsAt {G : XG} {Y : XY} (hw : WT Y) {a0 : Nat} {a1 : Int32} {N : XN} (k100 : kc Y a0 = 17) {r9 : Int32} {N9 : XN} (h : f_X7_endsAt Y a0 a1 N = some (.inl r9, N9)) : Cl G yX7_endsAt cX7_endsAt 4 (some .int) (xR 7 0 0) [.ref a0, .int a1] (.inl (some (.int r9))) Y N Y N9 := by
  refine x_entry (by decide) (Nat.le_of_ble_eq_true rfl) rfl ?_
  rw [f_X7_endsAt] at h
  refine x_aload_n 0 dX7_endsAt_0 rfl rfl ?_
  obtain ⟨g1, k2⟩ := wt_X7_5 hw k100
  refine x_getr dX7_endsAt_1 vc_X7 xin7 fb_X7_5 fl_X7_37 xr_X7_5 k100 g1 ?_
  refine x_iload_n 1 dX7_endsAt_4 rfl rfl ?_
  refine x_cv (b := (gp Y a0 5)) (As := [.int a1]) (ci := 6) (d' := 1) (zz := yX6_hasRequest) dX7_endsAt_5 ml_X7_190 wi_X6_hasRequest wv_X6_hasRequest wn_X6 wc_X6_hasRequest hp_X6_hasRequest (by decide) (by decide) rfl (Nat.le_of_ble_eq_true rfl) ⟨Nat.zero_le _, Nat.zero_le _⟩ rfl k2 (T_X6_hasRequest (G := G) hw k2 rfl) ?_
  rcases x_if h with ⟨c3, h⟩ | ⟨c3, h⟩
  · refine x_if_ne_f (tgt := 21) dX7_endsAt_8 (by decide) c3 ?_
    cases (Prod.mk.inj (x_so h)).1
  · refine x_if_ne_t (tgt := 21) dX7_endsAt_8 (by decide) c3 ?_
    refine x_aload_n 0 dX7_endsAt_21 rfl rfl ?_
    obtain ⟨g4, k5⟩ := wt_X7_6 hw k100
    refine x_getr dX7_endsAt_22 vc_X7 xin7 fb_X7_6 fl_X7_41 xr_X7_6 k100 g4 ?_
    refine x_aload_n 0 dX7_endsAt_25 rfl rfl ?_
    refine x_getr dX7_endsAt_26 vc_X7 xin7 fb_X7_5 fl_X7_37 xr_X7_5 k100 g1 ?_
    obtain ⟨N7, q6, h⟩ := x_bd1 h
    refine x_cv (b := (gp Y a0 6)) (As := [.ref (gp Y a0 5)]) (ci := 6) (d' := 2) (zz := yX6_copyOf) dX7_endsAt_29 ml_X7_80 wi_X6_copyOf wv_X6_copyOf wn_X6 wc_X6_copyOf hp_X6_copyOf (by decide) (by decide) rfl (Nat.le_of_ble_eq_true rfl) ⟨Nat.zero_le _, Nat.zero_le _⟩ rfl k5 (T_X6_copyOf (G := G) hw k5 k2 q6) ?_
    refine x_aload_n 0 dX7_endsAt_32 rfl rfl ?_
    refine x_getr dX7_endsAt_33 vc_X7 xin7 fb_X7_6 fl_X7_41 xr_X7_6 k100 g4 ?_
    obtain ⟨g8, k9, n10⟩ := wt_X6_4 hw k5
    refine x_getr dX7_endsAt_36 vc_X6 xin6 fb_X6_4 fl_X7_195 xr_X6_4 k5 g8 ?_
    refine x_iload_n 1 dX7_endsAt_39 rfl rfl ?_
    obtain ⟨c11, h⟩ := x_ck h
    obtain ⟨g12, k13⟩ := wt_6 hw k9 (xb_at n10 c11)
    refine x_aald (j := 2) dX7_endsAt_40 (by decide) k9 (xb_at n10 c11) g12 ?_
    obtain ⟨p14, ep14, h⟩ := x_lt h
    refine x_nmr ep14 ?_
    have k15 := k13; rw [← ep14] at k15
    refine x_astore_n (L' := [(0, .ref a0), (2, .ref p14)]) [1, 0] dX7_endsAt_41 rfl (by decide) rfl ?_
    refine x_iconst (v := 0) dX7_endsAt_42 rfl ?_
    refine x_istore_n (L' := [(0, .ref a0), (2, .ref p14), (3, .int 0)]) [1, 2, 0] dX7_endsAt_43 rfl (by decide) rfl ?_
    exact T_X7_endsAt_44 (G := G) hw FU a0 p14 0 N7 k100 k15 h
set_option maxHeartbeats 4000000 in
set_option maxRecDepth 100000 in
theorem T_X7_endsAtx {G : XG} {Y : XY} (hw : WT Y) (h9 : ∀ a, kc Y a ≠ 9) {a0 : Nat} {a1 : Int32} {N : XN} (k100 : kc Y a0 = 17) {r9 : String} {N9 : XN} (h : f_X7_endsAt Y a0 a1 N = some (.inr r9, N9)) : Cl G yX7_endsAt cX7_endsAt 4 (some .int) (xR 7 1 6) [.ref a0, .int a1] (.inr r9) Y N Y N9 := by
  refine x_entry (by decide) (Nat.le_of_ble_eq_true rfl) rfl ?_
  rw [f_X7_endsAt] at h
  refine x_aload_n 0 dX7_endsAt_0 rfl rfl ?_
  obtain ⟨g1, k2⟩ := wt_X7_5 hw k100
  refine x_getr dX7_endsAt_1 vc_X7 xin7 fb_X7_5 fl_X7_37 xr_X7_5 k100 g1 ?_
  refine x_iload_n 1 dX7_endsAt_4 rfl rfl ?_
  refine x_cv (b := (gp Y a0 5)) (As := [.int a1]) (ci := 6) (d' := 1) (zz := yX6_hasRequest) dX7_endsAt_5 ml_X7_190 wi_X6_hasRequest wv_X6_hasRequest wn_X6 wc_X6_hasRequest hp_X6_hasRequest (by decide) (by decide) rfl (Nat.le_of_ble_eq_true rfl) ⟨Nat.zero_le _, Nat.zero_le _⟩ rfl k2 (T_X6_hasRequest (G := G) hw k2 rfl) ?_
  rcases x_if h with ⟨c3, h⟩ | ⟨c3, h⟩
  · refine x_if_ne_f (tgt := 21) dX7_endsAt_8 (by decide) c3 ?_
    obtain ⟨h7, rfl⟩ := Prod.mk.inj (x_so h)
    obtain rfl := Sum.inr.inj h7
    exact xt_iob dX7_endsAt_11 dX7_endsAt_14 dX7_endsAt_15 dX7_endsAt_17 dX7_endsAt_20 (tx := "no such request") (by decide) rfl (fun _ => h9 _) (by decide) (Nat.le_of_ble_eq_true rfl)
  · refine x_if_ne_t (tgt := 21) dX7_endsAt_8 (by decide) c3 ?_
    refine x_aload_n 0 dX7_endsAt_21 rfl rfl ?_
    obtain ⟨g4, k5⟩ := wt_X7_6 hw k100
    refine x_getr dX7_endsAt_22 vc_X7 xin7 fb_X7_6 fl_X7_41 xr_X7_6 k100 g4 ?_
    refine x_aload_n 0 dX7_endsAt_25 rfl rfl ?_
    refine x_getr dX7_endsAt_26 vc_X7 xin7 fb_X7_5 fl_X7_37 xr_X7_5 k100 g1 ?_
    obtain ⟨N7, q6, h⟩ := x_bd1 h
    refine x_cv (b := (gp Y a0 6)) (As := [.ref (gp Y a0 5)]) (ci := 6) (d' := 2) (zz := yX6_copyOf) dX7_endsAt_29 ml_X7_80 wi_X6_copyOf wv_X6_copyOf wn_X6 wc_X6_copyOf hp_X6_copyOf (by decide) (by decide) rfl (Nat.le_of_ble_eq_true rfl) ⟨Nat.zero_le _, Nat.zero_le _⟩ rfl k5 (T_X6_copyOf (G := G) hw k5 k2 q6) ?_
    refine x_aload_n 0 dX7_endsAt_32 rfl rfl ?_
    refine x_getr dX7_endsAt_33 vc_X7 xin7 fb_X7_6 fl_X7_41 xr_X7_6 k100 g4 ?_
    obtain ⟨g8, k9, n10⟩ := wt_X6_4 hw k5
    refine x_getr dX7_endsAt_36 vc_X6 xin6 fb_X6_4 fl_X7_195 xr_X6_4 k5 g8 ?_
    refine x_iload_n 1 dX7_endsAt_39 rfl rfl ?_
    obtain ⟨c11, h⟩ := x_ck h
    obtain ⟨g12, k13⟩ := wt_6 hw k9 (xb_at n10 c11)
    refine x_aald (j := 2) dX7_endsAt_40 (by decide) k9 (xb_at n10 c11) g12 ?_
    obtain ⟨p14, ep14, h⟩ := x_lt h
    refine x_nmr ep14 ?_
    have k15 := k13; rw [← ep14] at k15
    refine x_astore_n (L' := [(0, .ref a0), (2, .ref p14)]) [1, 0] dX7_endsAt_41 rfl (by decide) rfl ?_
    refine x_iconst (v := 0) dX7_endsAt_42 rfl ?_
    refine x_istore_n (L' := [(0, .ref a0), (2, .ref p14), (3, .int 0)]) [1, 2, 0] dX7_endsAt_43 rfl (by decide) rfl ?_
    exact T_X7_endsAt_44x (G := G) hw h9 FU a0 p14 0 N7 k100 k15 h
set_option maxHeartbeats 4000000 in
set_option maxRecDepth 100000 in
theorem T_X7_bankruptIn_44 {G : XG} {Y : XY} (hw : WT Y) {r9 : Int32} {N9 : XN}: ∀ (D9 : Nat) (p_0 : Nat) (p_2 : Nat) (v_3 : Int32) (N : XN), kc Y p_0 = 17 → kc Y p_2 = 11 → f_X7_bankruptIn_44 Y D9 p_0 p_2 v_3 N = some (.inl r9, N9) → Ex G yX7_bankruptIn cX7_bankruptIn 4 (some .int) (xR 7 0 0) (.inl (some (.int r9))) Y N9 0 0 44 [(0, .ref p_0), (2, .ref p_2), (3, .int v_3)] [] Y N := by
  intro D9
  induction D9 with
  | zero => intro p_0 p_2 v_3 N kk0 kk2 h; exact nomatch (show none = some _ from h)
  | succ D9 ih =>
    intro p_0 p_2 v_3 N kk0 kk2 h
    rw [f_X7_bankruptIn_44] at h
    refine x_iload_n 2 dX7_bankruptIn_44 rfl rfl ?_
    refine x_sipush (v := 1100) dX7_bankruptIn_45 rfl ?_
    rcases x_if h with ⟨c1, h⟩ | ⟨c1, h⟩
    · refine x_icmp_ge_t (tgt := 71) dX7_bankruptIn_48 (by decide) c1 ?_
      refine x_aload_n 1 dX7_bankruptIn_71 rfl rfl ?_
      refine x_geti dX7_bankruptIn_72 vc_X1 xin1 fb_X1_2 fl_X7_133 xr_X1_2 kk2 ?_
      rcases x_if h with ⟨c2, h⟩ | ⟨c2, h⟩
      · refine x_if_eq_t (tgt := 82) dX7_bankruptIn_75 (by decide) c2 ?_
        refine x_iconst (v := (-1)) dX7_bankruptIn_82 rfl ?_
        obtain ⟨h7, rfl⟩ := Prod.mk.inj (x_so h)
        obtain rfl := Sum.inl.inj h7
        exact x_iret dX7_bankruptIn_83 rfl rfl rfl
      · refine x_if_eq_f (tgt := 82) dX7_bankruptIn_75 (by decide) c2 ?_
        refine x_iload_n 2 dX7_bankruptIn_78 rfl rfl ?_
        refine x_goto (tgt := 83) dX7_bankruptIn_79 (by decide) ?_
        obtain ⟨h7, rfl⟩ := Prod.mk.inj (x_so h)
        obtain rfl := Sum.inl.inj h7
        exact x_iret dX7_bankruptIn_83 rfl rfl rfl
    · refine x_icmp_ge_f (tgt := 71) dX7_bankruptIn_48 (by decide) c1 ?_
      refine x_aload_n 1 dX7_bankruptIn_51 rfl rfl ?_
      refine x_geti dX7_bankruptIn_52 vc_X1 xin1 fb_X1_2 fl_X7_133 xr_X1_2 kk2 ?_
      rcases x_if h with ⟨c3, h⟩ | ⟨c3, h⟩
      · refine x_if_ne_f (tgt := 71) dX7_bankruptIn_55 (by decide) c3 ?_
        refine x_aload_n 0 dX7_bankruptIn_58 rfl rfl ?_
        obtain ⟨g4, k5⟩ := wt_X7_6 hw kk0
        refine x_getr dX7_bankruptIn_59 vc_X7 xin7 fb_X7_6 fl_X7_41 xr_X7_6 kk0 g4 ?_
        obtain ⟨N7, q6, h⟩ := x_bd1 h
        refine x_cv (b := (gp Y p_0 6)) (As := []) (ci := 6) (d' := 6) (zz := yX6_passTick) dX7_bankruptIn_62 ml_X7_225 wi_X6_passTick wv_X6_passTick wn_X6 wc_X6_passTick hp_X6_passTick (by decide) (by decide) rfl (Nat.le_of_ble_eq_true rfl) ⟨Nat.zero_le _, Nat.zero_le _⟩ rfl k5 (T_X6_passTick (G := G) hw k5 q6) ?_
        refine x_iinc (L' := [(0, .ref p_0), (2, .ref p_2), (3, .int (v_3 + 1))]) 2 [1, 2, 0] dX7_bankruptIn_65 rfl rfl (by decide) rfl ?_
        refine x_goto (tgt := 44) dX7_bankruptIn_68 (by decide) ?_
        exact ih p_0 p_2 (v_3 + 1) N7 kk0 kk2 h
      · refine x_if_ne_t (tgt := 71) dX7_bankruptIn_55 (by decide) c3 ?_
        refine x_aload_n 1 dX7_bankruptIn_71 rfl rfl ?_
        refine x_geti dX7_bankruptIn_72 vc_X1 xin1 fb_X1_2 fl_X7_133 xr_X1_2 kk2 ?_
        rcases x_if h with ⟨c8, h⟩ | ⟨c8, h⟩
        · refine x_if_eq_t (tgt := 82) dX7_bankruptIn_75 (by decide) c8 ?_
          refine x_iconst (v := (-1)) dX7_bankruptIn_82 rfl ?_
          obtain ⟨h7, rfl⟩ := Prod.mk.inj (x_so h)
          obtain rfl := Sum.inl.inj h7
          exact x_iret dX7_bankruptIn_83 rfl rfl rfl
        · refine x_if_eq_f (tgt := 82) dX7_bankruptIn_75 (by decide) c8 ?_
          refine x_iload_n 2 dX7_bankruptIn_78 rfl rfl ?_
          refine x_goto (tgt := 83) dX7_bankruptIn_79 (by decide) ?_
          obtain ⟨h7, rfl⟩ := Prod.mk.inj (x_so h)
          obtain rfl := Sum.inl.inj h7
          exact x_iret dX7_bankruptIn_83 rfl rfl rfl
set_option maxHeartbeats 4000000 in
set_option maxRecDepth 100000 in
theorem T_X7_bankruptIn_44x {G : XG} {Y : XY} (hw : WT Y) (h9 : ∀ a, kc Y a ≠ 9) {r9 : String} {N9 : XN}: ∀ (D9 : Nat) (p_0 : Nat) (p_2 : Nat) (v_3 : Int32) (N : XN), kc Y p_0 = 17 → kc Y p_2 = 11 → f_X7_bankruptIn_44 Y D9 p_0 p_2 v_3 N = some (.inr r9, N9) → Ex G yX7_bankruptIn cX7_bankruptIn 4 (some .int) (xR 7 1 6) (.inr r9) Y N9 0 0 44 [(0, .ref p_0), (2, .ref p_2), (3, .int v_3)] [] Y N := by
  intro D9
  induction D9 with
  | zero => intro p_0 p_2 v_3 N kk0 kk2 h; exact nomatch (show none = some _ from h)
  | succ D9 ih =>
    intro p_0 p_2 v_3 N kk0 kk2 h
    rw [f_X7_bankruptIn_44] at h
    refine x_iload_n 2 dX7_bankruptIn_44 rfl rfl ?_
    refine x_sipush (v := 1100) dX7_bankruptIn_45 rfl ?_
    rcases x_if h with ⟨c1, h⟩ | ⟨c1, h⟩
    · refine x_icmp_ge_t (tgt := 71) dX7_bankruptIn_48 (by decide) c1 ?_
      refine x_aload_n 1 dX7_bankruptIn_71 rfl rfl ?_
      refine x_geti dX7_bankruptIn_72 vc_X1 xin1 fb_X1_2 fl_X7_133 xr_X1_2 kk2 ?_
      rcases x_if h with ⟨c2, h⟩ | ⟨c2, h⟩
      · refine x_if_eq_t (tgt := 82) dX7_bankruptIn_75 (by decide) c2 ?_
        refine x_iconst (v := (-1)) dX7_bankruptIn_82 rfl ?_
        cases (Prod.mk.inj (x_so h)).1
      · refine x_if_eq_f (tgt := 82) dX7_bankruptIn_75 (by decide) c2 ?_
        refine x_iload_n 2 dX7_bankruptIn_78 rfl rfl ?_
        refine x_goto (tgt := 83) dX7_bankruptIn_79 (by decide) ?_
        cases (Prod.mk.inj (x_so h)).1
    · refine x_icmp_ge_f (tgt := 71) dX7_bankruptIn_48 (by decide) c1 ?_
      refine x_aload_n 1 dX7_bankruptIn_51 rfl rfl ?_
      refine x_geti dX7_bankruptIn_52 vc_X1 xin1 fb_X1_2 fl_X7_133 xr_X1_2 kk2 ?_
      rcases x_if h with ⟨c3, h⟩ | ⟨c3, h⟩
      · refine x_if_ne_f (tgt := 71) dX7_bankruptIn_55 (by decide) c3 ?_
        refine x_aload_n 0 dX7_bankruptIn_58 rfl rfl ?_
        obtain ⟨g4, k5⟩ := wt_X7_6 hw kk0
        refine x_getr dX7_bankruptIn_59 vc_X7 xin7 fb_X7_6 fl_X7_41 xr_X7_6 kk0 g4 ?_
        obtain ⟨N7, q6, h⟩ := x_bd1 h
        refine x_cv (b := (gp Y p_0 6)) (As := []) (ci := 6) (d' := 6) (zz := yX6_passTick) dX7_bankruptIn_62 ml_X7_225 wi_X6_passTick wv_X6_passTick wn_X6 wc_X6_passTick hp_X6_passTick (by decide) (by decide) rfl (Nat.le_of_ble_eq_true rfl) ⟨Nat.zero_le _, Nat.zero_le _⟩ rfl k5 (T_X6_passTick (G := G) hw k5 q6) ?_
        refine x_iinc (L' := [(0, .ref p_0), (2, .ref p_2), (3, .int (v_3 + 1))]) 2 [1, 2, 0] dX7_bankruptIn_65 rfl rfl (by decide) rfl ?_
        refine x_goto (tgt := 44) dX7_bankruptIn_68 (by decide) ?_
        exact ih p_0 p_2 (v_3 + 1) N7 kk0 kk2 h
      · refine x_if_ne_t (tgt := 71) dX7_bankruptIn_55 (by decide) c3 ?_
        refine x_aload_n 1 dX7_bankruptIn_71 rfl rfl ?_
        refine x_geti dX7_bankruptIn_72 vc_X1 xin1 fb_X1_2 fl_X7_133 xr_X1_2 kk2 ?_
        rcases x_if h with ⟨c8, h⟩ | ⟨c8, h⟩
        · refine x_if_eq_t (tgt := 82) dX7_bankruptIn_75 (by decide) c8 ?_
          refine x_iconst (v := (-1)) dX7_bankruptIn_82 rfl ?_
          cases (Prod.mk.inj (x_so h)).1
        · refine x_if_eq_f (tgt := 82) dX7_bankruptIn_75 (by decide) c8 ?_
          refine x_iload_n 2 dX7_bankruptIn_78 rfl rfl ?_
          refine x_goto (tgt := 83) dX7_bankruptIn_79 (by decide) ?_
          cases (Prod.mk.inj (x_so h)).1
set_option maxHeartbeats 4000000 in
set_option maxRecDepth 100000 in
theorem T_X7_bankruptIn {G : XG} {Y : XY} (hw : WT Y) {a0 : Nat} {a1 : Int32} {N : XN} (k100 : kc Y a0 = 17) {r9 : Int32} {N9 : XN} (h : f_X7_bankruptIn Y a0 a1 N = some (.inl r9, N9)) : Cl G yX7_bankruptIn cX7_bankruptIn 4 (some .int) (xR 7 0 0) [.ref a0, .int a1] (.inl (some (.int r9))) Y N Y N9 := by
  refine x_entry (by decide) (Nat.le_of_ble_eq_true rfl) rfl ?_
  rw [f_X7_bankruptIn] at h
  refine x_aload_n 0 dX7_bankruptIn_0 rfl rfl ?_
  obtain ⟨g1, k2⟩ := wt_X7_5 hw k100
  refine x_getr dX7_bankruptIn_1 vc_X7 xin7 fb_X7_5 fl_X7_37 xr_X7_5 k100 g1 ?_
  refine x_iload_n 1 dX7_bankruptIn_4 rfl rfl ?_
  refine x_cv (b := (gp Y a0 5)) (As := [.int a1]) (ci := 6) (d' := 1) (zz := yX6_hasHandler) dX7_bankruptIn_5 ml_X7_112 wi_X6_hasHandler wv_X6_hasHandler wn_X6 wc_X6_hasHandler hp_X6_hasHandler (by decide) (by decide) rfl (Nat.le_of_ble_eq_true rfl) ⟨Nat.zero_le _, Nat.zero_le _⟩ rfl k2 (T_X6_hasHandler (G := G) hw k2 rfl) ?_
  rcases x_if h with ⟨c3, h⟩ | ⟨c3, h⟩
  · refine x_if_ne_f (tgt := 21) dX7_bankruptIn_8 (by decide) c3 ?_
    cases (Prod.mk.inj (x_so h)).1
  · refine x_if_ne_t (tgt := 21) dX7_bankruptIn_8 (by decide) c3 ?_
    refine x_aload_n 0 dX7_bankruptIn_21 rfl rfl ?_
    obtain ⟨g4, k5⟩ := wt_X7_6 hw k100
    refine x_getr dX7_bankruptIn_22 vc_X7 xin7 fb_X7_6 fl_X7_41 xr_X7_6 k100 g4 ?_
    refine x_aload_n 0 dX7_bankruptIn_25 rfl rfl ?_
    refine x_getr dX7_bankruptIn_26 vc_X7 xin7 fb_X7_5 fl_X7_37 xr_X7_5 k100 g1 ?_
    obtain ⟨N7, q6, h⟩ := x_bd1 h
    refine x_cv (b := (gp Y a0 6)) (As := [.ref (gp Y a0 5)]) (ci := 6) (d' := 2) (zz := yX6_copyOf) dX7_bankruptIn_29 ml_X7_80 wi_X6_copyOf wv_X6_copyOf wn_X6 wc_X6_copyOf hp_X6_copyOf (by decide) (by decide) rfl (Nat.le_of_ble_eq_true rfl) ⟨Nat.zero_le _, Nat.zero_le _⟩ rfl k5 (T_X6_copyOf (G := G) hw k5 k2 q6) ?_
    refine x_aload_n 0 dX7_bankruptIn_32 rfl rfl ?_
    refine x_getr dX7_bankruptIn_33 vc_X7 xin7 fb_X7_6 fl_X7_41 xr_X7_6 k100 g4 ?_
    obtain ⟨g8, k9, n10⟩ := wt_X6_0 hw k5
    refine x_getr dX7_bankruptIn_36 vc_X6 xin6 fb_X6_0 fl_X7_121 xr_X6_0 k5 g8 ?_
    refine x_iload_n 1 dX7_bankruptIn_39 rfl rfl ?_
    obtain ⟨c11, h⟩ := x_ck h
    obtain ⟨g12, k13⟩ := wt_4 hw k9 (xb_at n10 c11)
    refine x_aald (j := 0) dX7_bankruptIn_40 (by decide) k9 (xb_at n10 c11) g12 ?_
    obtain ⟨p14, ep14, h⟩ := x_lt h
    refine x_nmr ep14 ?_
    have k15 := k13; rw [← ep14] at k15
    refine x_astore_n (L' := [(0, .ref a0), (2, .ref p14)]) [1, 0] dX7_bankruptIn_41 rfl (by decide) rfl ?_
    refine x_iconst (v := 0) dX7_bankruptIn_42 rfl ?_
    refine x_istore_n (L' := [(0, .ref a0), (2, .ref p14), (3, .int 0)]) [1, 2, 0] dX7_bankruptIn_43 rfl (by decide) rfl ?_
    exact T_X7_bankruptIn_44 (G := G) hw FU a0 p14 0 N7 k100 k15 h
set_option maxHeartbeats 4000000 in
set_option maxRecDepth 100000 in
theorem T_X7_bankruptInx {G : XG} {Y : XY} (hw : WT Y) (h9 : ∀ a, kc Y a ≠ 9) {a0 : Nat} {a1 : Int32} {N : XN} (k100 : kc Y a0 = 17) {r9 : String} {N9 : XN} (h : f_X7_bankruptIn Y a0 a1 N = some (.inr r9, N9)) : Cl G yX7_bankruptIn cX7_bankruptIn 4 (some .int) (xR 7 1 6) [.ref a0, .int a1] (.inr r9) Y N Y N9 := by
  refine x_entry (by decide) (Nat.le_of_ble_eq_true rfl) rfl ?_
  rw [f_X7_bankruptIn] at h
  refine x_aload_n 0 dX7_bankruptIn_0 rfl rfl ?_
  obtain ⟨g1, k2⟩ := wt_X7_5 hw k100
  refine x_getr dX7_bankruptIn_1 vc_X7 xin7 fb_X7_5 fl_X7_37 xr_X7_5 k100 g1 ?_
  refine x_iload_n 1 dX7_bankruptIn_4 rfl rfl ?_
  refine x_cv (b := (gp Y a0 5)) (As := [.int a1]) (ci := 6) (d' := 1) (zz := yX6_hasHandler) dX7_bankruptIn_5 ml_X7_112 wi_X6_hasHandler wv_X6_hasHandler wn_X6 wc_X6_hasHandler hp_X6_hasHandler (by decide) (by decide) rfl (Nat.le_of_ble_eq_true rfl) ⟨Nat.zero_le _, Nat.zero_le _⟩ rfl k2 (T_X6_hasHandler (G := G) hw k2 rfl) ?_
  rcases x_if h with ⟨c3, h⟩ | ⟨c3, h⟩
  · refine x_if_ne_f (tgt := 21) dX7_bankruptIn_8 (by decide) c3 ?_
    obtain ⟨h7, rfl⟩ := Prod.mk.inj (x_so h)
    obtain rfl := Sum.inr.inj h7
    exact xt_iob dX7_bankruptIn_11 dX7_bankruptIn_14 dX7_bankruptIn_15 dX7_bankruptIn_17 dX7_bankruptIn_20 (tx := "no such handler") (by decide) rfl (fun _ => h9 _) (by decide) (Nat.le_of_ble_eq_true rfl)
  · refine x_if_ne_t (tgt := 21) dX7_bankruptIn_8 (by decide) c3 ?_
    refine x_aload_n 0 dX7_bankruptIn_21 rfl rfl ?_
    obtain ⟨g4, k5⟩ := wt_X7_6 hw k100
    refine x_getr dX7_bankruptIn_22 vc_X7 xin7 fb_X7_6 fl_X7_41 xr_X7_6 k100 g4 ?_
    refine x_aload_n 0 dX7_bankruptIn_25 rfl rfl ?_
    refine x_getr dX7_bankruptIn_26 vc_X7 xin7 fb_X7_5 fl_X7_37 xr_X7_5 k100 g1 ?_
    obtain ⟨N7, q6, h⟩ := x_bd1 h
    refine x_cv (b := (gp Y a0 6)) (As := [.ref (gp Y a0 5)]) (ci := 6) (d' := 2) (zz := yX6_copyOf) dX7_bankruptIn_29 ml_X7_80 wi_X6_copyOf wv_X6_copyOf wn_X6 wc_X6_copyOf hp_X6_copyOf (by decide) (by decide) rfl (Nat.le_of_ble_eq_true rfl) ⟨Nat.zero_le _, Nat.zero_le _⟩ rfl k5 (T_X6_copyOf (G := G) hw k5 k2 q6) ?_
    refine x_aload_n 0 dX7_bankruptIn_32 rfl rfl ?_
    refine x_getr dX7_bankruptIn_33 vc_X7 xin7 fb_X7_6 fl_X7_41 xr_X7_6 k100 g4 ?_
    obtain ⟨g8, k9, n10⟩ := wt_X6_0 hw k5
    refine x_getr dX7_bankruptIn_36 vc_X6 xin6 fb_X6_0 fl_X7_121 xr_X6_0 k5 g8 ?_
    refine x_iload_n 1 dX7_bankruptIn_39 rfl rfl ?_
    obtain ⟨c11, h⟩ := x_ck h
    obtain ⟨g12, k13⟩ := wt_4 hw k9 (xb_at n10 c11)
    refine x_aald (j := 0) dX7_bankruptIn_40 (by decide) k9 (xb_at n10 c11) g12 ?_
    obtain ⟨p14, ep14, h⟩ := x_lt h
    refine x_nmr ep14 ?_
    have k15 := k13; rw [← ep14] at k15
    refine x_astore_n (L' := [(0, .ref a0), (2, .ref p14)]) [1, 0] dX7_bankruptIn_41 rfl (by decide) rfl ?_
    refine x_iconst (v := 0) dX7_bankruptIn_42 rfl ?_
    refine x_istore_n (L' := [(0, .ref a0), (2, .ref p14), (3, .int 0)]) [1, 2, 0] dX7_bankruptIn_43 rfl (by decide) rfl ?_
    exact T_X7_bankruptIn_44x (G := G) hw h9 FU a0 p14 0 N7 k100 k15 h
set_option maxHeartbeats 4000000 in
set_option maxRecDepth 100000 in
theorem T_X7_finesIn {G : XG} {Y : XY} (hw : WT Y) {a0 : Nat} {a1 : Int32} {N : XN} (k100 : kc Y a0 = 17) {r9 : Int32} {N9 : XN} (h : f_X7_finesIn Y a0 a1 N = some (.inl r9, N9)) : Cl G yX7_finesIn cX7_finesIn 2 (some .int) (xR 8 0 0) [.ref a0, .int a1] (.inl (some (.int r9))) Y N Y N9 := by
  refine x_entry (by decide) (Nat.le_of_ble_eq_true rfl) rfl ?_
  rw [f_X7_finesIn] at h
  refine x_iload_n 1 dX7_finesIn_0 rfl rfl ?_
  rcases x_if h with ⟨c1, h⟩ | ⟨c1, h⟩
  · refine x_if_lt_t (tgt := 11) dX7_finesIn_1 (by decide) c1 ?_
    cases (Prod.mk.inj (x_so h)).1
  · refine x_if_lt_f (tgt := 11) dX7_finesIn_1 (by decide) c1 ?_
    refine x_iload_n 1 dX7_finesIn_4 rfl rfl ?_
    refine x_sipush (v := 1100) dX7_finesIn_5 rfl ?_
    rcases x_if h with ⟨c2, h⟩ | ⟨c2, h⟩
    · refine x_icmp_le_t (tgt := 21) dX7_finesIn_8 (by decide) c2 ?_
      refine x_aload_n 0 dX7_finesIn_21 rfl rfl ?_
      obtain ⟨g3, k4⟩ := wt_X7_6 hw k100
      refine x_getr dX7_finesIn_22 vc_X7 xin7 fb_X7_6 fl_X7_41 xr_X7_6 k100 g3 ?_
      refine x_aload_n 0 dX7_finesIn_25 rfl rfl ?_
      obtain ⟨g5, k6⟩ := wt_X7_5 hw k100
      refine x_getr dX7_finesIn_26 vc_X7 xin7 fb_X7_5 fl_X7_37 xr_X7_5 k100 g5 ?_
      obtain ⟨N8, q7, h⟩ := x_bd1 h
      refine x_cv (b := (gp Y a0 6)) (As := [.ref (gp Y a0 5)]) (ci := 6) (d' := 2) (zz := yX6_copyOf) dX7_finesIn_29 ml_X7_80 wi_X6_copyOf wv_X6_copyOf wn_X6 wc_X6_copyOf hp_X6_copyOf (by decide) (by decide) rfl (Nat.le_of_ble_eq_true rfl) ⟨Nat.zero_le _, Nat.zero_le _⟩ rfl k4 (T_X6_copyOf (G := G) hw k4 k6 q7) ?_
      refine x_aload_n 0 dX7_finesIn_32 rfl rfl ?_
      refine x_getr dX7_finesIn_33 vc_X7 xin7 fb_X7_6 fl_X7_41 xr_X7_6 k100 g3 ?_
      refine x_iload_n 1 dX7_finesIn_36 rfl rfl ?_
      obtain ⟨r10, N11, q9, h⟩ := x_bd2 h
      refine x_cv (b := (gp Y a0 6)) (As := [.int a1]) (ci := 6) (d' := 7) (zz := yX6_finesWithin) dX7_finesIn_37 ml_X7_230 wi_X6_finesWithin wv_X6_finesWithin wn_X6 wc_X6_finesWithin hp_X6_finesWithin (by decide) (by decide) rfl (Nat.le_of_ble_eq_true rfl) ⟨Nat.zero_le _, Nat.zero_le _⟩ rfl k4 (T_X6_finesWithin (G := G) hw k4 q9) ?_
      obtain ⟨h7, rfl⟩ := Prod.mk.inj (x_so h)
      obtain rfl := Sum.inl.inj h7
      exact x_iret dX7_finesIn_40 rfl rfl rfl
    · refine x_icmp_le_f (tgt := 21) dX7_finesIn_8 (by decide) c2 ?_
      cases (Prod.mk.inj (x_so h)).1
set_option maxHeartbeats 4000000 in
set_option maxRecDepth 100000 in
theorem T_X7_finesInx {G : XG} {Y : XY} (hw : WT Y) (h9 : ∀ a, kc Y a ≠ 9) {a0 : Nat} {a1 : Int32} {N : XN} (k100 : kc Y a0 = 17) {r9 : String} {N9 : XN} (h : f_X7_finesIn Y a0 a1 N = some (.inr r9, N9)) : Cl G yX7_finesIn cX7_finesIn 2 (some .int) (xR 8 1 6) [.ref a0, .int a1] (.inr r9) Y N Y N9 := by
  refine x_entry (by decide) (Nat.le_of_ble_eq_true rfl) rfl ?_
  rw [f_X7_finesIn] at h
  refine x_iload_n 1 dX7_finesIn_0 rfl rfl ?_
  rcases x_if h with ⟨c1, h⟩ | ⟨c1, h⟩
  · refine x_if_lt_t (tgt := 11) dX7_finesIn_1 (by decide) c1 ?_
    obtain ⟨h7, rfl⟩ := Prod.mk.inj (x_so h)
    obtain rfl := Sum.inr.inj h7
    exact xt_iae dX7_finesIn_11 dX7_finesIn_14 dX7_finesIn_15 dX7_finesIn_17 dX7_finesIn_20 (tx := "no such number of ticks") (by decide) rfl (fun _ => h9 _) (by decide) (Nat.le_of_ble_eq_true rfl)
  · refine x_if_lt_f (tgt := 11) dX7_finesIn_1 (by decide) c1 ?_
    refine x_iload_n 1 dX7_finesIn_4 rfl rfl ?_
    refine x_sipush (v := 1100) dX7_finesIn_5 rfl ?_
    rcases x_if h with ⟨c2, h⟩ | ⟨c2, h⟩
    · refine x_icmp_le_t (tgt := 21) dX7_finesIn_8 (by decide) c2 ?_
      refine x_aload_n 0 dX7_finesIn_21 rfl rfl ?_
      obtain ⟨g3, k4⟩ := wt_X7_6 hw k100
      refine x_getr dX7_finesIn_22 vc_X7 xin7 fb_X7_6 fl_X7_41 xr_X7_6 k100 g3 ?_
      refine x_aload_n 0 dX7_finesIn_25 rfl rfl ?_
      obtain ⟨g5, k6⟩ := wt_X7_5 hw k100
      refine x_getr dX7_finesIn_26 vc_X7 xin7 fb_X7_5 fl_X7_37 xr_X7_5 k100 g5 ?_
      obtain ⟨N8, q7, h⟩ := x_bd1 h
      refine x_cv (b := (gp Y a0 6)) (As := [.ref (gp Y a0 5)]) (ci := 6) (d' := 2) (zz := yX6_copyOf) dX7_finesIn_29 ml_X7_80 wi_X6_copyOf wv_X6_copyOf wn_X6 wc_X6_copyOf hp_X6_copyOf (by decide) (by decide) rfl (Nat.le_of_ble_eq_true rfl) ⟨Nat.zero_le _, Nat.zero_le _⟩ rfl k4 (T_X6_copyOf (G := G) hw k4 k6 q7) ?_
      refine x_aload_n 0 dX7_finesIn_32 rfl rfl ?_
      refine x_getr dX7_finesIn_33 vc_X7 xin7 fb_X7_6 fl_X7_41 xr_X7_6 k100 g3 ?_
      refine x_iload_n 1 dX7_finesIn_36 rfl rfl ?_
      obtain ⟨r10, N11, q9, h⟩ := x_bd2 h
      refine x_cv (b := (gp Y a0 6)) (As := [.int a1]) (ci := 6) (d' := 7) (zz := yX6_finesWithin) dX7_finesIn_37 ml_X7_230 wi_X6_finesWithin wv_X6_finesWithin wn_X6 wc_X6_finesWithin hp_X6_finesWithin (by decide) (by decide) rfl (Nat.le_of_ble_eq_true rfl) ⟨Nat.zero_le _, Nat.zero_le _⟩ rfl k4 (T_X6_finesWithin (G := G) hw k4 q9) ?_
      cases (Prod.mk.inj (x_so h)).1
    · refine x_icmp_le_f (tgt := 21) dX7_finesIn_8 (by decide) c2 ?_
      obtain ⟨h7, rfl⟩ := Prod.mk.inj (x_so h)
      obtain rfl := Sum.inr.inj h7
      exact xt_iae dX7_finesIn_11 dX7_finesIn_14 dX7_finesIn_15 dX7_finesIn_17 dX7_finesIn_20 (tx := "no such number of ticks") (by decide) rfl (fun _ => h9 _) (by decide) (Nat.le_of_ble_eq_true rfl)
