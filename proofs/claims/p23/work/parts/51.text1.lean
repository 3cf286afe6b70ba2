set_option maxHeartbeats 4000000 in
set_option maxRecDepth 100000 in
theorem T_X4_kind {G : XG} {Y : XY} (hw : WT Y) {a0 : Nat} {N : XN} (k100 : kc Y a0 = 14) (hr : WR Y a0) {r9 : Int32} (h : f_X4_kind Y a0 N = some r9) : Cl G yX4_kind cX4_kind 1 (some .int) (xR 1 0 0) [.ref a0] (.inl (some (.int r9))) Y N Y N := by
  refine x_entry (by decide) (Nat.le_of_ble_eq_true rfl) rfl ?_
  rw [f_X4_kind] at h
  refine x_aload_n 0 dX4_kind_0 rfl rfl ?_
  refine x_geti dX4_kind_1 vc_X4 xin4 fb_X4_4 fl_X4_24 xr_X4_4 k100 ?_
  refine x_aload_n 0 dX4_kind_4 rfl rfl ?_
  obtain ⟨g1, k2⟩ := hr.1
  refine x_getr dX4_kind_5 vc_X4 xin4 fb_X4_2 fl_X4_9 xr_X4_2 k100 g1 ?_
  refine x_geti dX4_kind_8 vc_X5 xin5 fb_X5_3 fl_X4_49 xr_X5_3 k2 ?_
  rcases x_if h with ⟨c3, h⟩ | ⟨c3, h⟩
  · refine x_icmp_ge_t (tgt := 29) dX4_kind_11 (by decide) c3 ?_
    refine x_iconst (v := 0) dX4_kind_29 rfl ?_
    obtain rfl := x_so h
    exact x_iret dX4_kind_30 rfl rfl rfl
  · refine x_icmp_ge_f (tgt := 29) dX4_kind_11 (by decide) c3 ?_
    refine x_aload_n 0 dX4_kind_14 rfl rfl ?_
    refine x_getr dX4_kind_15 vc_X4 xin4 fb_X4_2 fl_X4_9 xr_X4_2 k100 g1 ?_
    obtain ⟨g4, k5, n6⟩ := wt_X5_0 hw k2
    refine x_getr dX4_kind_18 vc_X5 xin5 fb_X5_0 fl_X4_54 xr_X5_0 k2 g4 ?_
    refine x_aload_n 0 dX4_kind_21 rfl rfl ?_
    refine x_geti dX4_kind_22 vc_X4 xin4 fb_X4_4 fl_X4_24 xr_X4_4 k100 ?_
    obtain ⟨c7, h⟩ := x_ck h
    refine x_iald dX4_kind_25 k5 (xb_at n6 c7) rfl ?_
    refine x_goto (tgt := 30) dX4_kind_26 (by decide) ?_
    obtain rfl := x_so h
    exact x_iret dX4_kind_30 rfl rfl rfl
set_option maxHeartbeats 4000000 in
set_option maxRecDepth 100000 in
theorem T_X4_fails {G : XG} {Y : XY} (hw : WT Y) {a0 : Nat} {a1 : Int32} {N : XN} (k100 : kc Y a0 = 14) (hr : WR Y a0) {r9 : Int32} {N9 : XN} (h : f_X4_fails Y a0 a1 N = some (r9, N9)) : Cl G yX4_fails cX4_fails 2 (some .boolean) (xR 1 0 0) [.ref a0, .int a1] (.inl (some (.int r9))) Y N Y N9 := by
  refine x_entry (by decide) (Nat.le_of_ble_eq_true rfl) rfl ?_
  rw [f_X4_fails] at h
  refine x_aload_n 0 dX4_fails_0 rfl rfl ?_
  refine x_iload_n 1 dX4_fails_1 rfl rfl ?_
  refine x_puti dX4_fails_2 vc_X4 xin4 tyX4_ok nmX4 fb_X4_0 fl_X4_31 ff_X4_0 xr_X4_0 (nf_X4_0 _) (ft_X4_0 _) k100 ?_
  obtain ⟨N1, eN1, h⟩ := x_lt h
  refine x_nmN eN1 ?_
  refine x_aload_n 0 dX4_fails_5 rfl rfl ?_
  refine x_aload_n 0 dX4_fails_6 rfl rfl ?_
  refine x_geti dX4_fails_7 vc_X4 xin4 fb_X4_4 fl_X4_24 xr_X4_4 k100 ?_
  refine x_aload_n 0 dX4_fails_10 rfl rfl ?_
  obtain ⟨g2, k3⟩ := hr.1
  refine x_getr dX4_fails_11 vc_X4 xin4 fb_X4_2 fl_X4_9 xr_X4_2 k100 g2 ?_
  refine x_geti dX4_fails_14 vc_X5 xin5 fb_X5_3 fl_X4_49 xr_X5_3 k3 ?_
  rcases x_if h with ⟨c4, h⟩ | ⟨c4, h⟩
  · refine x_icmp_ge_t (tgt := 35) dX4_fails_17 (by decide) c4 ?_
    refine x_iconst (v := 0) dX4_fails_35 rfl ?_
    refine x_puti dX4_fails_36 vc_X4 xin4 tyX4_ok nmX4 fb_X4_1 fl_X4_34 ff_X4_1 xr_X4_1 (nf_X4_1 _) (ft_X4_1 _) k100 ?_
    obtain ⟨N5, eN5, h⟩ := x_lt h
    refine x_nmN eN5 ?_
    refine x_iconst (v := 0) dX4_fails_39 rfl ?_
    obtain ⟨rfl, rfl⟩ := Prod.mk.inj (x_so h)
    exact x_zret dX4_fails_40 rfl (by decide) rfl rfl
  · refine x_icmp_ge_f (tgt := 35) dX4_fails_17 (by decide) c4 ?_
    refine x_aload_n 0 dX4_fails_20 rfl rfl ?_
    refine x_getr dX4_fails_21 vc_X4 xin4 fb_X4_2 fl_X4_9 xr_X4_2 k100 g2 ?_
    obtain ⟨g6, k7, n8⟩ := wt_X5_1 hw k3
    refine x_getr dX4_fails_24 vc_X5 xin5 fb_X5_1 fl_X4_58 xr_X5_1 k3 g6 ?_
    refine x_aload_n 0 dX4_fails_27 rfl rfl ?_
    refine x_geti dX4_fails_28 vc_X4 xin4 fb_X4_4 fl_X4_24 xr_X4_4 k100 ?_
    obtain ⟨c9, h⟩ := x_ck h
    refine x_iald dX4_fails_31 k7 (xb_at n8 c9) rfl ?_
    refine x_goto (tgt := 36) dX4_fails_32 (by decide) ?_
    refine x_puti dX4_fails_36 vc_X4 xin4 tyX4_ok nmX4 fb_X4_1 fl_X4_34 ff_X4_1 xr_X4_1 (nf_X4_1 _) (ft_X4_1 _) k100 ?_
    obtain ⟨N10, eN10, h⟩ := x_lt h
    refine x_nmN eN10 ?_
    refine x_iconst (v := 0) dX4_fails_39 rfl ?_
    obtain ⟨rfl, rfl⟩ := Prod.mk.inj (x_so h)
    exact x_zret dX4_fails_40 rfl (by decide) rfl rfl
set_option maxHeartbeats 4000000 in
set_option maxRecDepth 100000 in
theorem T_X4_takes {G : XG} {Y : XY} (hw : WT Y) {a0 : Nat} {a1 : Int32} {N : XN} (k100 : kc Y a0 = 14) (hr : WR Y a0) {r9 : Int32} {N9 : XN} (h : f_X4_takes Y a0 a1 N = some (r9, N9)) : Cl G yX4_takes cX4_takes 2 (some .boolean) (xR 2 0 0) [.ref a0, .int a1] (.inl (some (.int r9))) Y N Y N9 := by
  refine x_entry (by decide) (Nat.le_of_ble_eq_true rfl) rfl ?_
  rw [f_X4_takes] at h
  refine x_aload_n 0 dX4_takes_0 rfl rfl ?_
  obtain ⟨r2, q1, h⟩ := x_bd1 h
  refine x_cv (b := a0) (As := []) (ci := 4) (d' := 1) (zz := yX4_kind) dX4_takes_1 ml_X4_41 wi_X4_kind wv_X4_kind wn_X4 wc_X4_kind hp_X4_kind (by decide) (by decide) rfl (Nat.le_of_ble_eq_true rfl) ⟨Nat.zero_le _, Nat.zero_le _⟩ rfl k100 (T_X4_kind (G := G) hw k100 hr q1) ?_
  refine x_iload_n 1 dX4_takes_4 rfl rfl ?_
  rcases x_if h with ⟨c3, h⟩ | ⟨c3, h⟩
  · refine x_icmp_eq_t (tgt := 15) dX4_takes_5 (by decide) c3 ?_
    refine x_aload_n 0 dX4_takes_15 rfl rfl ?_
    refine x_dup dX4_takes_16 rfl ?_
    refine x_geti dX4_takes_17 vc_X4 xin4 fb_X4_4 fl_X4_24 xr_X4_4 k100 ?_
    refine x_iconst (v := 1) dX4_takes_20 rfl ?_
    refine x_iadd dX4_takes_21 ?_
    refine x_puti dX4_takes_22 vc_X4 xin4 tyX4_ok nmX4 fb_X4_4 fl_X4_24 ff_X4_4 xr_X4_4 (nf_X4_4 _) (ft_X4_4 _) k100 ?_
    obtain ⟨N4, eN4, h⟩ := x_lt h
    refine x_nmN eN4 ?_
    refine x_iconst (v := 1) dX4_takes_25 rfl ?_
    obtain ⟨rfl, rfl⟩ := Prod.mk.inj (x_so h)
    exact x_zret dX4_takes_26 rfl (by decide) rfl rfl
  · refine x_icmp_eq_f (tgt := 15) dX4_takes_5 (by decide) c3 ?_
    refine x_aload_n 0 dX4_takes_8 rfl rfl ?_
    refine x_bipush (v := (-2)) dX4_takes_9 rfl ?_
    obtain ⟨r6, N7, q5, h⟩ := x_bd2 h
    refine x_cv (b := a0) (As := [.int (-2)]) (ci := 4) (d' := 1) (zz := yX4_fails) dX4_takes_11 ml_X4_61 wi_X4_fails wv_X4_fails wn_X4 wc_X4_fails hp_X4_fails (by decide) (by decide) rfl (Nat.le_of_ble_eq_true rfl) ⟨Nat.zero_le _, Nat.zero_le _⟩ rfl k100 (T_X4_fails (G := G) hw k100 hr q5) ?_
    obtain ⟨c8, h⟩ := x_ck h
    obtain ⟨rfl, rfl⟩ := Prod.mk.inj (x_so h)
    exact x_zret dX4_takes_14 rfl (xz_or c8) rfl rfl
set_option maxHeartbeats 4000000 in
set_option maxRecDepth 100000 in
theorem T_X4_readsNumber {G : XG} {Y : XY} (hw : WT Y) {a0 : Nat} {a1 : Int32} {a2 : Int32} {N : XN} (k100 : kc Y a0 = 14) (hr : WR Y a0) {r9 : Int32} {N9 : XN} (h : f_X4_readsNumber Y a0 a1 a2 N = some (r9, N9)) : Cl G yX4_readsNumber cX4_readsNumber 3 (some .boolean) (xR 2 0 0) [.ref a0, .int a1, .int a2] (.inl (some (.int r9))) Y N Y N9 := by
  refine x_entry (by decide) (Nat.le_of_ble_eq_true rfl) rfl ?_
  rw [f_X4_readsNumber] at h
  refine x_aload_n 0 dX4_readsNumber_0 rfl rfl ?_
  obtain ⟨r2, q1, h⟩ := x_bd1 h
  refine x_cv (b := a0) (As := []) (ci := 4) (d' := 1) (zz := yX4_kind) dX4_readsNumber_1 ml_X4_41 wi_X4_kind wv_X4_kind wn_X4 wc_X4_kind hp_X4_kind (by decide) (by decide) rfl (Nat.le_of_ble_eq_true rfl) ⟨Nat.zero_le _, Nat.zero_le _⟩ rfl k100 (T_X4_kind (G := G) hw k100 hr q1) ?_
  refine x_iconst (v := 2) dX4_readsNumber_4 rfl ?_
  rcases x_if h with ⟨c3, h⟩ | ⟨c3, h⟩
  · refine x_icmp_ne_f (tgt := 22) dX4_readsNumber_5 (by decide) c3 ?_
    refine x_aload_n 0 dX4_readsNumber_8 rfl rfl ?_
    refine x_geti dX4_readsNumber_9 vc_X4 xin4 fb_X4_4 fl_X4_24 xr_X4_4 k100 ?_
    refine x_aload_n 0 dX4_readsNumber_12 rfl rfl ?_
    obtain ⟨g4, k5⟩ := hr.1
    refine x_getr dX4_readsNumber_13 vc_X4 xin4 fb_X4_2 fl_X4_9 xr_X4_2 k100 g4 ?_
    refine x_geti dX4_readsNumber_16 vc_X5 xin5 fb_X5_3 fl_X4_49 xr_X5_3 k5 ?_
    rcases x_if h with ⟨c6, h⟩ | ⟨c6, h⟩
    · refine x_icmp_lt_t (tgt := 29) dX4_readsNumber_19 (by decide) c6 ?_
      refine x_aload_n 0 dX4_readsNumber_29 rfl rfl ?_
      refine x_aload_n 0 dX4_readsNumber_30 rfl rfl ?_
      refine x_getr dX4_readsNumber_31 vc_X4 xin4 fb_X4_2 fl_X4_9 xr_X4_2 k100 g4 ?_
      obtain ⟨g7, k8, n9⟩ := wt_X5_2 hw k5
      refine x_getr dX4_readsNumber_34 vc_X5 xin5 fb_X5_2 fl_X4_64 xr_X5_2 k5 g7 ?_
      refine x_aload_n 0 dX4_readsNumber_37 rfl rfl ?_
      refine x_geti dX4_readsNumber_38 vc_X4 xin4 fb_X4_4 fl_X4_24 xr_X4_4 k100 ?_
      obtain ⟨c10, h⟩ := x_ck h
      refine x_iald dX4_readsNumber_41 k8 (xb_at n9 c10) rfl ?_
      refine x_puti dX4_readsNumber_42 vc_X4 xin4 tyX4_ok nmX4 fb_X4_5 fl_X4_67 ff_X4_5 xr_X4_5 (nf_X4_5 _) (ft_X4_5 _) k100 ?_
      obtain ⟨N11, eN11, h⟩ := x_lt h
      refine x_nmN eN11 ?_
      refine x_aload_n 0 dX4_readsNumber_45 rfl rfl ?_
      refine x_geti dX4_readsNumber_46 vc_X4 xin4 fb_X4_5 fl_X4_67 xr_X4_5 k100 ?_
      refine x_iload_n 1 dX4_readsNumber_49 rfl rfl ?_
      rcases x_if h with ⟨c12, h⟩ | ⟨c12, h⟩
      · refine x_icmp_lt_t (tgt := 61) dX4_readsNumber_50 (by decide) c12 ?_
        refine x_aload_n 0 dX4_readsNumber_61 rfl rfl ?_
        refine x_bipush (v := (-3)) dX4_readsNumber_62 rfl ?_
        obtain ⟨r14, N15, q13, h⟩ := x_bd2 h
        refine x_cv (b := a0) (As := [.int (-3)]) (ci := 4) (d' := 1) (zz := yX4_fails) dX4_readsNumber_64 ml_X4_61 wi_X4_fails wv_X4_fails wn_X4 wc_X4_fails hp_X4_fails (by decide) (by decide) rfl (Nat.le_of_ble_eq_true rfl) ⟨Nat.zero_le _, Nat.zero_le _⟩ rfl k100 (T_X4_fails (G := G) hw k100 hr q13) ?_
        obtain ⟨c16, h⟩ := x_ck h
        obtain ⟨rfl, rfl⟩ := Prod.mk.inj (x_so h)
        exact x_zret dX4_readsNumber_67 rfl (xz_or c16) rfl rfl
      · refine x_icmp_lt_f (tgt := 61) dX4_readsNumber_50 (by decide) c12 ?_
        refine x_aload_n 0 dX4_readsNumber_53 rfl rfl ?_
        refine x_geti dX4_readsNumber_54 vc_X4 xin4 fb_X4_5 fl_X4_67 xr_X4_5 k100 ?_
        refine x_iload_n 2 dX4_readsNumber_57 rfl rfl ?_
        rcases x_if h with ⟨c17, h⟩ | ⟨c17, h⟩
        · refine x_icmp_le_t (tgt := 68) dX4_readsNumber_58 (by decide) c17 ?_
          refine x_aload_n 0 dX4_readsNumber_68 rfl rfl ?_
          refine x_dup dX4_readsNumber_69 rfl ?_
          refine x_geti dX4_readsNumber_70 vc_X4 xin4 fb_X4_4 fl_X4_24 xr_X4_4 k100 ?_
          refine x_iconst (v := 1) dX4_readsNumber_73 rfl ?_
          refine x_iadd dX4_readsNumber_74 ?_
          refine x_puti dX4_readsNumber_75 vc_X4 xin4 tyX4_ok nmX4 fb_X4_4 fl_X4_24 ff_X4_4 xr_X4_4 (nf_X4_4 _) (ft_X4_4 _) k100 ?_
          obtain ⟨N18, eN18, h⟩ := x_lt h
          refine x_nmN eN18 ?_
          refine x_iconst (v := 1) dX4_readsNumber_78 rfl ?_
          obtain ⟨rfl, rfl⟩ := Prod.mk.inj (x_so h)
          exact x_zret dX4_readsNumber_79 rfl (by decide) rfl rfl
        · refine x_icmp_le_f (tgt := 68) dX4_readsNumber_58 (by decide) c17 ?_
          refine x_aload_n 0 dX4_readsNumber_61 rfl rfl ?_
          refine x_bipush (v := (-3)) dX4_readsNumber_62 rfl ?_
          obtain ⟨r20, N21, q19, h⟩ := x_bd2 h
          refine x_cv (b := a0) (As := [.int (-3)]) (ci := 4) (d' := 1) (zz := yX4_fails) dX4_readsNumber_64 ml_X4_61 wi_X4_fails wv_X4_fails wn_X4 wc_X4_fails hp_X4_fails (by decide) (by decide) rfl (Nat.le_of_ble_eq_true rfl) ⟨Nat.zero_le _, Nat.zero_le _⟩ rfl k100 (T_X4_fails (G := G) hw k100 hr q19) ?_
          obtain ⟨c22, h⟩ := x_ck h
          obtain ⟨rfl, rfl⟩ := Prod.mk.inj (x_so h)
          exact x_zret dX4_readsNumber_67 rfl (xz_or c22) rfl rfl
    · refine x_icmp_lt_f (tgt := 29) dX4_readsNumber_19 (by decide) c6 ?_
      refine x_aload_n 0 dX4_readsNumber_22 rfl rfl ?_
      refine x_bipush (v := (-2)) dX4_readsNumber_23 rfl ?_
      obtain ⟨r24, N25, q23, h⟩ := x_bd2 h
      refine x_cv (b := a0) (As := [.int (-2)]) (ci := 4) (d' := 1) (zz := yX4_fails) dX4_readsNumber_25 ml_X4_61 wi_X4_fails wv_X4_fails wn_X4 wc_X4_fails hp_X4_fails (by decide) (by decide) rfl (Nat.le_of_ble_eq_true rfl) ⟨Nat.zero_le _, Nat.zero_le _⟩ rfl k100 (T_X4_fails (G := G) hw k100 hr q23) ?_
      obtain ⟨c26, h⟩ := x_ck h
      obtain ⟨rfl, rfl⟩ := Prod.mk.inj (x_so h)
      exact x_zret dX4_readsNumber_28 rfl (xz_or c26) rfl rfl
  · refine x_icmp_ne_t (tgt := 22) dX4_readsNumber_5 (by decide) c3 ?_
    refine x_aload_n 0 dX4_readsNumber_22 rfl rfl ?_
    refine x_bipush (v := (-2)) dX4_readsNumber_23 rfl ?_
    obtain ⟨r28, N29, q27, h⟩ := x_bd2 h
    refine x_cv (b := a0) (As := [.int (-2)]) (ci := 4) (d' := 1) (zz := yX4_fails) dX4_readsNumber_25 ml_X4_61 wi_X4_fails wv_X4_fails wn_X4 wc_X4_fails hp_X4_fails (by decide) (by decide) rfl (Nat.le_of_ble_eq_true rfl) ⟨Nat.zero_le _, Nat.zero_le _⟩ rfl k100 (T_X4_fails (G := G) hw k100 hr q27) ?_
    obtain ⟨c30, h⟩ := x_ck h
    obtain ⟨rfl, rfl⟩ := Prod.mk.inj (x_so h)
    exact x_zret dX4_readsNumber_28 rfl (xz_or c30) rfl rfl
set_option maxHeartbeats 4000000 in
set_option maxRecDepth 100000 in
theorem T_X4_readsHandler {G : XG} {Y : XY} (hw : WT Y) {a0 : Nat} {N : XN} (k100 : kc Y a0 = 14) (hr : WR Y a0) {r9 : Int32} {N9 : XN} (h : f_X4_readsHandler Y a0 N = some (r9, N9)) : Cl G yX4_readsHandler cX4_readsHandler 2 (some .boolean) (xR 3 0 0) [.ref a0] (.inl (some (.int r9))) Y N Y N9 := by
  refine x_entry (by decide) (Nat.le_of_ble_eq_true rfl) rfl ?_
  rw [f_X4_readsHandler] at h
  refine x_aload_n 0 dX4_readsHandler_0 rfl rfl ?_
  obtain ⟨g1, k2⟩ := hr.2
  refine x_getr dX4_readsHandler_1 vc_X4 xin4 fb_X4_3 fl_X4_15 xr_X4_3 k100 g1 ?_
  refine x_geti dX4_readsHandler_4 vc_X6 xin6 fb_X6_1 fl_X4_107 xr_X6_1 k2 ?_
  refine x_bipush (v := 6) dX4_readsHandler_7 rfl ?_
  rcases x_if h with ⟨c3, h⟩ | ⟨c3, h⟩
  · refine x_icmp_lt_t (tgt := 19) dX4_readsHandler_9 (by decide) c3 ?_
    refine x_aload_n 0 dX4_readsHandler_19 rfl rfl ?_
    refine x_dup dX4_readsHandler_20 rfl ?_
    refine x_geti dX4_readsHandler_21 vc_X4 xin4 fb_X4_4 fl_X4_24 xr_X4_4 k100 ?_
    refine x_iconst (v := 1) dX4_readsHandler_24 rfl ?_
    refine x_iadd dX4_readsHandler_25 ?_
    refine x_puti dX4_readsHandler_26 vc_X4 xin4 tyX4_ok nmX4 fb_X4_4 fl_X4_24 ff_X4_4 xr_X4_4 (nf_X4_4 _) (ft_X4_4 _) k100 ?_
    obtain ⟨N4, eN4, h⟩ := x_lt h
    refine x_nmN eN4 ?_
    refine x_aload_n 0 dX4_readsHandler_29 rfl rfl ?_
    refine x_iconst (v := 0) dX4_readsHandler_30 rfl ?_
    refine x_sipush (v := 9999) dX4_readsHandler_31 rfl ?_
    obtain ⟨r6, N7, q5, h⟩ := x_bd2 h
    refine x_cv (b := a0) (As := [.int 0, .int 9999]) (ci := 4) (d' := 2) (zz := yX4_readsNumber) dX4_readsHandler_34 ml_X4_88 wi_X4_readsNumber wv_X4_readsNumber wn_X4 wc_X4_readsNumber hp_X4_readsNumber (by decide) (by decide) rfl (Nat.le_of_ble_eq_true rfl) ⟨Nat.zero_le _, Nat.zero_le _⟩ rfl k100 (T_X4_readsNumber (G := G) hw k100 hr q5) ?_
    rcases x_if h with ⟨c8, h⟩ | ⟨c8, h⟩
    · refine x_if_ne_f (tgt := 42) dX4_readsHandler_37 (by decide) c8 ?_
      refine x_iconst (v := 0) dX4_readsHandler_40 rfl ?_
      obtain ⟨rfl, rfl⟩ := Prod.mk.inj (x_so h)
      exact x_zret dX4_readsHandler_41 rfl (by decide) rfl rfl
    · refine x_if_ne_t (tgt := 42) dX4_readsHandler_37 (by decide) c8 ?_
      refine x_aload_n 0 dX4_readsHandler_42 rfl rfl ?_
      refine x_geti dX4_readsHandler_43 vc_X4 xin4 fb_X4_5 fl_X4_67 xr_X4_5 k100 ?_
      refine x_istore_n (L' := [(0, .ref a0), (1, .int (gi N7 a0 5))]) [1, 0] dX4_readsHandler_46 rfl (by decide) rfl ?_
      refine x_aload_n 0 dX4_readsHandler_47 rfl rfl ?_
      refine x_iconst (v := 1) dX4_readsHandler_48 rfl ?_
      refine x_bipush (v := 20) dX4_readsHandler_49 rfl ?_
      obtain ⟨r10, N11, q9, h⟩ := x_bd2 h
      refine x_cv (b := a0) (As := [.int 1, .int 20]) (ci := 4) (d' := 2) (zz := yX4_readsNumber) dX4_readsHandler_51 ml_X4_88 wi_X4_readsNumber wv_X4_readsNumber wn_X4 wc_X4_readsNumber hp_X4_readsNumber (by decide) (by decide) rfl (Nat.le_of_ble_eq_true rfl) ⟨Nat.zero_le _, Nat.zero_le _⟩ rfl k100 (T_X4_readsNumber (G := G) hw k100 hr q9) ?_
      rcases x_if h with ⟨c12, h⟩ | ⟨c12, h⟩
      · refine x_if_ne_f (tgt := 59) dX4_readsHandler_54 (by decide) c12 ?_
        refine x_iconst (v := 0) dX4_readsHandler_57 rfl ?_
        obtain ⟨rfl, rfl⟩ := Prod.mk.inj (x_so h)
        exact x_zret dX4_readsHandler_58 rfl (by decide) rfl rfl
      · refine x_if_ne_t (tgt := 59) dX4_readsHandler_54 (by decide) c12 ?_
        refine x_aload_n 0 dX4_readsHandler_59 rfl rfl ?_
        refine x_getr dX4_readsHandler_60 vc_X4 xin4 fb_X4_3 fl_X4_15 xr_X4_3 k100 g1 ?_
        refine x_iload_n 1 dX4_readsHandler_63 rfl rfl ?_
        refine x_aload_n 0 dX4_readsHandler_64 rfl rfl ?_
        refine x_geti dX4_readsHandler_65 vc_X4 xin4 fb_X4_5 fl_X4_67 xr_X4_5 k100 ?_
        obtain ⟨N14, q13, h⟩ := x_bd1 h
        refine x_cv (b := (gp Y a0 3)) (As := [.int (gi N7 a0 5), .int (gi N11 a0 5)]) (ci := 6) (d' := 2) (zz := yX6_addHandler) dX4_readsHandler_68 ml_X4_110 wi_X6_addHandler wv_X6_addHandler wn_X6 wc_X6_addHandler hp_X6_addHandler (by decide) (by decide) rfl (Nat.le_of_ble_eq_true rfl) ⟨Nat.zero_le _, Nat.zero_le _⟩ rfl k2 (T_X6_addHandler (G := G) hw k2 q13) ?_
        refine x_iconst (v := 1) dX4_readsHandler_71 rfl ?_
        obtain ⟨rfl, rfl⟩ := Prod.mk.inj (x_so h)
        exact x_zret dX4_readsHandler_72 rfl (by decide) rfl rfl
  · refine x_icmp_lt_f (tgt := 19) dX4_readsHandler_9 (by decide) c3 ?_
    refine x_aload_n 0 dX4_readsHandler_12 rfl rfl ?_
    refine x_bipush (v := (-5)) dX4_readsHandler_13 rfl ?_
    obtain ⟨r16, N17, q15, h⟩ := x_bd2 h
    refine x_cv (b := a0) (As := [.int (-5)]) (ci := 4) (d' := 1) (zz := yX4_fails) dX4_readsHandler_15 ml_X4_61 wi_X4_fails wv_X4_fails wn_X4 wc_X4_fails hp_X4_fails (by decide) (by decide) rfl (Nat.le_of_ble_eq_true rfl) ⟨Nat.zero_le _, Nat.zero_le _⟩ rfl k100 (T_X4_fails (G := G) hw k100 hr q15) ?_
    obtain ⟨c18, h⟩ := x_ck h
    obtain ⟨rfl, rfl⟩ := Prod.mk.inj (x_so h)
    exact x_zret dX4_readsHandler_18 rfl (xz_or c18) rfl rfl
set_option maxHeartbeats 4000000 in
set_option maxRecDepth 100000 in
theorem T_X4_readsTenant {G : XG} {Y : XY} (hw : WT Y) {a0 : Nat} {a1 : Nat} {N : XN} (k100 : kc Y a0 = 14) (k101 : kc Y a1 = 12) (hr : WR Y a0) {r9 : Int32} {N9 : XN} (h : f_X4_readsTenant Y a0 a1 N = some (r9, N9)) : Cl G yX4_readsTenant cX4_readsTenant 4 (some .boolean) (xR 3 0 0) [.ref a0, .ref a1] (.inl (some (.int r9))) Y N Y N9 := by
  refine x_entry (by decide) (Nat.le_of_ble_eq_true rfl) rfl ?_
  rw [f_X4_readsTenant] at h
  refine x_aload_n 0 dX4_readsTenant_0 rfl rfl ?_
  refine x_geti dX4_readsTenant_1 vc_X4 xin4 fb_X4_4 fl_X4_24 xr_X4_4 k100 ?_
  refine x_istore_n (L' := [(0, .ref a0), (1, .ref a1), (2, .int (gi N a0 4))]) [1, 2, 0] dX4_readsTenant_4 rfl (by decide) rfl ?_
  refine x_aload_n 0 dX4_readsTenant_5 rfl rfl ?_
  refine x_iconst (v := 0) dX4_readsTenant_6 rfl ?_
  refine x_aload_n 0 dX4_readsTenant_7 rfl rfl ?_
  obtain ⟨g1, k2⟩ := hr.2
  refine x_getr dX4_readsTenant_8 vc_X4 xin4 fb_X4_3 fl_X4_15 xr_X4_3 k100 g1 ?_
  refine x_geti dX4_readsTenant_11 vc_X6 xin6 fb_X6_1 fl_X4_107 xr_X6_1 k2 ?_
  refine x_iconst (v := 1) dX4_readsTenant_14 rfl ?_
  refine x_isub dX4_readsTenant_15 ?_
  obtain ⟨r4, N5, q3, h⟩ := x_bd2 h
  refine x_cv (b := a0) (As := [.int 0, .int ((gi N (gp Y a0 3) 1) - 1)]) (ci := 4) (d' := 2) (zz := yX4_readsNumber) dX4_readsTenant_16 ml_X4_88 wi_X4_readsNumber wv_X4_readsNumber wn_X4 wc_X4_readsNumber hp_X4_readsNumber (by decide) (by decide) rfl (Nat.le_of_ble_eq_true rfl) ⟨Nat.zero_le _, Nat.zero_le _⟩ rfl k100 (T_X4_readsNumber (G := G) hw k100 hr q3) ?_
  rcases x_if h with ⟨c6, h⟩ | ⟨c6, h⟩
  · refine x_if_ne_f (tgt := 24) dX4_readsTenant_19 (by decide) c6 ?_
    refine x_iconst (v := 0) dX4_readsTenant_22 rfl ?_
    obtain ⟨rfl, rfl⟩ := Prod.mk.inj (x_so h)
    exact x_zret dX4_readsTenant_23 rfl (by decide) rfl rfl
  · refine x_if_ne_t (tgt := 24) dX4_readsTenant_19 (by decide) c6 ?_
    refine x_aload_n 1 dX4_readsTenant_24 rfl rfl ?_
    refine x_aload_n 0 dX4_readsTenant_25 rfl rfl ?_
    refine x_geti dX4_readsTenant_26 vc_X4 xin4 fb_X4_5 fl_X4_67 xr_X4_5 k100 ?_
    obtain ⟨r8, q7, h⟩ := x_bd1 h
    refine x_cv (b := a1) (As := [.int (gi N5 a0 5)]) (ci := 2) (d' := 1) (zz := yX2_placeOf) dX4_readsTenant_29 ml_X4_129 wi_X2_placeOf wv_X2_placeOf wn_X2 wc_X2_placeOf hp_X2_placeOf (by decide) (by decide) rfl (Nat.le_of_ble_eq_true rfl) ⟨Nat.zero_le _, Nat.zero_le _⟩ rfl k101 (T_X2_placeOf (G := G) hw k101 q7) ?_
    rcases x_if h with ⟨c9, h⟩ | ⟨c9, h⟩
    · refine x_if_lt_t (tgt := 39) dX4_readsTenant_32 (by decide) c9 ?_
      refine x_iconst (v := 0) dX4_readsTenant_39 rfl ?_
      refine x_istore_n (L' := [(0, .ref a0), (1, .ref a1), (2, .int (gi N a0 4)), (3, .int 0)]) [1, 2, 3, 0] dX4_readsTenant_40 rfl (by decide) rfl ?_
      refine x_iload_n 3 dX4_readsTenant_41 rfl rfl ?_
      refine x_if_ne_f (tgt := 53) dX4_readsTenant_42 (by decide) (by decide) ?_
      refine x_aload_n 1 dX4_readsTenant_45 rfl rfl ?_
      refine x_geti dX4_readsTenant_46 vc_X2 xin2 fb_X2_4 fl_X4_135 xr_X2_4 k101 ?_
      refine x_iconst (v := 3) dX4_readsTenant_49 rfl ?_
      rcases x_if h with ⟨c10, h⟩ | ⟨c10, h⟩
      · refine x_icmp_lt_t (tgt := 74) dX4_readsTenant_50 (by decide) c10 ?_
        refine x_aload_n 1 dX4_readsTenant_74 rfl rfl ?_
        refine x_aload_n 0 dX4_readsTenant_75 rfl rfl ?_
        refine x_geti dX4_readsTenant_76 vc_X4 xin4 fb_X4_5 fl_X4_67 xr_X4_5 k100 ?_
        obtain ⟨N12, q11, h⟩ := x_bd1 h
        refine x_cv (b := a1) (As := [.int (gi N5 a0 5)]) (ci := 2) (d' := 1) (zz := yX2_addTenant) dX4_readsTenant_79 ml_X4_138 wi_X2_addTenant wv_X2_addTenant wn_X2 wc_X2_addTenant hp_X2_addTenant (by decide) (by decide) rfl (Nat.le_of_ble_eq_true rfl) ⟨Nat.zero_le _, Nat.zero_le _⟩ rfl k101 (T_X2_addTenant (G := G) hw k101 q11) ?_
        refine x_iconst (v := 1) dX4_readsTenant_82 rfl ?_
        obtain ⟨rfl, rfl⟩ := Prod.mk.inj (x_so h)
        exact x_zret dX4_readsTenant_83 rfl (by decide) rfl rfl
      · refine x_icmp_lt_f (tgt := 74) dX4_readsTenant_50 (by decide) c10 ?_
        refine x_aload_n 0 dX4_readsTenant_53 rfl rfl ?_
        refine x_iload_n 2 dX4_readsTenant_54 rfl rfl ?_
        refine x_puti dX4_readsTenant_55 vc_X4 xin4 tyX4_ok nmX4 fb_X4_4 fl_X4_24 ff_X4_4 xr_X4_4 (nf_X4_4 _) (ft_X4_4 _) k100 ?_
        obtain ⟨N13, eN13, h⟩ := x_lt h
        refine x_nmN eN13 ?_
        refine x_aload_n 0 dX4_readsTenant_58 rfl rfl ?_
        refine x_iload_n 3 dX4_readsTenant_59 rfl rfl ?_
        refine x_if_eq_t (tgt := 68) dX4_readsTenant_60 (by decide) (by decide) ?_
        refine x_bipush (v := (-5)) dX4_readsTenant_68 rfl ?_
        obtain ⟨r15, N16, q14, h⟩ := x_bd2 h
        refine x_cv (b := a0) (As := [.int (-5)]) (ci := 4) (d' := 1) (zz := yX4_fails) dX4_readsTenant_70 ml_X4_61 wi_X4_fails wv_X4_fails wn_X4 wc_X4_fails hp_X4_fails (by decide) (by decide) rfl (Nat.le_of_ble_eq_true rfl) ⟨Nat.zero_le _, Nat.zero_le _⟩ rfl k100 (T_X4_fails (G := G) hw k100 hr q14) ?_
        obtain ⟨c17, h⟩ := x_ck h
        obtain ⟨rfl, rfl⟩ := Prod.mk.inj (x_so h)
        exact x_zret dX4_readsTenant_73 rfl (xz_or c17) rfl rfl
    · refine x_if_lt_f (tgt := 39) dX4_readsTenant_32 (by decide) c9 ?_
      refine x_iconst (v := 1) dX4_readsTenant_35 rfl ?_
      refine x_goto (tgt := 40) dX4_readsTenant_36 (by decide) ?_
      refine x_istore_n (L' := [(0, .ref a0), (1, .ref a1), (2, .int (gi N a0 4)), (3, .int 1)]) [1, 2, 3, 0] dX4_readsTenant_40 rfl (by decide) rfl ?_
      refine x_iload_n 3 dX4_readsTenant_41 rfl rfl ?_
      refine x_if_ne_t (tgt := 53) dX4_readsTenant_42 (by decide) (by decide) ?_
      refine x_aload_n 0 dX4_readsTenant_53 rfl rfl ?_
      refine x_iload_n 2 dX4_readsTenant_54 rfl rfl ?_
      refine x_puti dX4_readsTenant_55 vc_X4 xin4 tyX4_ok nmX4 fb_X4_4 fl_X4_24 ff_X4_4 xr_X4_4 (nf_X4_4 _) (ft_X4_4 _) k100 ?_
      obtain ⟨N18, eN18, h⟩ := x_lt h
      refine x_nmN eN18 ?_
      refine x_aload_n 0 dX4_readsTenant_58 rfl rfl ?_
      refine x_iload_n 3 dX4_readsTenant_59 rfl rfl ?_
      refine x_if_eq_f (tgt := 68) dX4_readsTenant_60 (by decide) (by decide) ?_
      refine x_bipush (v := (-4)) dX4_readsTenant_63 rfl ?_
      refine x_goto (tgt := 70) dX4_readsTenant_65 (by decide) ?_
      obtain ⟨r20, N21, q19, h⟩ := x_bd2 h
      refine x_cv (b := a0) (As := [.int (-4)]) (ci := 4) (d' := 1) (zz := yX4_fails) dX4_readsTenant_70 ml_X4_61 wi_X4_fails wv_X4_fails wn_X4 wc_X4_fails hp_X4_fails (by decide) (by decide) rfl (Nat.le_of_ble_eq_true rfl) ⟨Nat.zero_le _, Nat.zero_le _⟩ rfl k100 (T_X4_fails (G := G) hw k100 hr q19) ?_
      obtain ⟨c22, h⟩ := x_ck h
      obtain ⟨rfl, rfl⟩ := Prod.mk.inj (x_so h)
      exact x_zret dX4_readsTenant_73 rfl (xz_or c22) rfl rfl
set_option maxHeartbeats 4000000 in
set_option maxRecDepth 100000 in
theorem T_X4_readsLine_111 {G : XG} {Y : XY} (hw : WT Y) {r9 : Int32} {N9 : XN}: ∀ (D9 : Nat) (p_0 : Nat) (p_3 : Nat) (v_4 : Int32) (v_5 : Int32) (N : XN), kc Y p_0 = 14 → kc Y p_3 = 12 → WR Y p_0 → f_X4_readsLine_111 Y D9 p_0 p_3 v_4 v_5 N = some (r9, N9) → Ex G yX4_readsLine cX4_readsLine 6 (some .boolean) (xR 4 0 0) (.inl (some (.int r9))) Y N9 0 0 111 [(0, .ref p_0), (3, .ref p_3), (4, .int v_4), (5, .int v_5)] [] Y N := by
  intro D9
  induction D9 with
  | zero => intro p_0 p_3 v_4 v_5 N kk0 kk3 hr h; exact nomatch (show none = some _ from h)
  | succ D9 ih =>
    intro p_0 p_3 v_4 v_5 N kk0 kk3 hr h
    rw [f_X4_readsLine_111] at h
    refine x_iload 3 dX4_readsLine_111 rfl ?_
    refine x_sipush (v := 700) dX4_readsLine_113 rfl ?_
    rcases x_if h with ⟨c1, h⟩ | ⟨c1, h⟩
    · refine x_icmp_ge_t (tgt := 145) dX4_readsLine_116 (by decide) c1 ?_
      refine x_iload 2 dX4_readsLine_145 rfl ?_
      obtain ⟨c2, h⟩ := x_ck h
      obtain ⟨rfl, rfl⟩ := Prod.mk.inj (x_so h)
      exact x_zret dX4_readsLine_147 rfl (xz_or c2) rfl rfl
    · refine x_icmp_ge_f (tgt := 145) dX4_readsLine_116 (by decide) c1 ?_
      refine x_iload 2 dX4_readsLine_119 rfl ?_
      rcases x_if h with ⟨c3, h⟩ | ⟨c3, h⟩
      · refine x_if_eq_t (tgt := 145) dX4_readsLine_121 (by decide) c3 ?_
        refine x_iload 2 dX4_readsLine_145 rfl ?_
        obtain ⟨c4, h⟩ := x_ck h
        obtain ⟨rfl, rfl⟩ := Prod.mk.inj (x_so h)
        exact x_zret dX4_readsLine_147 rfl (xz_or c4) rfl rfl
      · refine x_if_eq_f (tgt := 145) dX4_readsLine_121 (by decide) c3 ?_
        refine x_aload_n 0 dX4_readsLine_124 rfl rfl ?_
        obtain ⟨r6, q5, h⟩ := x_bd1 h
        refine x_cv (b := p_0) (As := []) (ci := 4) (d' := 1) (zz := yX4_kind) dX4_readsLine_125 ml_X4_41 wi_X4_kind wv_X4_kind wn_X4 wc_X4_kind hp_X4_kind (by decide) (by decide) rfl (Nat.le_of_ble_eq_true rfl) ⟨Nat.zero_le _, Nat.zero_le _⟩ rfl kk0 (T_X4_kind (G := G) hw kk0 hr q5) ?_
        refine x_iconst (v := 2) dX4_readsLine_128 rfl ?_
        rcases x_if h with ⟨c7, h⟩ | ⟨c7, h⟩
        · refine x_icmp_ne_f (tgt := 145) dX4_readsLine_129 (by decide) c7 ?_
          refine x_aload_n 0 dX4_readsLine_132 rfl rfl ?_
          refine x_aload_n 1 dX4_readsLine_133 rfl rfl ?_
          obtain ⟨r9, N10, q8, h⟩ := x_bd2 h
          refine x_cv (b := p_0) (As := [.ref p_3]) (ci := 4) (d' := 3) (zz := yX4_readsTenant) dX4_readsLine_134 ml_X4_125 wi_X4_readsTenant wv_X4_readsTenant wn_X4 wc_X4_readsTenant hp_X4_readsTenant (by decide) (by decide) rfl (Nat.le_of_ble_eq_true rfl) ⟨Nat.zero_le _, Nat.zero_le _⟩ rfl kk0 (T_X4_readsTenant (G := G) hw kk0 kk3 hr q8) ?_
          refine x_istore (L' := [(0, .ref p_0), (3, .ref p_3), (4, .int r9), (5, .int v_5)]) [1, 2, 0, 3] dX4_readsLine_137 (by decide) rfl ?_
          refine x_iinc (L' := [(0, .ref p_0), (3, .ref p_3), (4, .int r9), (5, .int (v_5 + 1))]) 3 [1, 2, 3, 0] dX4_readsLine_139 rfl rfl (by decide) rfl ?_
          refine x_goto (tgt := 111) dX4_readsLine_142 (by decide) ?_
          exact ih p_0 p_3 r9 (v_5 + 1) N10 kk0 kk3 hr h
        · refine x_icmp_ne_t (tgt := 145) dX4_readsLine_129 (by decide) c7 ?_
          refine x_iload 2 dX4_readsLine_145 rfl ?_
          obtain ⟨c11, h⟩ := x_ck h
          obtain ⟨rfl, rfl⟩ := Prod.mk.inj (x_so h)
          exact x_zret dX4_readsLine_147 rfl (xz_or c11) rfl rfl
set_option maxHeartbeats 4000000 in
set_option maxRecDepth 100000 in
theorem T_X4_readsLine {G : XG} {Y : XY} (hw : WT Y) {a0 : Nat} {N : XN} (k100 : kc Y a0 = 14) (hr : WR Y a0) {r9 : Int32} {N9 : XN} (h : f_X4_readsLine Y a0 N = some (r9, N9)) : Cl G yX4_readsLine cX4_readsLine 6 (some .boolean) (xR 4 0 0) [.ref a0] (.inl (some (.int r9))) Y N Y N9 := by
  refine x_entry (by decide) (Nat.le_of_ble_eq_true rfl) rfl ?_
  rw [f_X4_readsLine] at h
  refine x_aload_n 0 dX4_readsLine_0 rfl rfl ?_
  obtain ⟨g1, k2⟩ := hr.2
  refine x_getr dX4_readsLine_1 vc_X4 xin4 fb_X4_3 fl_X4_15 xr_X4_3 k100 g1 ?_
  refine x_geti dX4_readsLine_4 vc_X6 xin6 fb_X6_3 fl_X4_114 xr_X6_3 k2 ?_
  refine x_bipush (v := 8) dX4_readsLine_7 rfl ?_
  rcases x_if h with ⟨c3, h⟩ | ⟨c3, h⟩
  · refine x_icmp_lt_t (tgt := 19) dX4_readsLine_9 (by decide) c3 ?_
    refine x_aload_n 0 dX4_readsLine_19 rfl rfl ?_
    refine x_dup dX4_readsLine_20 rfl ?_
    refine x_geti dX4_readsLine_21 vc_X4 xin4 fb_X4_4 fl_X4_24 xr_X4_4 k100 ?_
    refine x_iconst (v := 1) dX4_readsLine_24 rfl ?_
    refine x_iadd dX4_readsLine_25 ?_
    refine x_puti dX4_readsLine_26 vc_X4 xin4 tyX4_ok nmX4 fb_X4_4 fl_X4_24 ff_X4_4 xr_X4_4 (nf_X4_4 _) (ft_X4_4 _) k100 ?_
    obtain ⟨N4, eN4, h⟩ := x_lt h
    refine x_nmN eN4 ?_
    refine x_aload_n 0 dX4_readsLine_29 rfl rfl ?_
    refine x_iconst (v := 0) dX4_readsLine_30 rfl ?_
    refine x_bipush (v := 99) dX4_readsLine_31 rfl ?_
    obtain ⟨r6, N7, q5, h⟩ := x_bd2 h
    refine x_cv (b := a0) (As := [.int 0, .int 99]) (ci := 4) (d' := 2) (zz := yX4_readsNumber) dX4_readsLine_33 ml_X4_88 wi_X4_readsNumber wv_X4_readsNumber wn_X4 wc_X4_readsNumber hp_X4_readsNumber (by decide) (by decide) rfl (Nat.le_of_ble_eq_true rfl) ⟨Nat.zero_le _, Nat.zero_le _⟩ rfl k100 (T_X4_readsNumber (G := G) hw k100 hr q5) ?_
    rcases x_if h with ⟨c8, h⟩ | ⟨c8, h⟩
    · refine x_if_ne_f (tgt := 41) dX4_readsLine_36 (by decide) c8 ?_
      refine x_iconst (v := 0) dX4_readsLine_39 rfl ?_
      obtain ⟨rfl, rfl⟩ := Prod.mk.inj (x_so h)
      exact x_zret dX4_readsLine_40 rfl (by decide) rfl rfl
    · refine x_if_ne_t (tgt := 41) dX4_readsLine_36 (by decide) c8 ?_
      refine x_aload_n 0 dX4_readsLine_41 rfl rfl ?_
      refine x_geti dX4_readsLine_42 vc_X4 xin4 fb_X4_5 fl_X4_67 xr_X4_5 k100 ?_
      refine x_istore_n (L' := [(0, .ref a0), (1, .int (gi N7 a0 5))]) [1, 0] dX4_readsLine_45 rfl (by decide) rfl ?_
      refine x_aload_n 0 dX4_readsLine_46 rfl rfl ?_
      refine x_iconst (v := 1) dX4_readsLine_47 rfl ?_
      refine x_bipush (v := 20) dX4_readsLine_48 rfl ?_
      obtain ⟨r10, N11, q9, h⟩ := x_bd2 h
      refine x_cv (b := a0) (As := [.int 1, .int 20]) (ci := 4) (d' := 2) (zz := yX4_readsNumber) dX4_readsLine_50 ml_X4_88 wi_X4_readsNumber wv_X4_readsNumber wn_X4 wc_X4_readsNumber hp_X4_readsNumber (by decide) (by decide) rfl (Nat.le_of_ble_eq_true rfl) ⟨Nat.zero_le _, Nat.zero_le _⟩ rfl k100 (T_X4_readsNumber (G := G) hw k100 hr q9) ?_
      rcases x_if h with ⟨c12, h⟩ | ⟨c12, h⟩
      · refine x_if_ne_f (tgt := 58) dX4_readsLine_53 (by decide) c12 ?_
        refine x_iconst (v := 0) dX4_readsLine_56 rfl ?_
        obtain ⟨rfl, rfl⟩ := Prod.mk.inj (x_so h)
        exact x_zret dX4_readsLine_57 rfl (by decide) rfl rfl
      · refine x_if_ne_t (tgt := 58) dX4_readsLine_53 (by decide) c12 ?_
        refine x_aload_n 0 dX4_readsLine_58 rfl rfl ?_
        refine x_geti dX4_readsLine_59 vc_X4 xin4 fb_X4_5 fl_X4_67 xr_X4_5 k100 ?_
        refine x_istore_n (L' := [(0, .ref a0), (1, .int (gi N7 a0 5)), (2, .int (gi N11 a0 5))]) [1, 2, 0] dX4_readsLine_62 rfl (by decide) rfl ?_
        refine x_aload_n 0 dX4_readsLine_63 rfl rfl ?_
        refine x_iconst (v := 0) dX4_readsLine_64 rfl ?_
        refine x_sipush (v := 9999) dX4_readsLine_65 rfl ?_
        obtain ⟨r14, N15, q13, h⟩ := x_bd2 h
        refine x_cv (b := a0) (As := [.int 0, .int 9999]) (ci := 4) (d' := 2) (zz := yX4_readsNumber) dX4_readsLine_68 ml_X4_88 wi_X4_readsNumber wv_X4_readsNumber wn_X4 wc_X4_readsNumber hp_X4_readsNumber (by decide) (by decide) rfl (Nat.le_of_ble_eq_true rfl) ⟨Nat.zero_le _, Nat.zero_le _⟩ rfl k100 (T_X4_readsNumber (G := G) hw k100 hr q13) ?_
        rcases x_if h with ⟨c16, h⟩ | ⟨c16, h⟩
        · refine x_if_ne_f (tgt := 76) dX4_readsLine_71 (by decide) c16 ?_
          refine x_iconst (v := 0) dX4_readsLine_74 rfl ?_
          obtain ⟨rfl, rfl⟩ := Prod.mk.inj (x_so h)
          exact x_zret dX4_readsLine_75 rfl (by decide) rfl rfl
        · refine x_if_ne_t (tgt := 76) dX4_readsLine_71 (by decide) c16 ?_
          refine x_aload_n 0 dX4_readsLine_76 rfl rfl ?_
          refine x_getr dX4_readsLine_77 vc_X4 xin4 fb_X4_3 fl_X4_15 xr_X4_3 k100 g1 ?_
          obtain ⟨g17, k18, n19⟩ := wt_X6_2 hw k2
          refine x_getr dX4_readsLine_80 vc_X6 xin6 fb_X6_2 fl_X4_117 xr_X6_2 k2 g17 ?_
          refine x_aload_n 0 dX4_readsLine_83 rfl rfl ?_
          refine x_getr dX4_readsLine_84 vc_X4 xin4 fb_X4_3 fl_X4_15 xr_X4_3 k100 g1 ?_
          refine x_geti dX4_readsLine_87 vc_X6 xin6 fb_X6_3 fl_X4_114 xr_X6_3 k2 ?_
          obtain ⟨c20, h⟩ := x_ck h
          obtain ⟨g21, k22⟩ := wt_5 hw k18 (xb_at n19 c20)
          refine x_aald (j := 1) dX4_readsLine_90 (by decide) k18 (xb_at n19 c20) g21 ?_
          obtain ⟨p23, ep23, h⟩ := x_lt h
          refine x_nmr ep23 ?_
          have k24 := k22; rw [← ep23] at k24
          refine x_astore_n (L' := [(0, .ref a0), (1, .int (gi N7 a0 5)), (2, .int (gi N11 a0 5)), (3, .ref p23)]) [1, 2, 3, 0] dX4_readsLine_91 rfl (by decide) rfl ?_
          refine x_aload_n 0 dX4_readsLine_92 rfl rfl ?_
          refine x_getr dX4_readsLine_93 vc_X4 xin4 fb_X4_3 fl_X4_15 xr_X4_3 k100 g1 ?_
          refine x_iload_n 1 dX4_readsLine_96 rfl rfl ?_
          refine x_iload_n 2 dX4_readsLine_97 rfl rfl ?_
          refine x_aload_n 0 dX4_readsLine_98 rfl rfl ?_
          refine x_geti dX4_readsLine_99 vc_X4 xin4 fb_X4_5 fl_X4_67 xr_X4_5 k100 ?_
          obtain ⟨N26, q25, h⟩ := x_bd1 h
          refine x_cv (b := (gp Y a0 3)) (As := [.int (gi N7 a0 5), .int (gi N11 a0 5), .int (gi N15 a0 5)]) (ci := 6) (d' := 2) (zz := yX6_addLine) dX4_readsLine_102 ml_X4_121 wi_X6_addLine wv_X6_addLine wn_X6 wc_X6_addLine hp_X6_addLine (by decide) (by decide) rfl (Nat.le_of_ble_eq_true rfl) ⟨Nat.zero_le _, Nat.zero_le _⟩ rfl k2 (T_X6_addLine (G := G) hw k2 q25) ?_
          refine x_iconst (v := 1) dX4_readsLine_105 rfl ?_
          refine x_istore (L' := [(0, .ref a0), (3, .ref p23), (4, .int 1)]) [1, 4, 0] dX4_readsLine_106 (by decide) rfl ?_
          refine x_iconst (v := 0) dX4_readsLine_108 rfl ?_
          refine x_istore (L' := [(0, .ref a0), (3, .ref p23), (4, .int 1), (5, .int 0)]) [1, 2, 3, 0] dX4_readsLine_109 (by decide) rfl ?_
          exact T_X4_readsLine_111 (G := G) hw FU a0 p23 1 0 N26 k100 k24 hr h
  · refine x_icmp_lt_f (tgt := 19) dX4_readsLine_9 (by decide) c3 ?_
    refine x_aload_n 0 dX4_readsLine_12 rfl rfl ?_
    refine x_bipush (v := (-5)) dX4_readsLine_13 rfl ?_
    obtain ⟨r28, N29, q27, h⟩ := x_bd2 h
    refine x_cv (b := a0) (As := [.int (-5)]) (ci := 4) (d' := 1) (zz := yX4_fails) dX4_readsLine_15 ml_X4_61 wi_X4_fails wv_X4_fails wn_X4 wc_X4_fails hp_X4_fails (by decide) (by decide) rfl (Nat.le_of_ble_eq_true rfl) ⟨Nat.zero_le _, Nat.zero_le _⟩ rfl k100 (T_X4_fails (G := G) hw k100 hr q27) ?_
    obtain ⟨c30, h⟩ := x_ck h
    obtain ⟨rfl, rfl⟩ := Prod.mk.inj (x_so h)
    exact x_zret dX4_readsLine_18 rfl (xz_or c30) rfl rfl
set_option maxHeartbeats 4000000 in
set_option maxRecDepth 100000 in
theorem T_X4_readsRaise {G : XG} {Y : XY} (hw : WT Y) {a0 : Nat} {N : XN} (k100 : kc Y a0 = 14) (hr : WR Y a0) {r9 : Int32} {N9 : XN} (h : f_X4_readsRaise Y a0 N = some (r9, N9)) : Cl G yX4_readsRaise cX4_readsRaise 3 (some .boolean) (xR 3 0 0) [.ref a0] (.inl (some (.int r9))) Y N Y N9 := by
  refine x_entry (by decide) (Nat.le_of_ble_eq_true rfl) rfl ?_
  rw [f_X4_readsRaise] at h
  refine x_aload_n 0 dX4_readsRaise_0 rfl rfl ?_
  obtain ⟨g1, k2⟩ := hr.2
  refine x_getr dX4_readsRaise_1 vc_X4 xin4 fb_X4_3 fl_X4_15 xr_X4_3 k100 g1 ?_
  refine x_geti dX4_readsRaise_4 vc_X6 xin6 fb_X6_5 fl_X4_142 xr_X6_5 k2 ?_
  refine x_bipush (v := 60) dX4_readsRaise_7 rfl ?_
  rcases x_if h with ⟨c3, h⟩ | ⟨c3, h⟩
  · refine x_icmp_lt_t (tgt := 19) dX4_readsRaise_9 (by decide) c3 ?_
    refine x_aload_n 0 dX4_readsRaise_19 rfl rfl ?_
    refine x_dup dX4_readsRaise_20 rfl ?_
    refine x_geti dX4_readsRaise_21 vc_X4 xin4 fb_X4_4 fl_X4_24 xr_X4_4 k100 ?_
    refine x_iconst (v := 1) dX4_readsRaise_24 rfl ?_
    refine x_iadd dX4_readsRaise_25 ?_
    refine x_puti dX4_readsRaise_26 vc_X4 xin4 tyX4_ok nmX4 fb_X4_4 fl_X4_24 ff_X4_4 xr_X4_4 (nf_X4_4 _) (ft_X4_4 _) k100 ?_
    obtain ⟨N4, eN4, h⟩ := x_lt h
    refine x_nmN eN4 ?_
    refine x_aload_n 0 dX4_readsRaise_29 rfl rfl ?_
    refine x_iconst (v := 0) dX4_readsRaise_30 rfl ?_
    refine x_aload_n 0 dX4_readsRaise_31 rfl rfl ?_
    refine x_getr dX4_readsRaise_32 vc_X4 xin4 fb_X4_3 fl_X4_15 xr_X4_3 k100 g1 ?_
    refine x_geti dX4_readsRaise_35 vc_X6 xin6 fb_X6_3 fl_X4_114 xr_X6_3 k2 ?_
    refine x_iconst (v := 1) dX4_readsRaise_38 rfl ?_
    refine x_isub dX4_readsRaise_39 ?_
    obtain ⟨r6, N7, q5, h⟩ := x_bd2 h
    refine x_cv (b := a0) (As := [.int 0, .int ((gi N4 (gp Y a0 3) 3) - 1)]) (ci := 4) (d' := 2) (zz := yX4_readsNumber) dX4_readsRaise_40 ml_X4_88 wi_X4_readsNumber wv_X4_readsNumber wn_X4 wc_X4_readsNumber hp_X4_readsNumber (by decide) (by decide) rfl (Nat.le_of_ble_eq_true rfl) ⟨Nat.zero_le _, Nat.zero_le _⟩ rfl k100 (T_X4_readsNumber (G := G) hw k100 hr q5) ?_
    rcases x_if h with ⟨c8, h⟩ | ⟨c8, h⟩
    · refine x_if_ne_f (tgt := 48) dX4_readsRaise_43 (by decide) c8 ?_
      refine x_iconst (v := 0) dX4_readsRaise_46 rfl ?_
      obtain ⟨rfl, rfl⟩ := Prod.mk.inj (x_so h)
      exact x_zret dX4_readsRaise_47 rfl (by decide) rfl rfl
    · refine x_if_ne_t (tgt := 48) dX4_readsRaise_43 (by decide) c8 ?_
      refine x_aload_n 0 dX4_readsRaise_48 rfl rfl ?_
      refine x_geti dX4_readsRaise_49 vc_X4 xin4 fb_X4_5 fl_X4_67 xr_X4_5 k100 ?_
      refine x_istore_n (L' := [(0, .ref a0), (1, .int (gi N7 a0 5))]) [1, 0] dX4_readsRaise_52 rfl (by decide) rfl ?_
      refine x_aload_n 0 dX4_readsRaise_53 rfl rfl ?_
      refine x_iconst (v := 0) dX4_readsRaise_54 rfl ?_
      refine x_sipush (v := 999) dX4_readsRaise_55 rfl ?_
      obtain ⟨r10, N11, q9, h⟩ := x_bd2 h
      refine x_cv (b := a0) (As := [.int 0, .int 999]) (ci := 4) (d' := 2) (zz := yX4_readsNumber) dX4_readsRaise_58 ml_X4_88 wi_X4_readsNumber wv_X4_readsNumber wn_X4 wc_X4_readsNumber hp_X4_readsNumber (by decide) (by decide) rfl (Nat.le_of_ble_eq_true rfl) ⟨Nat.zero_le _, Nat.zero_le _⟩ rfl k100 (T_X4_readsNumber (G := G) hw k100 hr q9) ?_
      rcases x_if h with ⟨c12, h⟩ | ⟨c12, h⟩
      · refine x_if_ne_f (tgt := 66) dX4_readsRaise_61 (by decide) c12 ?_
        refine x_iconst (v := 0) dX4_readsRaise_64 rfl ?_
        obtain ⟨rfl, rfl⟩ := Prod.mk.inj (x_so h)
        exact x_zret dX4_readsRaise_65 rfl (by decide) rfl rfl
      · refine x_if_ne_t (tgt := 66) dX4_readsRaise_61 (by decide) c12 ?_
        refine x_aload_n 0 dX4_readsRaise_66 rfl rfl ?_
        refine x_geti dX4_readsRaise_67 vc_X4 xin4 fb_X4_5 fl_X4_67 xr_X4_5 k100 ?_
        refine x_istore_n (L' := [(0, .ref a0), (1, .int (gi N7 a0 5)), (2, .int (gi N11 a0 5))]) [1, 2, 0] dX4_readsRaise_70 rfl (by decide) rfl ?_
        refine x_aload_n 0 dX4_readsRaise_71 rfl rfl ?_
        refine x_iconst (v := 1) dX4_readsRaise_72 rfl ?_
        refine x_bipush (v := 99) dX4_readsRaise_73 rfl ?_
        obtain ⟨r14, N15, q13, h⟩ := x_bd2 h
        refine x_cv (b := a0) (As := [.int 1, .int 99]) (ci := 4) (d' := 2) (zz := yX4_readsNumber) dX4_readsRaise_75 ml_X4_88 wi_X4_readsNumber wv_X4_readsNumber wn_X4 wc_X4_readsNumber hp_X4_readsNumber (by decide) (by decide) rfl (Nat.le_of_ble_eq_true rfl) ⟨Nat.zero_le _, Nat.zero_le _⟩ rfl k100 (T_X4_readsNumber (G := G) hw k100 hr q13) ?_
        rcases x_if h with ⟨c16, h⟩ | ⟨c16, h⟩
        · refine x_if_ne_f (tgt := 83) dX4_readsRaise_78 (by decide) c16 ?_
          refine x_iconst (v := 0) dX4_readsRaise_81 rfl ?_
          obtain ⟨rfl, rfl⟩ := Prod.mk.inj (x_so h)
          exact x_zret dX4_readsRaise_82 rfl (by decide) rfl rfl
        · refine x_if_ne_t (tgt := 83) dX4_readsRaise_78 (by decide) c16 ?_
          refine x_aload_n 0 dX4_readsRaise_83 rfl rfl ?_
          refine x_getr dX4_readsRaise_84 vc_X4 xin4 fb_X4_3 fl_X4_15 xr_X4_3 k100 g1 ?_
          refine x_iload_n 1 dX4_readsRaise_87 rfl rfl ?_
          refine x_iload_n 2 dX4_readsRaise_88 rfl rfl ?_
          refine x_aload_n 0 dX4_readsRaise_89 rfl rfl ?_
          refine x_geti dX4_readsRaise_90 vc_X4 xin4 fb_X4_5 fl_X4_67 xr_X4_5 k100 ?_
          obtain ⟨N18, q17, h⟩ := x_bd1 h
          refine x_cv (b := (gp Y a0 3)) (As := [.int (gi N7 a0 5), .int (gi N11 a0 5), .int (gi N15 a0 5)]) (ci := 6) (d' := 2) (zz := yX6_addRequest) dX4_readsRaise_93 ml_X4_145 wi_X6_addRequest wv_X6_addRequest wn_X6 wc_X6_addRequest hp_X6_addRequest (by decide) (by decide) rfl (Nat.le_of_ble_eq_true rfl) ⟨Nat.zero_le _, Nat.zero_le _⟩ rfl k2 (T_X6_addRequest (G := G) hw k2 q17) ?_
          refine x_iconst (v := 1) dX4_readsRaise_96 rfl ?_
          obtain ⟨rfl, rfl⟩ := Prod.mk.inj (x_so h)
          exact x_zret dX4_readsRaise_97 rfl (by decide) rfl rfl
  · refine x_icmp_lt_f (tgt := 19) dX4_readsRaise_9 (by decide) c3 ?_
    refine x_aload_n 0 dX4_readsRaise_12 rfl rfl ?_
    refine x_bipush (v := (-5)) dX4_readsRaise_13 rfl ?_
    obtain ⟨r20, N21, q19, h⟩ := x_bd2 h
    refine x_cv (b := a0) (As := [.int (-5)]) (ci := 4) (d' := 1) (zz := yX4_fails) dX4_readsRaise_15 ml_X4_61 wi_X4_fails wv_X4_fails wn_X4 wc_X4_fails hp_X4_fails (by decide) (by decide) rfl (Nat.le_of_ble_eq_true rfl) ⟨Nat.zero_le _, Nat.zero_le _⟩ rfl k100 (T_X4_fails (G := G) hw k100 hr q19) ?_
    obtain ⟨c22, h⟩ := x_ck h
    obtain ⟨rfl, rfl⟩ := Prod.mk.inj (x_so h)
    exact x_zret dX4_readsRaise_18 rfl (xz_or c22) rfl rfl
set_option maxHeartbeats 4000000 in
set_option maxRecDepth 100000 in
theorem T_X4_beginsOnce {G : XG} {Y : XY} (hw : WT Y) {a0 : Nat} {a1 : Int32} {N : XN} (k100 : kc Y a0 = 14) (hr : WR Y a0) {r9 : Int32} {N9 : XN} (h : f_X4_beginsOnce Y a0 a1 N = some (r9, N9)) : Cl G yX4_beginsOnce cX4_beginsOnce 2 (some .boolean) (xR 2 0 0) [.ref a0, .int a1] (.inl (some (.int r9))) Y N Y N9 := by
  refine x_entry (by decide) (Nat.le_of_ble_eq_true rfl) rfl ?_
  rw [f_X4_beginsOnce] at h
  refine x_aload_n 0 dX4_beginsOnce_0 rfl rfl ?_
  refine x_geti dX4_beginsOnce_1 vc_X4 xin4 fb_X4_6 fl_X4_28 xr_X4_6 k100 ?_
  refine x_iconst (v := 1) dX4_beginsOnce_4 rfl ?_
  refine x_iload_n 1 dX4_beginsOnce_5 rfl rfl ?_
  refine x_ishl dX4_beginsOnce_6 ?_
  refine x_iand dX4_beginsOnce_7 ?_
  rcases x_if h with ⟨c1, h⟩ | ⟨c1, h⟩
  · refine x_if_eq_t (tgt := 18) dX4_beginsOnce_8 (by decide) c1 ?_
    refine x_aload_n 0 dX4_beginsOnce_18 rfl rfl ?_
    refine x_dup dX4_beginsOnce_19 rfl ?_
    refine x_geti dX4_beginsOnce_20 vc_X4 xin4 fb_X4_6 fl_X4_28 xr_X4_6 k100 ?_
    refine x_iconst (v := 1) dX4_beginsOnce_23 rfl ?_
    refine x_iload_n 1 dX4_beginsOnce_24 rfl rfl ?_
    refine x_ishl dX4_beginsOnce_25 ?_
    refine x_ior dX4_beginsOnce_26 ?_
    refine x_puti dX4_beginsOnce_27 vc_X4 xin4 tyX4_ok nmX4 fb_X4_6 fl_X4_28 ff_X4_6 xr_X4_6 (nf_X4_6 _) (ft_X4_6 _) k100 ?_
    obtain ⟨N2, eN2, h⟩ := x_lt h
    refine x_nmN eN2 ?_
    refine x_aload_n 0 dX4_beginsOnce_30 rfl rfl ?_
    refine x_dup dX4_beginsOnce_31 rfl ?_
    refine x_geti dX4_beginsOnce_32 vc_X4 xin4 fb_X4_4 fl_X4_24 xr_X4_4 k100 ?_
    refine x_iconst (v := 1) dX4_beginsOnce_35 rfl ?_
    refine x_iadd dX4_beginsOnce_36 ?_
    refine x_puti dX4_beginsOnce_37 vc_X4 xin4 tyX4_ok nmX4 fb_X4_4 fl_X4_24 ff_X4_4 xr_X4_4 (nf_X4_4 _) (ft_X4_4 _) k100 ?_
    obtain ⟨N3, eN3, h⟩ := x_lt h
    refine x_nmN eN3 ?_
    refine x_iconst (v := 1) dX4_beginsOnce_40 rfl ?_
    obtain ⟨rfl, rfl⟩ := Prod.mk.inj (x_so h)
    exact x_zret dX4_beginsOnce_41 rfl (by decide) rfl rfl
  · refine x_if_eq_f (tgt := 18) dX4_beginsOnce_8 (by decide) c1 ?_
    refine x_aload_n 0 dX4_beginsOnce_11 rfl rfl ?_
    refine x_bipush (v := (-2)) dX4_beginsOnce_12 rfl ?_
    obtain ⟨r5, N6, q4, h⟩ := x_bd2 h
    refine x_cv (b := a0) (As := [.int (-2)]) (ci := 4) (d' := 1) (zz := yX4_fails) dX4_beginsOnce_14 ml_X4_61 wi_X4_fails wv_X4_fails wn_X4 wc_X4_fails hp_X4_fails (by decide) (by decide) rfl (Nat.le_of_ble_eq_true rfl) ⟨Nat.zero_le _, Nat.zero_le _⟩ rfl k100 (T_X4_fails (G := G) hw k100 hr q4) ?_
    obtain ⟨c7, h⟩ := x_ck h
    obtain ⟨rfl, rfl⟩ := Prod.mk.inj (x_so h)
    exact x_zret dX4_beginsOnce_17 rfl (xz_or c7) rfl rfl
set_option maxHeartbeats 4000000 in
set_option maxRecDepth 100000 in
theorem T_X4_readsRule {G : XG} {Y : XY} (hw : WT Y) {a0 : Nat} {a1 : Int32} {N : XN} (k100 : kc Y a0 = 14) (hr : WR Y a0) {r9 : Int32} {N9 : XN} (h : f_X4_readsRule Y a0 a1 N = some (r9, N9)) : Cl G yX4_readsRule cX4_readsRule 4 (some .boolean) (xR 3 0 0) [.ref a0, .int a1] (.inl (some (.int r9))) Y N Y N9 := by
  refine x_entry (by decide) (Nat.le_of_ble_eq_true rfl) rfl ?_
  rw [f_X4_readsRule] at h
  refine x_iload_n 1 dX4_readsRule_0 rfl rfl ?_
  refine x_bipush (v := 16) dX4_readsRule_1 rfl ?_
  rcases x_if h with ⟨c1, h⟩ | ⟨c1, h⟩
  · refine x_icmp_eq_t (tgt := 12) dX4_readsRule_3 (by decide) c1 ?_
    refine x_iconst (v := 0) dX4_readsRule_12 rfl ?_
    refine x_goto (tgt := 17) dX4_readsRule_13 (by decide) ?_
    refine x_istore_n (L' := [(0, .ref a0), (1, .int a1), (2, .int 0)]) [1, 2, 0] dX4_readsRule_17 rfl (by decide) rfl ?_
    refine x_iload_n 1 dX4_readsRule_18 rfl rfl ?_
    refine x_bipush (v := 16) dX4_readsRule_19 rfl ?_
    rcases x_if h with ⟨c2, h⟩ | ⟨c2, h⟩
    · refine x_icmp_ne_f (tgt := 30) dX4_readsRule_21 (by decide) c2 ?_
      refine x_sipush (v := 999) dX4_readsRule_24 rfl ?_
      refine x_goto (tgt := 32) dX4_readsRule_27 (by decide) ?_
      refine x_istore_n (L' := [(0, .ref a0), (1, .int a1), (2, .int 0), (3, .int 999)]) [1, 2, 3, 0] dX4_readsRule_32 rfl (by decide) rfl ?_
      refine x_aload_n 0 dX4_readsRule_33 rfl rfl ?_
      refine x_iload_n 2 dX4_readsRule_34 rfl rfl ?_
      refine x_iload_n 3 dX4_readsRule_35 rfl rfl ?_
      obtain ⟨r4, N5, q3, h⟩ := x_bd2 h
      refine x_cv (b := a0) (As := [.int 0, .int 999]) (ci := 4) (d' := 2) (zz := yX4_readsNumber) dX4_readsRule_36 ml_X4_88 wi_X4_readsNumber wv_X4_readsNumber wn_X4 wc_X4_readsNumber hp_X4_readsNumber (by decide) (by decide) rfl (Nat.le_of_ble_eq_true rfl) ⟨Nat.zero_le _, Nat.zero_le _⟩ rfl k100 (T_X4_readsNumber (G := G) hw k100 hr q3) ?_
      rcases x_if h with ⟨c6, h⟩ | ⟨c6, h⟩
      · refine x_if_ne_f (tgt := 44) dX4_readsRule_39 (by decide) c6 ?_
        refine x_iconst (v := 0) dX4_readsRule_42 rfl ?_
        obtain ⟨rfl, rfl⟩ := Prod.mk.inj (x_so h)
        exact x_zret dX4_readsRule_43 rfl (by decide) rfl rfl
      · refine x_if_ne_t (tgt := 44) dX4_readsRule_39 (by decide) c6 ?_
        refine x_iload_n 1 dX4_readsRule_44 rfl rfl ?_
        refine x_bipush (v := 14) dX4_readsRule_45 rfl ?_
        rcases x_if h with ⟨c7, h⟩ | ⟨c7, h⟩
        · refine x_icmp_ne_f (tgt := 64) dX4_readsRule_47 (by decide) c7 ?_
          refine x_aload_n 0 dX4_readsRule_50 rfl rfl ?_
          obtain ⟨g8, k9⟩ := hr.2
          refine x_getr dX4_readsRule_51 vc_X4 xin4 fb_X4_3 fl_X4_15 xr_X4_3 k100 g8 ?_
          refine x_aload_n 0 dX4_readsRule_54 rfl rfl ?_
          refine x_geti dX4_readsRule_55 vc_X4 xin4 fb_X4_5 fl_X4_67 xr_X4_5 k100 ?_
          refine x_puti dX4_readsRule_58 vc_X6 xin6 tyX6_ok nmX6 fb_X6_8 fl_X4_92 ff_X6_8 xr_X6_8 (nf_X6_8 _) (ft_X6_8 _) k9 ?_
          obtain ⟨N10, eN10, h⟩ := x_lt h
          refine x_nmN eN10 ?_
          refine x_goto (tgt := 135) dX4_readsRule_61 (by decide) ?_
          refine x_iconst (v := 1) dX4_readsRule_135 rfl ?_
          obtain ⟨rfl, rfl⟩ := Prod.mk.inj (x_so h)
          exact x_zret dX4_readsRule_136 rfl (by decide) rfl rfl
        · refine x_icmp_ne_t (tgt := 64) dX4_readsRule_47 (by decide) c7 ?_
          refine x_iload_n 1 dX4_readsRule_64 rfl rfl ?_
          refine x_bipush (v := 15) dX4_readsRule_65 rfl ?_
          rcases x_if h with ⟨c11, h⟩ | ⟨c11, h⟩
          · refine x_icmp_ne_f (tgt := 84) dX4_readsRule_67 (by decide) c11 ?_
            refine x_aload_n 0 dX4_readsRule_70 rfl rfl ?_
            obtain ⟨g12, k13⟩ := hr.2
            refine x_getr dX4_readsRule_71 vc_X4 xin4 fb_X4_3 fl_X4_15 xr_X4_3 k100 g12 ?_
            refine x_aload_n 0 dX4_readsRule_74 rfl rfl ?_
            refine x_geti dX4_readsRule_75 vc_X4 xin4 fb_X4_5 fl_X4_67 xr_X4_5 k100 ?_
            refine x_puti dX4_readsRule_78 vc_X6 xin6 tyX6_ok nmX6 fb_X6_9 fl_X4_95 ff_X6_9 xr_X6_9 (nf_X6_9 _) (ft_X6_9 _) k13 ?_
            obtain ⟨N14, eN14, h⟩ := x_lt h
            refine x_nmN eN14 ?_
            refine x_goto (tgt := 135) dX4_readsRule_81 (by decide) ?_
            refine x_iconst (v := 1) dX4_readsRule_135 rfl ?_
            obtain ⟨rfl, rfl⟩ := Prod.mk.inj (x_so h)
            exact x_zret dX4_readsRule_136 rfl (by decide) rfl rfl
          · refine x_icmp_ne_t (tgt := 84) dX4_readsRule_67 (by decide) c11 ?_
            refine x_iload_n 1 dX4_readsRule_84 rfl rfl ?_
            refine x_bipush (v := 16) dX4_readsRule_85 rfl ?_
            rcases x_if h with ⟨c15, h⟩ | ⟨c15, h⟩
            · refine x_icmp_ne_f (tgt := 104) dX4_readsRule_87 (by decide) c15 ?_
              refine x_aload_n 0 dX4_readsRule_90 rfl rfl ?_
              obtain ⟨g16, k17⟩ := hr.2
              refine x_getr dX4_readsRule_91 vc_X4 xin4 fb_X4_3 fl_X4_15 xr_X4_3 k100 g16 ?_
              refine x_aload_n 0 dX4_readsRule_94 rfl rfl ?_
              refine x_geti dX4_readsRule_95 vc_X4 xin4 fb_X4_5 fl_X4_67 xr_X4_5 k100 ?_
              refine x_puti dX4_readsRule_98 vc_X6 xin6 tyX6_ok nmX6 fb_X6_10 fl_X4_98 ff_X6_10 xr_X6_10 (nf_X6_10 _) (ft_X6_10 _) k17 ?_
              obtain ⟨N18, eN18, h⟩ := x_lt h
              refine x_nmN eN18 ?_
              refine x_goto (tgt := 135) dX4_readsRule_101 (by decide) ?_
              refine x_iconst (v := 1) dX4_readsRule_135 rfl ?_
              obtain ⟨rfl, rfl⟩ := Prod.mk.inj (x_so h)
              exact x_zret dX4_readsRule_136 rfl (by decide) rfl rfl
            · refine x_icmp_ne_t (tgt := 104) dX4_readsRule_87 (by decide) c15 ?_
              refine x_iload_n 1 dX4_readsRule_104 rfl rfl ?_
              refine x_bipush (v := 17) dX4_readsRule_105 rfl ?_
              rcases x_if h with ⟨c19, h⟩ | ⟨c19, h⟩
              · refine x_icmp_ne_f (tgt := 124) dX4_readsRule_107 (by decide) c19 ?_
                refine x_aload_n 0 dX4_readsRule_110 rfl rfl ?_
                obtain ⟨g20, k21⟩ := hr.2
                refine x_getr dX4_readsRule_111 vc_X4 xin4 fb_X4_3 fl_X4_15 xr_X4_3 k100 g20 ?_
                refine x_aload_n 0 dX4_readsRule_114 rfl rfl ?_
                refine x_geti dX4_readsRule_115 vc_X4 xin4 fb_X4_5 fl_X4_67 xr_X4_5 k100 ?_
                refine x_puti dX4_readsRule_118 vc_X6 xin6 tyX6_ok nmX6 fb_X6_11 fl_X4_101 ff_X6_11 xr_X6_11 (nf_X6_11 _) (ft_X6_11 _) k21 ?_
                obtain ⟨N22, eN22, h⟩ := x_lt h
                refine x_nmN eN22 ?_
                refine x_goto (tgt := 135) dX4_readsRule_121 (by decide) ?_
                refine x_iconst (v := 1) dX4_readsRule_135 rfl ?_
                obtain ⟨rfl, rfl⟩ := Prod.mk.inj (x_so h)
                exact x_zret dX4_readsRule_136 rfl (by decide) rfl rfl
              · refine x_icmp_ne_t (tgt := 124) dX4_readsRule_107 (by decide) c19 ?_
                refine x_aload_n 0 dX4_readsRule_124 rfl rfl ?_
                obtain ⟨g23, k24⟩ := hr.2
                refine x_getr dX4_readsRule_125 vc_X4 xin4 fb_X4_3 fl_X4_15 xr_X4_3 k100 g23 ?_
                refine x_aload_n 0 dX4_readsRule_128 rfl rfl ?_
                refine x_geti dX4_readsRule_129 vc_X4 xin4 fb_X4_5 fl_X4_67 xr_X4_5 k100 ?_
                refine x_puti dX4_readsRule_132 vc_X6 xin6 tyX6_ok nmX6 fb_X6_12 fl_X4_104 ff_X6_12 xr_X6_12 (nf_X6_12 _) (ft_X6_12 _) k24 ?_
                obtain ⟨N25, eN25, h⟩ := x_lt h
                refine x_nmN eN25 ?_
                refine x_iconst (v := 1) dX4_readsRule_135 rfl ?_
                obtain ⟨rfl, rfl⟩ := Prod.mk.inj (x_so h)
                exact x_zret dX4_readsRule_136 rfl (by decide) rfl rfl
    · refine x_icmp_ne_t (tgt := 30) dX4_readsRule_21 (by decide) c2 ?_
      refine x_bipush (v := 99) dX4_readsRule_30 rfl ?_
      refine x_istore_n (L' := [(0, .ref a0), (1, .int a1), (2, .int 0), (3, .int 99)]) [1, 2, 3, 0] dX4_readsRule_32 rfl (by decide) rfl ?_
      refine x_aload_n 0 dX4_readsRule_33 rfl rfl ?_
      refine x_iload_n 2 dX4_readsRule_34 rfl rfl ?_
      refine x_iload_n 3 dX4_readsRule_35 rfl rfl ?_
      obtain ⟨r27, N28, q26, h⟩ := x_bd2 h
      refine x_cv (b := a0) (As := [.int 0, .int 99]) (ci := 4) (d' := 2) (zz := yX4_readsNumber) dX4_readsRule_36 ml_X4_88 wi_X4_readsNumber wv_X4_readsNumber wn_X4 wc_X4_readsNumber hp_X4_readsNumber (by decide) (by decide) rfl (Nat.le_of_ble_eq_true rfl) ⟨Nat.zero_le _, Nat.zero_le _⟩ rfl k100 (T_X4_readsNumber (G := G) hw k100 hr q26) ?_
      rcases x_if h with ⟨c29, h⟩ | ⟨c29, h⟩
      · refine x_if_ne_f (tgt := 44) dX4_readsRule_39 (by decide) c29 ?_
        refine x_iconst (v := 0) dX4_readsRule_42 rfl ?_
        obtain ⟨rfl, rfl⟩ := Prod.mk.inj (x_so h)
        exact x_zret dX4_readsRule_43 rfl (by decide) rfl rfl
      · refine x_if_ne_t (tgt := 44) dX4_readsRule_39 (by decide) c29 ?_
        refine x_iload_n 1 dX4_readsRule_44 rfl rfl ?_
        refine x_bipush (v := 14) dX4_readsRule_45 rfl ?_
        rcases x_if h with ⟨c30, h⟩ | ⟨c30, h⟩
        · refine x_icmp_ne_f (tgt := 64) dX4_readsRule_47 (by decide) c30 ?_
          refine x_aload_n 0 dX4_readsRule_50 rfl rfl ?_
          obtain ⟨g31, k32⟩ := hr.2
          refine x_getr dX4_readsRule_51 vc_X4 xin4 fb_X4_3 fl_X4_15 xr_X4_3 k100 g31 ?_
          refine x_aload_n 0 dX4_readsRule_54 rfl rfl ?_
          refine x_geti dX4_readsRule_55 vc_X4 xin4 fb_X4_5 fl_X4_67 xr_X4_5 k100 ?_
          refine x_puti dX4_readsRule_58 vc_X6 xin6 tyX6_ok nmX6 fb_X6_8 fl_X4_92 ff_X6_8 xr_X6_8 (nf_X6_8 _) (ft_X6_8 _) k32 ?_
          obtain ⟨N33, eN33, h⟩ := x_lt h
          refine x_nmN eN33 ?_
          refine x_goto (tgt := 135) dX4_readsRule_61 (by decide) ?_
          refine x_iconst (v := 1) dX4_readsRule_135 rfl ?_
          obtain ⟨rfl, rfl⟩ := Prod.mk.inj (x_so h)
          exact x_zret dX4_readsRule_136 rfl (by decide) rfl rfl
        · refine x_icmp_ne_t (tgt := 64) dX4_readsRule_47 (by decide) c30 ?_
          refine x_iload_n 1 dX4_readsRule_64 rfl rfl ?_
          refine x_bipush (v := 15) dX4_readsRule_65 rfl ?_
          rcases x_if h with ⟨c34, h⟩ | ⟨c34, h⟩
          · refine x_icmp_ne_f (tgt := 84) dX4_readsRule_67 (by decide) c34 ?_
            refine x_aload_n 0 dX4_readsRule_70 rfl rfl ?_
            obtain ⟨g35, k36⟩ := hr.2
            refine x_getr dX4_readsRule_71 vc_X4 xin4 fb_X4_3 fl_X4_15 xr_X4_3 k100 g35 ?_
            refine x_aload_n 0 dX4_readsRule_74 rfl rfl ?_
            refine x_geti dX4_readsRule_75 vc_X4 xin4 fb_X4_5 fl_X4_67 xr_X4_5 k100 ?_
            refine x_puti dX4_readsRule_78 vc_X6 xin6 tyX6_ok nmX6 fb_X6_9 fl_X4_95 ff_X6_9 xr_X6_9 (nf_X6_9 _) (ft_X6_9 _) k36 ?_
            obtain ⟨N37, eN37, h⟩ := x_lt h
            refine x_nmN eN37 ?_
            refine x_goto (tgt := 135) dX4_readsRule_81 (by decide) ?_
            refine x_iconst (v := 1) dX4_readsRule_135 rfl ?_
            obtain ⟨rfl, rfl⟩ := Prod.mk.inj (x_so h)
            exact x_zret dX4_readsRule_136 rfl (by decide) rfl rfl
          · refine x_icmp_ne_t (tgt := 84) dX4_readsRule_67 (by decide) c34 ?_
            refine x_iload_n 1 dX4_readsRule_84 rfl rfl ?_
            refine x_bipush (v := 16) dX4_readsRule_85 rfl ?_
            rcases x_if h with ⟨c38, h⟩ | ⟨c38, h⟩
            · refine x_icmp_ne_f (tgt := 104) dX4_readsRule_87 (by decide) c38 ?_
              refine x_aload_n 0 dX4_readsRule_90 rfl rfl ?_
              obtain ⟨g39, k40⟩ := hr.2
              refine x_getr dX4_readsRule_91 vc_X4 xin4 fb_X4_3 fl_X4_15 xr_X4_3 k100 g39 ?_
              refine x_aload_n 0 dX4_readsRule_94 rfl rfl ?_
              refine x_geti dX4_readsRule_95 vc_X4 xin4 fb_X4_5 fl_X4_67 xr_X4_5 k100 ?_
              refine x_puti dX4_readsRule_98 vc_X6 xin6 tyX6_ok nmX6 fb_X6_10 fl_X4_98 ff_X6_10 xr_X6_10 (nf_X6_10 _) (ft_X6_10 _) k40 ?_
              obtain ⟨N41, eN41, h⟩ := x_lt h
              refine x_nmN eN41 ?_
              refine x_goto (tgt := 135) dX4_readsRule_101 (by decide) ?_
              refine x_iconst (v := 1) dX4_readsRule_135 rfl ?_
              obtain ⟨rfl, rfl⟩ := Prod.mk.inj (x_so h)
              exact x_zret dX4_readsRule_136 rfl (by decide) rfl rfl
            · refine x_icmp_ne_t (tgt := 104) dX4_readsRule_87 (by decide) c38 ?_
              refine x_iload_n 1 dX4_readsRule_104 rfl rfl ?_
              refine x_bipush (v := 17) dX4_readsRule_105 rfl ?_
              rcases x_if h with ⟨c42, h⟩ | ⟨c42, h⟩
              · refine x_icmp_ne_f (tgt := 124) dX4_readsRule_107 (by decide) c42 ?_
                refine x_aload_n 0 dX4_readsRule_110 rfl rfl ?_
                obtain ⟨g43, k44⟩ := hr.2
                refine x_getr dX4_readsRule_111 vc_X4 xin4 fb_X4_3 fl_X4_15 xr_X4_3 k100 g43 ?_
                refine x_aload_n 0 dX4_readsRule_114 rfl rfl ?_
                refine x_geti dX4_readsRule_115 vc_X4 xin4 fb_X4_5 fl_X4_67 xr_X4_5 k100 ?_
                refine x_puti dX4_readsRule_118 vc_X6 xin6 tyX6_ok nmX6 fb_X6_11 fl_X4_101 ff_X6_11 xr_X6_11 (nf_X6_11 _) (ft_X6_11 _) k44 ?_
                obtain ⟨N45, eN45, h⟩ := x_lt h
                refine x_nmN eN45 ?_
                refine x_goto (tgt := 135) dX4_readsRule_121 (by decide) ?_
                refine x_iconst (v := 1) dX4_readsRule_135 rfl ?_
                obtain ⟨rfl, rfl⟩ := Prod.mk.inj (x_so h)
                exact x_zret dX4_readsRule_136 rfl (by decide) rfl rfl
              · refine x_icmp_ne_t (tgt := 124) dX4_readsRule_107 (by decide) c42 ?_
                refine x_aload_n 0 dX4_readsRule_124 rfl rfl ?_
                obtain ⟨g46, k47⟩ := hr.2
                refine x_getr dX4_readsRule_125 vc_X4 xin4 fb_X4_3 fl_X4_15 xr_X4_3 k100 g46 ?_
                refine x_aload_n 0 dX4_readsRule_128 rfl rfl ?_
                refine x_geti dX4_readsRule_129 vc_X4 xin4 fb_X4_5 fl_X4_67 xr_X4_5 k100 ?_
                refine x_puti dX4_readsRule_132 vc_X6 xin6 tyX6_ok nmX6 fb_X6_12 fl_X4_104 ff_X6_12 xr_X6_12 (nf_X6_12 _) (ft_X6_12 _) k47 ?_
                obtain ⟨N48, eN48, h⟩ := x_lt h
                refine x_nmN eN48 ?_
                refine x_iconst (v := 1) dX4_readsRule_135 rfl ?_
                obtain ⟨rfl, rfl⟩ := Prod.mk.inj (x_so h)
                exact x_zret dX4_readsRule_136 rfl (by decide) rfl rfl
  · refine x_icmp_eq_f (tgt := 12) dX4_readsRule_3 (by decide) c1 ?_
    refine x_iload_n 1 dX4_readsRule_6 rfl rfl ?_
    refine x_bipush (v := 18) dX4_readsRule_7 rfl ?_
    rcases x_if h with ⟨c49, h⟩ | ⟨c49, h⟩
    · refine x_icmp_ne_f (tgt := 16) dX4_readsRule_9 (by decide) c49 ?_
      refine x_iconst (v := 0) dX4_readsRule_12 rfl ?_
      refine x_goto (tgt := 17) dX4_readsRule_13 (by decide) ?_
      refine x_istore_n (L' := [(0, .ref a0), (1, .int a1), (2, .int 0)]) [1, 2, 0] dX4_readsRule_17 rfl (by decide) rfl ?_
      refine x_iload_n 1 dX4_readsRule_18 rfl rfl ?_
      refine x_bipush (v := 16) dX4_readsRule_19 rfl ?_
      rcases x_if h with ⟨c50, h⟩ | ⟨c50, h⟩
      · refine x_icmp_ne_f (tgt := 30) dX4_readsRule_21 (by decide) c50 ?_
        refine x_sipush (v := 999) dX4_readsRule_24 rfl ?_
        refine x_goto (tgt := 32) dX4_readsRule_27 (by decide) ?_
        refine x_istore_n (L' := [(0, .ref a0), (1, .int a1), (2, .int 0), (3, .int 999)]) [1, 2, 3, 0] dX4_readsRule_32 rfl (by decide) rfl ?_
        refine x_aload_n 0 dX4_readsRule_33 rfl rfl ?_
        refine x_iload_n 2 dX4_readsRule_34 rfl rfl ?_
        refine x_iload_n 3 dX4_readsRule_35 rfl rfl ?_
        obtain ⟨r52, N53, q51, h⟩ := x_bd2 h
        refine x_cv (b := a0) (As := [.int 0, .int 999]) (ci := 4) (d' := 2) (zz := yX4_readsNumber) dX4_readsRule_36 ml_X4_88 wi_X4_readsNumber wv_X4_readsNumber wn_X4 wc_X4_readsNumber hp_X4_readsNumber (by decide) (by decide) rfl (Nat.le_of_ble_eq_true rfl) ⟨Nat.zero_le _, Nat.zero_le _⟩ rfl k100 (T_X4_readsNumber (G := G) hw k100 hr q51) ?_
        rcases x_if h with ⟨c54, h⟩ | ⟨c54, h⟩
        · refine x_if_ne_f (tgt := 44) dX4_readsRule_39 (by decide) c54 ?_
          refine x_iconst (v := 0) dX4_readsRule_42 rfl ?_
          obtain ⟨rfl, rfl⟩ := Prod.mk.inj (x_so h)
          exact x_zret dX4_readsRule_43 rfl (by decide) rfl rfl
        · refine x_if_ne_t (tgt := 44) dX4_readsRule_39 (by decide) c54 ?_
          refine x_iload_n 1 dX4_readsRule_44 rfl rfl ?_
          refine x_bipush (v := 14) dX4_readsRule_45 rfl ?_
          rcases x_if h with ⟨c55, h⟩ | ⟨c55, h⟩
          · refine x_icmp_ne_f (tgt := 64) dX4_readsRule_47 (by decide) c55 ?_
            refine x_aload_n 0 dX4_readsRule_50 rfl rfl ?_
            obtain ⟨g56, k57⟩ := hr.2
            refine x_getr dX4_readsRule_51 vc_X4 xin4 fb_X4_3 fl_X4_15 xr_X4_3 k100 g56 ?_
            refine x_aload_n 0 dX4_readsRule_54 rfl rfl ?_
            refine x_geti dX4_readsRule_55 vc_X4 xin4 fb_X4_5 fl_X4_67 xr_X4_5 k100 ?_
            refine x_puti dX4_readsRule_58 vc_X6 xin6 tyX6_ok nmX6 fb_X6_8 fl_X4_92 ff_X6_8 xr_X6_8 (nf_X6_8 _) (ft_X6_8 _) k57 ?_
            obtain ⟨N58, eN58, h⟩ := x_lt h
            refine x_nmN eN58 ?_
            refine x_goto (tgt := 135) dX4_readsRule_61 (by decide) ?_
            refine x_iconst (v := 1) dX4_readsRule_135 rfl ?_
            obtain ⟨rfl, rfl⟩ := Prod.mk.inj (x_so h)
            exact x_zret dX4_readsRule_136 rfl (by decide) rfl rfl
          · refine x_icmp_ne_t (tgt := 64) dX4_readsRule_47 (by decide) c55 ?_
            refine x_iload_n 1 dX4_readsRule_64 rfl rfl ?_
            refine x_bipush (v := 15) dX4_readsRule_65 rfl ?_
            rcases x_if h with ⟨c59, h⟩ | ⟨c59, h⟩
            · refine x_icmp_ne_f (tgt := 84) dX4_readsRule_67 (by decide) c59 ?_
              refine x_aload_n 0 dX4_readsRule_70 rfl rfl ?_
              obtain ⟨g60, k61⟩ := hr.2
              refine x_getr dX4_readsRule_71 vc_X4 xin4 fb_X4_3 fl_X4_15 xr_X4_3 k100 g60 ?_
              refine x_aload_n 0 dX4_readsRule_74 rfl rfl ?_
              refine x_geti dX4_readsRule_75 vc_X4 xin4 fb_X4_5 fl_X4_67 xr_X4_5 k100 ?_
              refine x_puti dX4_readsRule_78 vc_X6 xin6 tyX6_ok nmX6 fb_X6_9 fl_X4_95 ff_X6_9 xr_X6_9 (nf_X6_9 _) (ft_X6_9 _) k61 ?_
              obtain ⟨N62, eN62, h⟩ := x_lt h
              refine x_nmN eN62 ?_
              refine x_goto (tgt := 135) dX4_readsRule_81 (by decide) ?_
              refine x_iconst (v := 1) dX4_readsRule_135 rfl ?_
              obtain ⟨rfl, rfl⟩ := Prod.mk.inj (x_so h)
              exact x_zret dX4_readsRule_136 rfl (by decide) rfl rfl
            · refine x_icmp_ne_t (tgt := 84) dX4_readsRule_67 (by decide) c59 ?_
              refine x_iload_n 1 dX4_readsRule_84 rfl rfl ?_
              refine x_bipush (v := 16) dX4_readsRule_85 rfl ?_
              rcases x_if h with ⟨c63, h⟩ | ⟨c63, h⟩
              · refine x_icmp_ne_f (tgt := 104) dX4_readsRule_87 (by decide) c63 ?_
                refine x_aload_n 0 dX4_readsRule_90 rfl rfl ?_
                obtain ⟨g64, k65⟩ := hr.2
                refine x_getr dX4_readsRule_91 vc_X4 xin4 fb_X4_3 fl_X4_15 xr_X4_3 k100 g64 ?_
                refine x_aload_n 0 dX4_readsRule_94 rfl rfl ?_
                refine x_geti dX4_readsRule_95 vc_X4 xin4 fb_X4_5 fl_X4_67 xr_X4_5 k100 ?_
                refine x_puti dX4_readsRule_98 vc_X6 xin6 tyX6_ok nmX6 fb_X6_10 fl_X4_98 ff_X6_10 xr_X6_10 (nf_X6_10 _) (ft_X6_10 _) k65 ?_
                obtain ⟨N66, eN66, h⟩ := x_lt h
                refine x_nmN eN66 ?_
                refine x_goto (tgt := 135) dX4_readsRule_101 (by decide) ?_
                refine x_iconst (v := 1) dX4_readsRule_135 rfl ?_
                obtain ⟨rfl, rfl⟩ := Prod.mk.inj (x_so h)
                exact x_zret dX4_readsRule_136 rfl (by decide) rfl rfl
              · refine x_icmp_ne_t (tgt := 104) dX4_readsRule_87 (by decide) c63 ?_
                refine x_iload_n 1 dX4_readsRule_104 rfl rfl ?_
                refine x_bipush (v := 17) dX4_readsRule_105 rfl ?_
                rcases x_if h with ⟨c67, h⟩ | ⟨c67, h⟩
                · refine x_icmp_ne_f (tgt := 124) dX4_readsRule_107 (by decide) c67 ?_
                  refine x_aload_n 0 dX4_readsRule_110 rfl rfl ?_
                  obtain ⟨g68, k69⟩ := hr.2
                  refine x_getr dX4_readsRule_111 vc_X4 xin4 fb_X4_3 fl_X4_15 xr_X4_3 k100 g68 ?_
                  refine x_aload_n 0 dX4_readsRule_114 rfl rfl ?_
                  refine x_geti dX4_readsRule_115 vc_X4 xin4 fb_X4_5 fl_X4_67 xr_X4_5 k100 ?_
                  refine x_puti dX4_readsRule_118 vc_X6 xin6 tyX6_ok nmX6 fb_X6_11 fl_X4_101 ff_X6_11 xr_X6_11 (nf_X6_11 _) (ft_X6_11 _) k69 ?_
                  obtain ⟨N70, eN70, h⟩ := x_lt h
                  refine x_nmN eN70 ?_
                  refine x_goto (tgt := 135) dX4_readsRule_121 (by decide) ?_
                  refine x_iconst (v := 1) dX4_readsRule_135 rfl ?_
                  obtain ⟨rfl, rfl⟩ := Prod.mk.inj (x_so h)
                  exact x_zret dX4_readsRule_136 rfl (by decide) rfl rfl
                · refine x_icmp_ne_t (tgt := 124) dX4_readsRule_107 (by decide) c67 ?_
                  refine x_aload_n 0 dX4_readsRule_124 rfl rfl ?_
                  obtain ⟨g71, k72⟩ := hr.2
                  refine x_getr dX4_readsRule_125 vc_X4 xin4 fb_X4_3 fl_X4_15 xr_X4_3 k100 g71 ?_
                  refine x_aload_n 0 dX4_readsRule_128 rfl rfl ?_
                  refine x_geti dX4_readsRule_129 vc_X4 xin4 fb_X4_5 fl_X4_67 xr_X4_5 k100 ?_
                  refine x_puti dX4_readsRule_132 vc_X6 xin6 tyX6_ok nmX6 fb_X6_12 fl_X4_104 ff_X6_12 xr_X6_12 (nf_X6_12 _) (ft_X6_12 _) k72 ?_
                  obtain ⟨N73, eN73, h⟩ := x_lt h
                  refine x_nmN eN73 ?_
                  refine x_iconst (v := 1) dX4_readsRule_135 rfl ?_
                  obtain ⟨rfl, rfl⟩ := Prod.mk.inj (x_so h)
                  exact x_zret dX4_readsRule_136 rfl (by decide) rfl rfl
      · refine x_icmp_ne_t (tgt := 30) dX4_readsRule_21 (by decide) c50 ?_
        refine x_bipush (v := 99) dX4_readsRule_30 rfl ?_
        refine x_istore_n (L' := [(0, .ref a0), (1, .int a1), (2, .int 0), (3, .int 99)]) [1, 2, 3, 0] dX4_readsRule_32 rfl (by decide) rfl ?_
        refine x_aload_n 0 dX4_readsRule_33 rfl rfl ?_
        refine x_iload_n 2 dX4_readsRule_34 rfl rfl ?_
        refine x_iload_n 3 dX4_readsRule_35 rfl rfl ?_
        obtain ⟨r75, N76, q74, h⟩ := x_bd2 h
        refine x_cv (b := a0) (As := [.int 0, .int 99]) (ci := 4) (d' := 2) (zz := yX4_readsNumber) dX4_readsRule_36 ml_X4_88 wi_X4_readsNumber wv_X4_readsNumber wn_X4 wc_X4_readsNumber hp_X4_readsNumber (by decide) (by decide) rfl (Nat.le_of_ble_eq_true rfl) ⟨Nat.zero_le _, Nat.zero_le _⟩ rfl k100 (T_X4_readsNumber (G := G) hw k100 hr q74) ?_
        rcases x_if h with ⟨c77, h⟩ | ⟨c77, h⟩
        · refine x_if_ne_f (tgt := 44) dX4_readsRule_39 (by decide) c77 ?_
          refine x_iconst (v := 0) dX4_readsRule_42 rfl ?_
          obtain ⟨rfl, rfl⟩ := Prod.mk.inj (x_so h)
          exact x_zret dX4_readsRule_43 rfl (by decide) rfl rfl
        · refine x_if_ne_t (tgt := 44) dX4_readsRule_39 (by decide) c77 ?_
          refine x_iload_n 1 dX4_readsRule_44 rfl rfl ?_
          refine x_bipush (v := 14) dX4_readsRule_45 rfl ?_
          rcases x_if h with ⟨c78, h⟩ | ⟨c78, h⟩
          · refine x_icmp_ne_f (tgt := 64) dX4_readsRule_47 (by decide) c78 ?_
            refine x_aload_n 0 dX4_readsRule_50 rfl rfl ?_
            obtain ⟨g79, k80⟩ := hr.2
            refine x_getr dX4_readsRule_51 vc_X4 xin4 fb_X4_3 fl_X4_15 xr_X4_3 k100 g79 ?_
            refine x_aload_n 0 dX4_readsRule_54 rfl rfl ?_
            refine x_geti dX4_readsRule_55 vc_X4 xin4 fb_X4_5 fl_X4_67 xr_X4_5 k100 ?_
            refine x_puti dX4_readsRule_58 vc_X6 xin6 tyX6_ok nmX6 fb_X6_8 fl_X4_92 ff_X6_8 xr_X6_8 (nf_X6_8 _) (ft_X6_8 _) k80 ?_
            obtain ⟨N81, eN81, h⟩ := x_lt h
            refine x_nmN eN81 ?_
            refine x_goto (tgt := 135) dX4_readsRule_61 (by decide) ?_
            refine x_iconst (v := 1) dX4_readsRule_135 rfl ?_
            obtain ⟨rfl, rfl⟩ := Prod.mk.inj (x_so h)
            exact x_zret dX4_readsRule_136 rfl (by decide) rfl rfl
          · refine x_icmp_ne_t (tgt := 64) dX4_readsRule_47 (by decide) c78 ?_
            refine x_iload_n 1 dX4_readsRule_64 rfl rfl ?_
            refine x_bipush (v := 15) dX4_readsRule_65 rfl ?_
            rcases x_if h with ⟨c82, h⟩ | ⟨c82, h⟩
            · refine x_icmp_ne_f (tgt := 84) dX4_readsRule_67 (by decide) c82 ?_
              refine x_aload_n 0 dX4_readsRule_70 rfl rfl ?_
              obtain ⟨g83, k84⟩ := hr.2
              refine x_getr dX4_readsRule_71 vc_X4 xin4 fb_X4_3 fl_X4_15 xr_X4_3 k100 g83 ?_
              refine x_aload_n 0 dX4_readsRule_74 rfl rfl ?_
              refine x_geti dX4_readsRule_75 vc_X4 xin4 fb_X4_5 fl_X4_67 xr_X4_5 k100 ?_
              refine x_puti dX4_readsRule_78 vc_X6 xin6 tyX6_ok nmX6 fb_X6_9 fl_X4_95 ff_X6_9 xr_X6_9 (nf_X6_9 _) (ft_X6_9 _) k84 ?_
              obtain ⟨N85, eN85, h⟩ := x_lt h
              refine x_nmN eN85 ?_
              refine x_goto (tgt := 135) dX4_readsRule_81 (by decide) ?_
              refine x_iconst (v := 1) dX4_readsRule_135 rfl ?_
              obtain ⟨rfl, rfl⟩ := Prod.mk.inj (x_so h)
              exact x_zret dX4_readsRule_136 rfl (by decide) rfl rfl
            · refine x_icmp_ne_t (tgt := 84) dX4_readsRule_67 (by decide) c82 ?_
              refine x_iload_n 1 dX4_readsRule_84 rfl rfl ?_
              refine x_bipush (v := 16) dX4_readsRule_85 rfl ?_
              rcases x_if h with ⟨c86, h⟩ | ⟨c86, h⟩
              · refine x_icmp_ne_f (tgt := 104) dX4_readsRule_87 (by decide) c86 ?_
                refine x_aload_n 0 dX4_readsRule_90 rfl rfl ?_
                obtain ⟨g87, k88⟩ := hr.2
                refine x_getr dX4_readsRule_91 vc_X4 xin4 fb_X4_3 fl_X4_15 xr_X4_3 k100 g87 ?_
                refine x_aload_n 0 dX4_readsRule_94 rfl rfl ?_
                refine x_geti dX4_readsRule_95 vc_X4 xin4 fb_X4_5 fl_X4_67 xr_X4_5 k100 ?_
                refine x_puti dX4_readsRule_98 vc_X6 xin6 tyX6_ok nmX6 fb_X6_10 fl_X4_98 ff_X6_10 xr_X6_10 (nf_X6_10 _) (ft_X6_10 _) k88 ?_
                obtain ⟨N89, eN89, h⟩ := x_lt h
                refine x_nmN eN89 ?_
                refine x_goto (tgt := 135) dX4_readsRule_101 (by decide) ?_
                refine x_iconst (v := 1) dX4_readsRule_135 rfl ?_
                obtain ⟨rfl, rfl⟩ := Prod.mk.inj (x_so h)
                exact x_zret dX4_readsRule_136 rfl (by decide) rfl rfl
              · refine x_icmp_ne_t (tgt := 104) dX4_readsRule_87 (by decide) c86 ?_
                refine x_iload_n 1 dX4_readsRule_104 rfl rfl ?_
                refine x_bipush (v := 17) dX4_readsRule_105 rfl ?_
                rcases x_if h with ⟨c90, h⟩ | ⟨c90, h⟩
                · refine x_icmp_ne_f (tgt := 124) dX4_readsRule_107 (by decide) c90 ?_
                  refine x_aload_n 0 dX4_readsRule_110 rfl rfl ?_
                  obtain ⟨g91, k92⟩ := hr.2
                  refine x_getr dX4_readsRule_111 vc_X4 xin4 fb_X4_3 fl_X4_15 xr_X4_3 k100 g91 ?_
                  refine x_aload_n 0 dX4_readsRule_114 rfl rfl ?_
                  refine x_geti dX4_readsRule_115 vc_X4 xin4 fb_X4_5 fl_X4_67 xr_X4_5 k100 ?_
                  refine x_puti dX4_readsRule_118 vc_X6 xin6 tyX6_ok nmX6 fb_X6_11 fl_X4_101 ff_X6_11 xr_X6_11 (nf_X6_11 _) (ft_X6_11 _) k92 ?_
                  obtain ⟨N93, eN93, h⟩ := x_lt h
                  refine x_nmN eN93 ?_
                  refine x_goto (tgt := 135) dX4_readsRule_121 (by decide) ?_
                  refine x_iconst (v := 1) dX4_readsRule_135 rfl ?_
                  obtain ⟨rfl, rfl⟩ := Prod.mk.inj (x_so h)
                  exact x_zret dX4_readsRule_136 rfl (by decide) rfl rfl
                · refine x_icmp_ne_t (tgt := 124) dX4_readsRule_107 (by decide) c90 ?_
                  refine x_aload_n 0 dX4_readsRule_124 rfl rfl ?_
                  obtain ⟨g94, k95⟩ := hr.2
                  refine x_getr dX4_readsRule_125 vc_X4 xin4 fb_X4_3 fl_X4_15 xr_X4_3 k100 g94 ?_
                  refine x_aload_n 0 dX4_readsRule_128 rfl rfl ?_
                  refine x_geti dX4_readsRule_129 vc_X4 xin4 fb_X4_5 fl_X4_67 xr_X4_5 k100 ?_
                  refine x_puti dX4_readsRule_132 vc_X6 xin6 tyX6_ok nmX6 fb_X6_12 fl_X4_104 ff_X6_12 xr_X6_12 (nf_X6_12 _) (ft_X6_12 _) k95 ?_
                  obtain ⟨N96, eN96, h⟩ := x_lt h
                  refine x_nmN eN96 ?_
                  refine x_iconst (v := 1) dX4_readsRule_135 rfl ?_
                  obtain ⟨rfl, rfl⟩ := Prod.mk.inj (x_so h)
                  exact x_zret dX4_readsRule_136 rfl (by decide) rfl rfl
    · refine x_icmp_ne_t (tgt := 16) dX4_readsRule_9 (by decide) c49 ?_
      refine x_iconst (v := 1) dX4_readsRule_16 rfl ?_
      refine x_istore_n (L' := [(0, .ref a0), (1, .int a1), (2, .int 1)]) [1, 2, 0] dX4_readsRule_17 rfl (by decide) rfl ?_
      refine x_iload_n 1 dX4_readsRule_18 rfl rfl ?_
      refine x_bipush (v := 16) dX4_readsRule_19 rfl ?_
      rcases x_if h with ⟨c97, h⟩ | ⟨c97, h⟩
      · refine x_icmp_ne_f (tgt := 30) dX4_readsRule_21 (by decide) c97 ?_
        refine x_sipush (v := 999) dX4_readsRule_24 rfl ?_
        refine x_goto (tgt := 32) dX4_readsRule_27 (by decide) ?_
        refine x_istore_n (L' := [(0, .ref a0), (1, .int a1), (2, .int 1), (3, .int 999)]) [1, 2, 3, 0] dX4_readsRule_32 rfl (by decide) rfl ?_
        refine x_aload_n 0 dX4_readsRule_33 rfl rfl ?_
        refine x_iload_n 2 dX4_readsRule_34 rfl rfl ?_
        refine x_iload_n 3 dX4_readsRule_35 rfl rfl ?_
        obtain ⟨r99, N100, q98, h⟩ := x_bd2 h
        refine x_cv (b := a0) (As := [.int 1, .int 999]) (ci := 4) (d' := 2) (zz := yX4_readsNumber) dX4_readsRule_36 ml_X4_88 wi_X4_readsNumber wv_X4_readsNumber wn_X4 wc_X4_readsNumber hp_X4_readsNumber (by decide) (by decide) rfl (Nat.le_of_ble_eq_true rfl) ⟨Nat.zero_le _, Nat.zero_le _⟩ rfl k100 (T_X4_readsNumber (G := G) hw k100 hr q98) ?_
        rcases x_if h with ⟨c101, h⟩ | ⟨c101, h⟩
        · refine x_if_ne_f (tgt := 44) dX4_readsRule_39 (by decide) c101 ?_
          refine x_iconst (v := 0) dX4_readsRule_42 rfl ?_
          obtain ⟨rfl, rfl⟩ := Prod.mk.inj (x_so h)
          exact x_zret dX4_readsRule_43 rfl (by decide) rfl rfl
        · refine x_if_ne_t (tgt := 44) dX4_readsRule_39 (by decide) c101 ?_
          refine x_iload_n 1 dX4_readsRule_44 rfl rfl ?_
          refine x_bipush (v := 14) dX4_readsRule_45 rfl ?_
          rcases x_if h with ⟨c102, h⟩ | ⟨c102, h⟩
          · refine x_icmp_ne_f (tgt := 64) dX4_readsRule_47 (by decide) c102 ?_
            refine x_aload_n 0 dX4_readsRule_50 rfl rfl ?_
            obtain ⟨g103, k104⟩ := hr.2
            refine x_getr dX4_readsRule_51 vc_X4 xin4 fb_X4_3 fl_X4_15 xr_X4_3 k100 g103 ?_
            refine x_aload_n 0 dX4_readsRule_54 rfl rfl ?_
            refine x_geti dX4_readsRule_55 vc_X4 xin4 fb_X4_5 fl_X4_67 xr_X4_5 k100 ?_
            refine x_puti dX4_readsRule_58 vc_X6 xin6 tyX6_ok nmX6 fb_X6_8 fl_X4_92 ff_X6_8 xr_X6_8 (nf_X6_8 _) (ft_X6_8 _) k104 ?_
            obtain ⟨N105, eN105, h⟩ := x_lt h
            refine x_nmN eN105 ?_
            refine x_goto (tgt := 135) dX4_readsRule_61 (by decide) ?_
            refine x_iconst (v := 1) dX4_readsRule_135 rfl ?_
            obtain ⟨rfl, rfl⟩ := Prod.mk.inj (x_so h)
            exact x_zret dX4_readsRule_136 rfl (by decide) rfl rfl
          · refine x_icmp_ne_t (tgt := 64) dX4_readsRule_47 (by decide) c102 ?_
            refine x_iload_n 1 dX4_readsRule_64 rfl rfl ?_
            refine x_bipush (v := 15) dX4_readsRule_65 rfl ?_
            rcases x_if h with ⟨c106, h⟩ | ⟨c106, h⟩
            · refine x_icmp_ne_f (tgt := 84) dX4_readsRule_67 (by decide) c106 ?_
              refine x_aload_n 0 dX4_readsRule_70 rfl rfl ?_
              obtain ⟨g107, k108⟩ := hr.2
              refine x_getr dX4_readsRule_71 vc_X4 xin4 fb_X4_3 fl_X4_15 xr_X4_3 k100 g107 ?_
              refine x_aload_n 0 dX4_readsRule_74 rfl rfl ?_
              refine x_geti dX4_readsRule_75 vc_X4 xin4 fb_X4_5 fl_X4_67 xr_X4_5 k100 ?_
              refine x_puti dX4_readsRule_78 vc_X6 xin6 tyX6_ok nmX6 fb_X6_9 fl_X4_95 ff_X6_9 xr_X6_9 (nf_X6_9 _) (ft_X6_9 _) k108 ?_
              obtain ⟨N109, eN109, h⟩ := x_lt h
              refine x_nmN eN109 ?_
              refine x_goto (tgt := 135) dX4_readsRule_81 (by decide) ?_
              refine x_iconst (v := 1) dX4_readsRule_135 rfl ?_
              obtain ⟨rfl, rfl⟩ := Prod.mk.inj (x_so h)
              exact x_zret dX4_readsRule_136 rfl (by decide) rfl rfl
            · refine x_icmp_ne_t (tgt := 84) dX4_readsRule_67 (by decide) c106 ?_
              refine x_iload_n 1 dX4_readsRule_84 rfl rfl ?_
              refine x_bipush (v := 16) dX4_readsRule_85 rfl ?_
              rcases x_if h with ⟨c110, h⟩ | ⟨c110, h⟩
              · refine x_icmp_ne_f (tgt := 104) dX4_readsRule_87 (by decide) c110 ?_
                refine x_aload_n 0 dX4_readsRule_90 rfl rfl ?_
                obtain ⟨g111, k112⟩ := hr.2
                refine x_getr dX4_readsRule_91 vc_X4 xin4 fb_X4_3 fl_X4_15 xr_X4_3 k100 g111 ?_
                refine x_aload_n 0 dX4_readsRule_94 rfl rfl ?_
                refine x_geti dX4_readsRule_95 vc_X4 xin4 fb_X4_5 fl_X4_67 xr_X4_5 k100 ?_
                refine x_puti dX4_readsRule_98 vc_X6 xin6 tyX6_ok nmX6 fb_X6_10 fl_X4_98 ff_X6_10 xr_X6_10 (nf_X6_10 _) (ft_X6_10 _) k112 ?_
                obtain ⟨N113, eN113, h⟩ := x_lt h
                refine x_nmN eN113 ?_
                refine x_goto (tgt := 135) dX4_readsRule_101 (by decide) ?_
                refine x_iconst (v := 1) dX4_readsRule_135 rfl ?_
                obtain ⟨rfl, rfl⟩ := Prod.mk.inj (x_so h)
                exact x_zret dX4_readsRule_136 rfl (by decide) rfl rfl
              · refine x_icmp_ne_t (tgt := 104) dX4_readsRule_87 (by decide) c110 ?_
                refine x_iload_n 1 dX4_readsRule_104 rfl rfl ?_
                refine x_bipush (v := 17) dX4_readsRule_105 rfl ?_
                rcases x_if h with ⟨c114, h⟩ | ⟨c114, h⟩
                · refine x_icmp_ne_f (tgt := 124) dX4_readsRule_107 (by decide) c114 ?_
                  refine x_aload_n 0 dX4_readsRule_110 rfl rfl ?_
                  obtain ⟨g115, k116⟩ := hr.2
                  refine x_getr dX4_readsRule_111 vc_X4 xin4 fb_X4_3 fl_X4_15 xr_X4_3 k100 g115 ?_
                  refine x_aload_n 0 dX4_readsRule_114 rfl rfl ?_
                  refine x_geti dX4_readsRule_115 vc_X4 xin4 fb_X4_5 fl_X4_67 xr_X4_5 k100 ?_
                  refine x_puti dX4_readsRule_118 vc_X6 xin6 tyX6_ok nmX6 fb_X6_11 fl_X4_101 ff_X6_11 xr_X6_11 (nf_X6_11 _) (ft_X6_11 _) k116 ?_
                  obtain ⟨N117, eN117, h⟩ := x_lt h
                  refine x_nmN eN117 ?_
                  refine x_goto (tgt := 135) dX4_readsRule_121 (by decide) ?_
                  refine x_iconst (v := 1) dX4_readsRule_135 rfl ?_
                  obtain ⟨rfl, rfl⟩ := Prod.mk.inj (x_so h)
                  exact x_zret dX4_readsRule_136 rfl (by decide) rfl rfl
                · refine x_icmp_ne_t (tgt := 124) dX4_readsRule_107 (by decide) c114 ?_
                  refine x_aload_n 0 dX4_readsRule_124 rfl rfl ?_
                  obtain ⟨g118, k119⟩ := hr.2
                  refine x_getr dX4_readsRule_125 vc_X4 xin4 fb_X4_3 fl_X4_15 xr_X4_3 k100 g118 ?_
                  refine x_aload_n 0 dX4_readsRule_128 rfl rfl ?_
                  refine x_geti dX4_readsRule_129 vc_X4 xin4 fb_X4_5 fl_X4_67 xr_X4_5 k100 ?_
                  refine x_puti dX4_readsRule_132 vc_X6 xin6 tyX6_ok nmX6 fb_X6_12 fl_X4_104 ff_X6_12 xr_X6_12 (nf_X6_12 _) (ft_X6_12 _) k119 ?_
                  obtain ⟨N120, eN120, h⟩ := x_lt h
                  refine x_nmN eN120 ?_
                  refine x_iconst (v := 1) dX4_readsRule_135 rfl ?_
                  obtain ⟨rfl, rfl⟩ := Prod.mk.inj (x_so h)
                  exact x_zret dX4_readsRule_136 rfl (by decide) rfl rfl
      · refine x_icmp_ne_t (tgt := 30) dX4_readsRule_21 (by decide) c97 ?_
        refine x_bipush (v := 99) dX4_readsRule_30 rfl ?_
        refine x_istore_n (L' := [(0, .ref a0), (1, .int a1), (2, .int 1), (3, .int 99)]) [1, 2, 3, 0] dX4_readsRule_32 rfl (by decide) rfl ?_
        refine x_aload_n 0 dX4_readsRule_33 rfl rfl ?_
        refine x_iload_n 2 dX4_readsRule_34 rfl rfl ?_
        refine x_iload_n 3 dX4_readsRule_35 rfl rfl ?_
        obtain ⟨r122, N123, q121, h⟩ := x_bd2 h
        refine x_cv (b := a0) (As := [.int 1, .int 99]) (ci := 4) (d' := 2) (zz := yX4_readsNumber) dX4_readsRule_36 ml_X4_88 wi_X4_readsNumber wv_X4_readsNumber wn_X4 wc_X4_readsNumber hp_X4_readsNumber (by decide) (by decide) rfl (Nat.le_of_ble_eq_true rfl) ⟨Nat.zero_le _, Nat.zero_le _⟩ rfl k100 (T_X4_readsNumber (G := G) hw k100 hr q121) ?_
        rcases x_if h with ⟨c124, h⟩ | ⟨c124, h⟩
        · refine x_if_ne_f (tgt := 44) dX4_readsRule_39 (by decide) c124 ?_
          refine x_iconst (v := 0) dX4_readsRule_42 rfl ?_
          obtain ⟨rfl, rfl⟩ := Prod.mk.inj (x_so h)
          exact x_zret dX4_readsRule_43 rfl (by decide) rfl rfl
        · refine x_if_ne_t (tgt := 44) dX4_readsRule_39 (by decide) c124 ?_
          refine x_iload_n 1 dX4_readsRule_44 rfl rfl ?_
          refine x_bipush (v := 14) dX4_readsRule_45 rfl ?_
          rcases x_if h with ⟨c125, h⟩ | ⟨c125, h⟩
          · refine x_icmp_ne_f (tgt := 64) dX4_readsRule_47 (by decide) c125 ?_
            refine x_aload_n 0 dX4_readsRule_50 rfl rfl ?_
            obtain ⟨g126, k127⟩ := hr.2
            refine x_getr dX4_readsRule_51 vc_X4 xin4 fb_X4_3 fl_X4_15 xr_X4_3 k100 g126 ?_
            refine x_aload_n 0 dX4_readsRule_54 rfl rfl ?_
            refine x_geti dX4_readsRule_55 vc_X4 xin4 fb_X4_5 fl_X4_67 xr_X4_5 k100 ?_
            refine x_puti dX4_readsRule_58 vc_X6 xin6 tyX6_ok nmX6 fb_X6_8 fl_X4_92 ff_X6_8 xr_X6_8 (nf_X6_8 _) (ft_X6_8 _) k127 ?_
            obtain ⟨N128, eN128, h⟩ := x_lt h
            refine x_nmN eN128 ?_
            refine x_goto (tgt := 135) dX4_readsRule_61 (by decide) ?_
            refine x_iconst (v := 1) dX4_readsRule_135 rfl ?_
            obtain ⟨rfl, rfl⟩ := Prod.mk.inj (x_so h)
            exact x_zret dX4_readsRule_136 rfl (by decide) rfl rfl
          · refine x_icmp_ne_t (tgt := 64) dX4_readsRule_47 (by decide) c125 ?_
            refine x_iload_n 1 dX4_readsRule_64 rfl rfl ?_
            refine x_bipush (v := 15) dX4_readsRule_65 rfl ?_
            rcases x_if h with ⟨c129, h⟩ | ⟨c129, h⟩
            · refine x_icmp_ne_f (tgt := 84) dX4_readsRule_67 (by decide) c129 ?_
              refine x_aload_n 0 dX4_readsRule_70 rfl rfl ?_
              obtain ⟨g130, k131⟩ := hr.2
              refine x_getr dX4_readsRule_71 vc_X4 xin4 fb_X4_3 fl_X4_15 xr_X4_3 k100 g130 ?_
              refine x_aload_n 0 dX4_readsRule_74 rfl rfl ?_
              refine x_geti dX4_readsRule_75 vc_X4 xin4 fb_X4_5 fl_X4_67 xr_X4_5 k100 ?_
              refine x_puti dX4_readsRule_78 vc_X6 xin6 tyX6_ok nmX6 fb_X6_9 fl_X4_95 ff_X6_9 xr_X6_9 (nf_X6_9 _) (ft_X6_9 _) k131 ?_
              obtain ⟨N132, eN132, h⟩ := x_lt h
              refine x_nmN eN132 ?_
              refine x_goto (tgt := 135) dX4_readsRule_81 (by decide) ?_
              refine x_iconst (v := 1) dX4_readsRule_135 rfl ?_
              obtain ⟨rfl, rfl⟩ := Prod.mk.inj (x_so h)
              exact x_zret dX4_readsRule_136 rfl (by decide) rfl rfl
            · refine x_icmp_ne_t (tgt := 84) dX4_readsRule_67 (by decide) c129 ?_
              refine x_iload_n 1 dX4_readsRule_84 rfl rfl ?_
              refine x_bipush (v := 16) dX4_readsRule_85 rfl ?_
              rcases x_if h with ⟨c133, h⟩ | ⟨c133, h⟩
              · refine x_icmp_ne_f (tgt := 104) dX4_readsRule_87 (by decide) c133 ?_
                refine x_aload_n 0 dX4_readsRule_90 rfl rfl ?_
                obtain ⟨g134, k135⟩ := hr.2
                refine x_getr dX4_readsRule_91 vc_X4 xin4 fb_X4_3 fl_X4_15 xr_X4_3 k100 g134 ?_
                refine x_aload_n 0 dX4_readsRule_94 rfl rfl ?_
                refine x_geti dX4_readsRule_95 vc_X4 xin4 fb_X4_5 fl_X4_67 xr_X4_5 k100 ?_
                refine x_puti dX4_readsRule_98 vc_X6 xin6 tyX6_ok nmX6 fb_X6_10 fl_X4_98 ff_X6_10 xr_X6_10 (nf_X6_10 _) (ft_X6_10 _) k135 ?_
                obtain ⟨N136, eN136, h⟩ := x_lt h
                refine x_nmN eN136 ?_
                refine x_goto (tgt := 135) dX4_readsRule_101 (by decide) ?_
                refine x_iconst (v := 1) dX4_readsRule_135 rfl ?_
                obtain ⟨rfl, rfl⟩ := Prod.mk.inj (x_so h)
                exact x_zret dX4_readsRule_136 rfl (by decide) rfl rfl
              · refine x_icmp_ne_t (tgt := 104) dX4_readsRule_87 (by decide) c133 ?_
                refine x_iload_n 1 dX4_readsRule_104 rfl rfl ?_
                refine x_bipush (v := 17) dX4_readsRule_105 rfl ?_
                rcases x_if h with ⟨c137, h⟩ | ⟨c137, h⟩
                · refine x_icmp_ne_f (tgt := 124) dX4_readsRule_107 (by decide) c137 ?_
                  refine x_aload_n 0 dX4_readsRule_110 rfl rfl ?_
                  obtain ⟨g138, k139⟩ := hr.2
                  refine x_getr dX4_readsRule_111 vc_X4 xin4 fb_X4_3 fl_X4_15 xr_X4_3 k100 g138 ?_
                  refine x_aload_n 0 dX4_readsRule_114 rfl rfl ?_
                  refine x_geti dX4_readsRule_115 vc_X4 xin4 fb_X4_5 fl_X4_67 xr_X4_5 k100 ?_
                  refine x_puti dX4_readsRule_118 vc_X6 xin6 tyX6_ok nmX6 fb_X6_11 fl_X4_101 ff_X6_11 xr_X6_11 (nf_X6_11 _) (ft_X6_11 _) k139 ?_
                  obtain ⟨N140, eN140, h⟩ := x_lt h
                  refine x_nmN eN140 ?_
                  refine x_goto (tgt := 135) dX4_readsRule_121 (by decide) ?_
                  refine x_iconst (v := 1) dX4_readsRule_135 rfl ?_
                  obtain ⟨rfl, rfl⟩ := Prod.mk.inj (x_so h)
                  exact x_zret dX4_readsRule_136 rfl (by decide) rfl rfl
                · refine x_icmp_ne_t (tgt := 124) dX4_readsRule_107 (by decide) c137 ?_
                  refine x_aload_n 0 dX4_readsRule_124 rfl rfl ?_
                  obtain ⟨g141, k142⟩ := hr.2
                  refine x_getr dX4_readsRule_125 vc_X4 xin4 fb_X4_3 fl_X4_15 xr_X4_3 k100 g141 ?_
                  refine x_aload_n 0 dX4_readsRule_128 rfl rfl ?_
                  refine x_geti dX4_readsRule_129 vc_X4 xin4 fb_X4_5 fl_X4_67 xr_X4_5 k100 ?_
                  refine x_puti dX4_readsRule_132 vc_X6 xin6 tyX6_ok nmX6 fb_X6_12 fl_X4_104 ff_X6_12 xr_X6_12 (nf_X6_12 _) (ft_X6_12 _) k142 ?_
                  obtain ⟨N143, eN143, h⟩ := x_lt h
                  refine x_nmN eN143 ?_
                  refine x_iconst (v := 1) dX4_readsRule_135 rfl ?_
                  obtain ⟨rfl, rfl⟩ := Prod.mk.inj (x_so h)
                  exact x_zret dX4_readsRule_136 rfl (by decide) rfl rfl
set_option maxHeartbeats 4000000 in
set_option maxRecDepth 100000 in
theorem T_X4_readsSum_8 {G : XG} {Y : XY} (hw : WT Y) {D : Nat} {rc : Nat → Nat → Int32 → XN → Option (Int32 × XN)} (hrc_readsSum : ∀ {a0 : Nat} {a1 : Int32} {N : XN} {r9 : Int32} {N9 : XN}, kc Y a0 = 14 → WR Y a0 → rc 0 a0 a1 N = some (r9, N9) → Cl G yX4_readsSum cX4_readsSum 5 (some .boolean) (xR (3 + D) 0 0) [.ref a0, .int a1] (.inl (some (.int r9))) Y N Y N9) (hrc_readsTerm : ∀ {a0 : Nat} {a1 : Int32} {N : XN} {r9 : Int32} {N9 : XN}, kc Y a0 = 14 → WR Y a0 → rc 1 a0 a1 N = some (r9, N9) → Cl G yX4_readsTerm cX4_readsTerm 5 (some .boolean) (xR (3 + D) 0 0) [.ref a0, .int a1] (.inl (some (.int r9))) Y N Y N9) (hrc_readsFactor : ∀ {a0 : Nat} {a1 : Int32} {N : XN} {r9 : Int32} {N9 : XN}, kc Y a0 = 14 → WR Y a0 → rc 2 a0 a1 N = some (r9, N9) → Cl G yX4_readsFactor cX4_readsFactor 3 (some .boolean) (xR (3 + D) 0 0) [.ref a0, .int a1] (.inl (some (.int r9))) Y N Y N9) {r9 : Int32} {N9 : XN}: ∀ (D9 : Nat) (p_0 : Nat) (v_1 : Int32) (v_2 : Int32) (v_3 : Int32) (N : XN), kc Y p_0 = 14 → WR Y p_0 → f_X4_readsSum_8 Y rc D9 p_0 v_1 v_2 v_3 N = some (r9, N9) → Ex G yX4_readsSum cX4_readsSum 5 (some .boolean) (xR (3 + D + 1) 0 0) (.inl (some (.int r9))) Y N9 0 0 8 [(0, .ref p_0), (1, .int v_1), (2, .int v_2), (3, .int v_3)] [] Y N := by
  intro D9
  induction D9 with
  | zero => intro p_0 v_1 v_2 v_3 N kk0 hr h; exact nomatch (show none = some _ from h)
  | succ D9 ih =>
    intro p_0 v_1 v_2 v_3 N kk0 hr h
    rw [f_X4_readsSum_8] at h
    refine x_iload_n 3 dX4_readsSum_8 rfl rfl ?_
    refine x_sipush (v := 700) dX4_readsSum_9 rfl ?_
    rcases x_if h with ⟨c1, h⟩ | ⟨c1, h⟩
    · refine x_icmp_ge_t (tgt := 78) dX4_readsSum_12 (by decide) c1 ?_
      refine x_iload_n 2 dX4_readsSum_78 rfl rfl ?_
      obtain ⟨c2, h⟩ := x_ck h
      obtain ⟨rfl, rfl⟩ := Prod.mk.inj (x_so h)
      exact x_zret dX4_readsSum_79 rfl (xz_or c2) rfl rfl
    · refine x_icmp_ge_f (tgt := 78) dX4_readsSum_12 (by decide) c1 ?_
      refine x_iload_n 2 dX4_readsSum_15 rfl rfl ?_
      rcases x_if h with ⟨c3, h⟩ | ⟨c3, h⟩
      · refine x_if_eq_t (tgt := 78) dX4_readsSum_16 (by decide) c3 ?_
        refine x_iload_n 2 dX4_readsSum_78 rfl rfl ?_
        obtain ⟨c4, h⟩ := x_ck h
        obtain ⟨rfl, rfl⟩ := Prod.mk.inj (x_so h)
        exact x_zret dX4_readsSum_79 rfl (xz_or c4) rfl rfl
      · refine x_if_eq_f (tgt := 78) dX4_readsSum_16 (by decide) c3 ?_
        refine x_aload_n 0 dX4_readsSum_19 rfl rfl ?_
        obtain ⟨r6, q5, h⟩ := x_bd1 h
        refine x_cv (b := p_0) (As := []) (ci := 4) (d' := 1) (zz := yX4_kind) dX4_readsSum_20 ml_X4_41 wi_X4_kind wv_X4_kind wn_X4 wc_X4_kind hp_X4_kind (by omega) (by decide) rfl (Nat.le_of_ble_eq_true rfl) ⟨Nat.zero_le _, Nat.zero_le _⟩ rfl kk0 (T_X4_kind (G := G) hw kk0 hr q5) ?_
        refine x_bipush (v := 6) dX4_readsSum_23 rfl ?_
        rcases x_if h with ⟨c7, h⟩ | ⟨c7, h⟩
        · refine x_icmp_eq_t (tgt := 37) dX4_readsSum_25 (by decide) c7 ?_
          refine x_aload_n 0 dX4_readsSum_37 rfl rfl ?_
          obtain ⟨r9, q8, h⟩ := x_bd1 h
          refine x_cv (b := p_0) (As := []) (ci := 4) (d' := 1) (zz := yX4_kind) dX4_readsSum_38 ml_X4_41 wi_X4_kind wv_X4_kind wn_X4 wc_X4_kind hp_X4_kind (by omega) (by decide) rfl (Nat.le_of_ble_eq_true rfl) ⟨Nat.zero_le _, Nat.zero_le _⟩ rfl kk0 (T_X4_kind (G := G) hw kk0 hr q8) ?_
          refine x_istore (L' := [(0, .ref p_0), (1, .int v_1), (3, .int v_3), (4, .int r9)]) [1, 2, 4, 0] dX4_readsSum_41 (by decide) rfl ?_
          refine x_aload_n 0 dX4_readsSum_43 rfl rfl ?_
          refine x_dup dX4_readsSum_44 rfl ?_
          refine x_geti dX4_readsSum_45 vc_X4 xin4 fb_X4_4 fl_X4_24 xr_X4_4 kk0 ?_
          refine x_iconst (v := 1) dX4_readsSum_48 rfl ?_
          refine x_iadd dX4_readsSum_49 ?_
          refine x_puti dX4_readsSum_50 vc_X4 xin4 tyX4_ok nmX4 fb_X4_4 fl_X4_24 ff_X4_4 xr_X4_4 (nf_X4_4 _) (ft_X4_4 _) kk0 ?_
          obtain ⟨N10, eN10, h⟩ := x_lt h
          refine x_nmN eN10 ?_
          refine x_aload_n 0 dX4_readsSum_53 rfl rfl ?_
          refine x_iload_n 1 dX4_readsSum_54 rfl rfl ?_
          obtain ⟨r12, N13, q11, h⟩ := x_bd2 h
          refine x_cv (b := p_0) (As := [.int v_1]) (ci := 4) (d' := (3 + D)) (zz := yX4_readsTerm) dX4_readsSum_55 ml_X4_148 wi_X4_readsTerm wv_X4_readsTerm wn_X4 wc_X4_readsTerm hp_X4_readsTerm (by omega) (by decide) rfl (Nat.le_of_ble_eq_true rfl) ⟨Nat.zero_le _, Nat.zero_le _⟩ rfl kk0 (hrc_readsTerm kk0 hr q11) ?_
          refine x_istore_n (L' := [(0, .ref p_0), (1, .int v_1), (2, .int r12), (3, .int v_3), (4, .int r9)]) [1, 2, 0, 3, 4] dX4_readsSum_58 rfl (by decide) rfl ?_
          refine x_aload_n 0 dX4_readsSum_59 rfl rfl ?_
          obtain ⟨g14, k15⟩ := hr.2
          refine x_getr dX4_readsSum_60 vc_X4 xin4 fb_X4_3 fl_X4_15 xr_X4_3 kk0 g14 ?_
          obtain ⟨g16, k17⟩ := wt_X6_13 hw k15
          refine x_getr dX4_readsSum_63 vc_X6 xin6 fb_X6_13 fl_X4_151 xr_X6_13 k15 g16 ?_
          refine x_iload 4 dX4_readsSum_66 rfl ?_
          refine x_ineg dX4_readsSum_68 ?_
          obtain ⟨N19, q18, h⟩ := x_bd1 h
          refine x_cv (b := (gp Y (gp Y p_0 3) 13)) (As := [.int (-r9)]) (ci := 0) (d' := 1) (zz := yX0_addStep) dX4_readsSum_69 ml_X4_155 wi_X0_addStep wv_X0_addStep wn_X0 wc_X0_addStep hp_X0_addStep (by omega) (by decide) rfl (Nat.le_of_ble_eq_true rfl) ⟨Nat.zero_le _, Nat.zero_le _⟩ rfl k17 (T_X0_addStep (G := G) hw k17 q18) ?_
          refine x_iinc (L' := [(0, .ref p_0), (1, .int v_1), (2, .int r12), (3, .int (v_3 + 1))]) 3 [1, 2, 3, 0] dX4_readsSum_72 rfl rfl (by decide) rfl ?_
          refine x_goto (tgt := 8) dX4_readsSum_75 (by decide) ?_
          exact ih p_0 v_1 r12 (v_3 + 1) N19 kk0 hr h
        · refine x_icmp_eq_f (tgt := 37) dX4_readsSum_25 (by decide) c7 ?_
          refine x_aload_n 0 dX4_readsSum_28 rfl rfl ?_
          obtain ⟨r21, q20, h⟩ := x_bd1 h
          refine x_cv (b := p_0) (As := []) (ci := 4) (d' := 1) (zz := yX4_kind) dX4_readsSum_29 ml_X4_41 wi_X4_kind wv_X4_kind wn_X4 wc_X4_kind hp_X4_kind (by omega) (by decide) rfl (Nat.le_of_ble_eq_true rfl) ⟨Nat.zero_le _, Nat.zero_le _⟩ rfl kk0 (T_X4_kind (G := G) hw kk0 hr q20) ?_
          refine x_bipush (v := 7) dX4_readsSum_32 rfl ?_
          rcases x_if h with ⟨c22, h⟩ | ⟨c22, h⟩
          · refine x_icmp_ne_f (tgt := 78) dX4_readsSum_34 (by decide) c22 ?_
            refine x_aload_n 0 dX4_readsSum_37 rfl rfl ?_
            obtain ⟨r24, q23, h⟩ := x_bd1 h
            refine x_cv (b := p_0) (As := []) (ci := 4) (d' := 1) (zz := yX4_kind) dX4_readsSum_38 ml_X4_41 wi_X4_kind wv_X4_kind wn_X4 wc_X4_kind hp_X4_kind (by omega) (by decide) rfl (Nat.le_of_ble_eq_true rfl) ⟨Nat.zero_le _, Nat.zero_le _⟩ rfl kk0 (T_X4_kind (G := G) hw kk0 hr q23) ?_
            refine x_istore (L' := [(0, .ref p_0), (1, .int v_1), (3, .int v_3), (4, .int r24)]) [1, 2, 4, 0] dX4_readsSum_41 (by decide) rfl ?_
            refine x_aload_n 0 dX4_readsSum_43 rfl rfl ?_
            refine x_dup dX4_readsSum_44 rfl ?_
            refine x_geti dX4_readsSum_45 vc_X4 xin4 fb_X4_4 fl_X4_24 xr_X4_4 kk0 ?_
            refine x_iconst (v := 1) dX4_readsSum_48 rfl ?_
            refine x_iadd dX4_readsSum_49 ?_
            refine x_puti dX4_readsSum_50 vc_X4 xin4 tyX4_ok nmX4 fb_X4_4 fl_X4_24 ff_X4_4 xr_X4_4 (nf_X4_4 _) (ft_X4_4 _) kk0 ?_
            obtain ⟨N25, eN25, h⟩ := x_lt h
            refine x_nmN eN25 ?_
            refine x_aload_n 0 dX4_readsSum_53 rfl rfl ?_
            refine x_iload_n 1 dX4_readsSum_54 rfl rfl ?_
            obtain ⟨r27, N28, q26, h⟩ := x_bd2 h
            refine x_cv (b := p_0) (As := [.int v_1]) (ci := 4) (d' := (3 + D)) (zz := yX4_readsTerm) dX4_readsSum_55 ml_X4_148 wi_X4_readsTerm wv_X4_readsTerm wn_X4 wc_X4_readsTerm hp_X4_readsTerm (by omega) (by decide) rfl (Nat.le_of_ble_eq_true rfl) ⟨Nat.zero_le _, Nat.zero_le _⟩ rfl kk0 (hrc_readsTerm kk0 hr q26) ?_
            refine x_istore_n (L' := [(0, .ref p_0), (1, .int v_1), (2, .int r27), (3, .int v_3), (4, .int r24)]) [1, 2, 0, 3, 4] dX4_readsSum_58 rfl (by decide) rfl ?_
            refine x_aload_n 0 dX4_readsSum_59 rfl rfl ?_
            obtain ⟨g29, k30⟩ := hr.2
            refine x_getr dX4_readsSum_60 vc_X4 xin4 fb_X4_3 fl_X4_15 xr_X4_3 kk0 g29 ?_
            obtain ⟨g31, k32⟩ := wt_X6_13 hw k30
            refine x_getr dX4_readsSum_63 vc_X6 xin6 fb_X6_13 fl_X4_151 xr_X6_13 k30 g31 ?_
            refine x_iload 4 dX4_readsSum_66 rfl ?_
            refine x_ineg dX4_readsSum_68 ?_
            obtain ⟨N34, q33, h⟩ := x_bd1 h
            refine x_cv (b := (gp Y (gp Y p_0 3) 13)) (As := [.int (-r24)]) (ci := 0) (d' := 1) (zz := yX0_addStep) dX4_readsSum_69 ml_X4_155 wi_X0_addStep wv_X0_addStep wn_X0 wc_X0_addStep hp_X0_addStep (by omega) (by decide) rfl (Nat.le_of_ble_eq_true rfl) ⟨Nat.zero_le _, Nat.zero_le _⟩ rfl k32 (T_X0_addStep (G := G) hw k32 q33) ?_
            refine x_iinc (L' := [(0, .ref p_0), (1, .int v_1), (2, .int r27), (3, .int (v_3 + 1))]) 3 [1, 2, 3, 0] dX4_readsSum_72 rfl rfl (by decide) rfl ?_
            refine x_goto (tgt := 8) dX4_readsSum_75 (by decide) ?_
            exact ih p_0 v_1 r27 (v_3 + 1) N34 kk0 hr h
          · refine x_icmp_ne_t (tgt := 78) dX4_readsSum_34 (by decide) c22 ?_
            refine x_iload_n 2 dX4_readsSum_78 rfl rfl ?_
            obtain ⟨c35, h⟩ := x_ck h
            obtain ⟨rfl, rfl⟩ := Prod.mk.inj (x_so h)
            exact x_zret dX4_readsSum_79 rfl (xz_or c35) rfl rfl
set_option maxHeartbeats 4000000 in
set_option maxRecDepth 100000 in
theorem T_X4_readsSum {G : XG} {Y : XY} (hw : WT Y) {D : Nat} {rc : Nat → Nat → Int32 → XN → Option (Int32 × XN)} (hrc_readsSum : ∀ {a0 : Nat} {a1 : Int32} {N : XN} {r9 : Int32} {N9 : XN}, kc Y a0 = 14 → WR Y a0 → rc 0 a0 a1 N = some (r9, N9) → Cl G yX4_readsSum cX4_readsSum 5 (some .boolean) (xR (3 + D) 0 0) [.ref a0, .int a1] (.inl (some (.int r9))) Y N Y N9) (hrc_readsTerm : ∀ {a0 : Nat} {a1 : Int32} {N : XN} {r9 : Int32} {N9 : XN}, kc Y a0 = 14 → WR Y a0 → rc 1 a0 a1 N = some (r9, N9) → Cl G yX4_readsTerm cX4_readsTerm 5 (some .boolean) (xR (3 + D) 0 0) [.ref a0, .int a1] (.inl (some (.int r9))) Y N Y N9) (hrc_readsFactor : ∀ {a0 : Nat} {a1 : Int32} {N : XN} {r9 : Int32} {N9 : XN}, kc Y a0 = 14 → WR Y a0 → rc 2 a0 a1 N = some (r9, N9) → Cl G yX4_readsFactor cX4_readsFactor 3 (some .boolean) (xR (3 + D) 0 0) [.ref a0, .int a1] (.inl (some (.int r9))) Y N Y N9) {a0 : Nat} {a1 : Int32} {N : XN} (k100 : kc Y a0 = 14) (hr : WR Y a0) {r9 : Int32} {N9 : XN} (h : b_X4_readsSum Y rc a0 a1 N = some (r9, N9)) : Cl G yX4_readsSum cX4_readsSum 5 (some .boolean) (xR (3 + D + 1) 0 0) [.ref a0, .int a1] (.inl (some (.int r9))) Y N Y N9 := by
  refine x_entry (by decide) (Nat.le_of_ble_eq_true rfl) rfl ?_
  rw [b_X4_readsSum] at h
  refine x_aload_n 0 dX4_readsSum_0 rfl rfl ?_
  refine x_iload_n 1 dX4_readsSum_1 rfl rfl ?_
  obtain ⟨r2, N3, q1, h⟩ := x_bd2 h
  refine x_cv (b := a0) (As := [.int a1]) (ci := 4) (d' := (3 + D)) (zz := yX4_readsTerm) dX4_readsSum_2 ml_X4_148 wi_X4_readsTerm wv_X4_readsTerm wn_X4 wc_X4_readsTerm hp_X4_readsTerm (by omega) (by decide) rfl (Nat.le_of_ble_eq_true rfl) ⟨Nat.zero_le _, Nat.zero_le _⟩ rfl k100 (hrc_readsTerm k100 hr q1) ?_
  refine x_istore_n (L' := [(0, .ref a0), (1, .int a1), (2, .int r2)]) [1, 2, 0] dX4_readsSum_5 rfl (by decide) rfl ?_
  refine x_iconst (v := 0) dX4_readsSum_6 rfl ?_
  refine x_istore_n (L' := [(0, .ref a0), (1, .int a1), (2, .int r2), (3, .int 0)]) [1, 2, 3, 0] dX4_readsSum_7 rfl (by decide) rfl ?_
  exact T_X4_readsSum_8 (G := G) hw hrc_readsSum hrc_readsTerm hrc_readsFactor FU a0 a1 r2 0 N3 k100 hr h
set_option maxHeartbeats 4000000 in
set_option maxRecDepth 100000 in
theorem T_X4_readsTerm_8 {G : XG} {Y : XY} (hw : WT Y) {D : Nat} {rc : Nat → Nat → Int32 → XN → Option (Int32 × XN)} (hrc_readsSum : ∀ {a0 : Nat} {a1 : Int32} {N : XN} {r9 : Int32} {N9 : XN}, kc Y a0 = 14 → WR Y a0 → rc 0 a0 a1 N = some (r9, N9) → Cl G yX4_readsSum cX4_readsSum 5 (some .boolean) (xR (3 + D) 0 0) [.ref a0, .int a1] (.inl (some (.int r9))) Y N Y N9) (hrc_readsTerm : ∀ {a0 : Nat} {a1 : Int32} {N : XN} {r9 : Int32} {N9 : XN}, kc Y a0 = 14 → WR Y a0 → rc 1 a0 a1 N = some (r9, N9) → Cl G yX4_readsTerm cX4_readsTerm 5 (some .boolean) (xR (3 + D) 0 0) [.ref a0, .int a1] (.inl (some (.int r9))) Y N Y N9) (hrc_readsFactor : ∀ {a0 : Nat} {a1 : Int32} {N : XN} {r9 : Int32} {N9 : XN}, kc Y a0 = 14 → WR Y a0 → rc 2 a0 a1 N = some (r9, N9) → Cl G yX4_readsFactor cX4_readsFactor 3 (some .boolean) (xR (3 + D) 0 0) [.ref a0, .int a1] (.inl (some (.int r9))) Y N Y N9) {r9 : Int32} {N9 : XN}: ∀ (D9 : Nat) (p_0 : Nat) (v_1 : Int32) (v_2 : Int32) (v_3 : Int32) (N : XN), kc Y p_0 = 14 → WR Y p_0 → f_X4_readsTerm_8 Y rc D9 p_0 v_1 v_2 v_3 N = some (r9, N9) → Ex G yX4_readsTerm cX4_readsTerm 5 (some .boolean) (xR (3 + D + 1) 0 0) (.inl (some (.int r9))) Y N9 0 0 8 [(0, .ref p_0), (1, .int v_1), (2, .int v_2), (3, .int v_3)] [] Y N := by
  intro D9
  induction D9 with
  | zero => intro p_0 v_1 v_2 v_3 N kk0 hr h; exact nomatch (show none = some _ from h)
  | succ D9 ih =>
    intro p_0 v_1 v_2 v_3 N kk0 hr h
    rw [f_X4_readsTerm_8] at h
    refine x_iload_n 3 dX4_readsTerm_8 rfl rfl ?_
    refine x_sipush (v := 700) dX4_readsTerm_9 rfl ?_
    rcases x_if h with ⟨c1, h⟩ | ⟨c1, h⟩
    · refine x_icmp_ge_t (tgt := 78) dX4_readsTerm_12 (by decide) c1 ?_
      refine x_iload_n 2 dX4_readsTerm_78 rfl rfl ?_
      obtain ⟨c2, h⟩ := x_ck h
      obtain ⟨rfl, rfl⟩ := Prod.mk.inj (x_so h)
      exact x_zret dX4_readsTerm_79 rfl (xz_or c2) rfl rfl
    · refine x_icmp_ge_f (tgt := 78) dX4_readsTerm_12 (by decide) c1 ?_
      refine x_iload_n 2 dX4_readsTerm_15 rfl rfl ?_
      rcases x_if h with ⟨c3, h⟩ | ⟨c3, h⟩
      · refine x_if_eq_t (tgt := 78) dX4_readsTerm_16 (by decide) c3 ?_
        refine x_iload_n 2 dX4_readsTerm_78 rfl rfl ?_
        obtain ⟨c4, h⟩ := x_ck h
        obtain ⟨rfl, rfl⟩ := Prod.mk.inj (x_so h)
        exact x_zret dX4_readsTerm_79 rfl (xz_or c4) rfl rfl
      · refine x_if_eq_f (tgt := 78) dX4_readsTerm_16 (by decide) c3 ?_
        refine x_aload_n 0 dX4_readsTerm_19 rfl rfl ?_
        obtain ⟨r6, q5, h⟩ := x_bd1 h
        refine x_cv (b := p_0) (As := []) (ci := 4) (d' := 1) (zz := yX4_kind) dX4_readsTerm_20 ml_X4_41 wi_X4_kind wv_X4_kind wn_X4 wc_X4_kind hp_X4_kind (by omega) (by decide) rfl (Nat.le_of_ble_eq_true rfl) ⟨Nat.zero_le _, Nat.zero_le _⟩ rfl kk0 (T_X4_kind (G := G) hw kk0 hr q5) ?_
        refine x_bipush (v := 8) dX4_readsTerm_23 rfl ?_
        rcases x_if h with ⟨c7, h⟩ | ⟨c7, h⟩
        · refine x_icmp_eq_t (tgt := 37) dX4_readsTerm_25 (by decide) c7 ?_
          refine x_aload_n 0 dX4_readsTerm_37 rfl rfl ?_
          obtain ⟨r9, q8, h⟩ := x_bd1 h
          refine x_cv (b := p_0) (As := []) (ci := 4) (d' := 1) (zz := yX4_kind) dX4_readsTerm_38 ml_X4_41 wi_X4_kind wv_X4_kind wn_X4 wc_X4_kind hp_X4_kind (by omega) (by decide) rfl (Nat.le_of_ble_eq_true rfl) ⟨Nat.zero_le _, Nat.zero_le _⟩ rfl kk0 (T_X4_kind (G := G) hw kk0 hr q8) ?_
          refine x_istore (L' := [(0, .ref p_0), (1, .int v_1), (3, .int v_3), (4, .int r9)]) [1, 2, 4, 0] dX4_readsTerm_41 (by decide) rfl ?_
          refine x_aload_n 0 dX4_readsTerm_43 rfl rfl ?_
          refine x_dup dX4_readsTerm_44 rfl ?_
          refine x_geti dX4_readsTerm_45 vc_X4 xin4 fb_X4_4 fl_X4_24 xr_X4_4 kk0 ?_
          refine x_iconst (v := 1) dX4_readsTerm_48 rfl ?_
          refine x_iadd dX4_readsTerm_49 ?_
          refine x_puti dX4_readsTerm_50 vc_X4 xin4 tyX4_ok nmX4 fb_X4_4 fl_X4_24 ff_X4_4 xr_X4_4 (nf_X4_4 _) (ft_X4_4 _) kk0 ?_
          obtain ⟨N10, eN10, h⟩ := x_lt h
          refine x_nmN eN10 ?_
          refine x_aload_n 0 dX4_readsTerm_53 rfl rfl ?_
          refine x_iload_n 1 dX4_readsTerm_54 rfl rfl ?_
          obtain ⟨r12, N13, q11, h⟩ := x_bd2 h
          refine x_cv (b := p_0) (As := [.int v_1]) (ci := 4) (d' := (3 + D)) (zz := yX4_readsFactor) dX4_readsTerm_55 ml_X4_160 wi_X4_readsFactor wv_X4_readsFactor wn_X4 wc_X4_readsFactor hp_X4_readsFactor (by omega) (by decide) rfl (Nat.le_of_ble_eq_true rfl) ⟨Nat.zero_le _, Nat.zero_le _⟩ rfl kk0 (hrc_readsFactor kk0 hr q11) ?_
          refine x_istore_n (L' := [(0, .ref p_0), (1, .int v_1), (2, .int r12), (3, .int v_3), (4, .int r9)]) [1, 2, 0, 3, 4] dX4_readsTerm_58 rfl (by decide) rfl ?_
          refine x_aload_n 0 dX4_readsTerm_59 rfl rfl ?_
          obtain ⟨g14, k15⟩ := hr.2
          refine x_getr dX4_readsTerm_60 vc_X4 xin4 fb_X4_3 fl_X4_15 xr_X4_3 kk0 g14 ?_
          obtain ⟨g16, k17⟩ := wt_X6_13 hw k15
          refine x_getr dX4_readsTerm_63 vc_X6 xin6 fb_X6_13 fl_X4_151 xr_X6_13 k15 g16 ?_
          refine x_iload 4 dX4_readsTerm_66 rfl ?_
          refine x_ineg dX4_readsTerm_68 ?_
          obtain ⟨N19, q18, h⟩ := x_bd1 h
          refine x_cv (b := (gp Y (gp Y p_0 3) 13)) (As := [.int (-r9)]) (ci := 0) (d' := 1) (zz := yX0_addStep) dX4_readsTerm_69 ml_X4_155 wi_X0_addStep wv_X0_addStep wn_X0 wc_X0_addStep hp_X0_addStep (by omega) (by decide) rfl (Nat.le_of_ble_eq_true rfl) ⟨Nat.zero_le _, Nat.zero_le _⟩ rfl k17 (T_X0_addStep (G := G) hw k17 q18) ?_
          refine x_iinc (L' := [(0, .ref p_0), (1, .int v_1), (2, .int r12), (3, .int (v_3 + 1))]) 3 [1, 2, 3, 0] dX4_readsTerm_72 rfl rfl (by decide) rfl ?_
          refine x_goto (tgt := 8) dX4_readsTerm_75 (by decide) ?_
          exact ih p_0 v_1 r12 (v_3 + 1) N19 kk0 hr h
        · refine x_icmp_eq_f (tgt := 37) dX4_readsTerm_25 (by decide) c7 ?_
          refine x_aload_n 0 dX4_readsTerm_28 rfl rfl ?_
          obtain ⟨r21, q20, h⟩ := x_bd1 h
          refine x_cv (b := p_0) (As := []) (ci := 4) (d' := 1) (zz := yX4_kind) dX4_readsTerm_29 ml_X4_41 wi_X4_kind wv_X4_kind wn_X4 wc_X4_kind hp_X4_kind (by omega) (by decide) rfl (Nat.le_of_ble_eq_true rfl) ⟨Nat.zero_le _, Nat.zero_le _⟩ rfl kk0 (T_X4_kind (G := G) hw kk0 hr q20) ?_
          refine x_bipush (v := 9) dX4_readsTerm_32 rfl ?_
          rcases x_if h with ⟨c22, h⟩ | ⟨c22, h⟩
          · refine x_icmp_ne_f (tgt := 78) dX4_readsTerm_34 (by decide) c22 ?_
            refine x_aload_n 0 dX4_readsTerm_37 rfl rfl ?_
            obtain ⟨r24, q23, h⟩ := x_bd1 h
            refine x_cv (b := p_0) (As := []) (ci := 4) (d' := 1) (zz := yX4_kind) dX4_readsTerm_38 ml_X4_41 wi_X4_kind wv_X4_kind wn_X4 wc_X4_kind hp_X4_kind (by omega) (by decide) rfl (Nat.le_of_ble_eq_true rfl) ⟨Nat.zero_le _, Nat.zero_le _⟩ rfl kk0 (T_X4_kind (G := G) hw kk0 hr q23) ?_
            refine x_istore (L' := [(0, .ref p_0), (1, .int v_1), (3, .int v_3), (4, .int r24)]) [1, 2, 4, 0] dX4_readsTerm_41 (by decide) rfl ?_
            refine x_aload_n 0 dX4_readsTerm_43 rfl rfl ?_
            refine x_dup dX4_readsTerm_44 rfl ?_
            refine x_geti dX4_readsTerm_45 vc_X4 xin4 fb_X4_4 fl_X4_24 xr_X4_4 kk0 ?_
            refine x_iconst (v := 1) dX4_readsTerm_48 rfl ?_
            refine x_iadd dX4_readsTerm_49 ?_
            refine x_puti dX4_readsTerm_50 vc_X4 xin4 tyX4_ok nmX4 fb_X4_4 fl_X4_24 ff_X4_4 xr_X4_4 (nf_X4_4 _) (ft_X4_4 _) kk0 ?_
            obtain ⟨N25, eN25, h⟩ := x_lt h
            refine x_nmN eN25 ?_
            refine x_aload_n 0 dX4_readsTerm_53 rfl rfl ?_
            refine x_iload_n 1 dX4_readsTerm_54 rfl rfl ?_
            obtain ⟨r27, N28, q26, h⟩ := x_bd2 h
            refine x_cv (b := p_0) (As := [.int v_1]) (ci := 4) (d' := (3 + D)) (zz := yX4_readsFactor) dX4_readsTerm_55 ml_X4_160 wi_X4_readsFactor wv_X4_readsFactor wn_X4 wc_X4_readsFactor hp_X4_readsFactor (by omega) (by decide) rfl (Nat.le_of_ble_eq_true rfl) ⟨Nat.zero_le _, Nat.zero_le _⟩ rfl kk0 (hrc_readsFactor kk0 hr q26) ?_
            refine x_istore_n (L' := [(0, .ref p_0), (1, .int v_1), (2, .int r27), (3, .int v_3), (4, .int r24)]) [1, 2, 0, 3, 4] dX4_readsTerm_58 rfl (by decide) rfl ?_
            refine x_aload_n 0 dX4_readsTerm_59 rfl rfl ?_
            obtain ⟨g29, k30⟩ := hr.2
            refine x_getr dX4_readsTerm_60 vc_X4 xin4 fb_X4_3 fl_X4_15 xr_X4_3 kk0 g29 ?_
            obtain ⟨g31, k32⟩ := wt_X6_13 hw k30
            refine x_getr dX4_readsTerm_63 vc_X6 xin6 fb_X6_13 fl_X4_151 xr_X6_13 k30 g31 ?_
            refine x_iload 4 dX4_readsTerm_66 rfl ?_
            refine x_ineg dX4_readsTerm_68 ?_
            obtain ⟨N34, q33, h⟩ := x_bd1 h
            refine x_cv (b := (gp Y (gp Y p_0 3) 13)) (As := [.int (-r24)]) (ci := 0) (d' := 1) (zz := yX0_addStep) dX4_readsTerm_69 ml_X4_155 wi_X0_addStep wv_X0_addStep wn_X0 wc_X0_addStep hp_X0_addStep (by omega) (by decide) rfl (Nat.le_of_ble_eq_true rfl) ⟨Nat.zero_le _, Nat.zero_le _⟩ rfl k32 (T_X0_addStep (G := G) hw k32 q33) ?_
            refine x_iinc (L' := [(0, .ref p_0), (1, .int v_1), (2, .int r27), (3, .int (v_3 + 1))]) 3 [1, 2, 3, 0] dX4_readsTerm_72 rfl rfl (by decide) rfl ?_
            refine x_goto (tgt := 8) dX4_readsTerm_75 (by decide) ?_
            exact ih p_0 v_1 r27 (v_3 + 1) N34 kk0 hr h
          · refine x_icmp_ne_t (tgt := 78) dX4_readsTerm_34 (by decide) c22 ?_
            refine x_iload_n 2 dX4_readsTerm_78 rfl rfl ?_
            obtain ⟨c35, h⟩ := x_ck h
            obtain ⟨rfl, rfl⟩ := Prod.mk.inj (x_so h)
            exact x_zret dX4_readsTerm_79 rfl (xz_or c35) rfl rfl
set_option maxHeartbeats 4000000 in
set_option maxRecDepth 100000 in
theorem T_X4_readsTerm {G : XG} {Y : XY} (hw : WT Y) {D : Nat} {rc : Nat → Nat → Int32 → XN → Option (Int32 × XN)} (hrc_readsSum : ∀ {a0 : Nat} {a1 : Int32} {N : XN} {r9 : Int32} {N9 : XN}, kc Y a0 = 14 → WR Y a0 → rc 0 a0 a1 N = some (r9, N9) → Cl G yX4_readsSum cX4_readsSum 5 (some .boolean) (xR (3 + D) 0 0) [.ref a0, .int a1] (.inl (some (.int r9))) Y N Y N9) (hrc_readsTerm : ∀ {a0 : Nat} {a1 : Int32} {N : XN} {r9 : Int32} {N9 : XN}, kc Y a0 = 14 → WR Y a0 → rc 1 a0 a1 N = some (r9, N9) → Cl G yX4_readsTerm cX4_readsTerm 5 (some .boolean) (xR (3 + D) 0 0) [.ref a0, .int a1] (.inl (some (.int r9))) Y N Y N9) (hrc_readsFactor : ∀ {a0 : Nat} {a1 : Int32} {N : XN} {r9 : Int32} {N9 : XN}, kc Y a0 = 14 → WR Y a0 → rc 2 a0 a1 N = some (r9, N9) → Cl G yX4_readsFactor cX4_readsFactor 3 (some .boolean) (xR (3 + D) 0 0) [.ref a0, .int a1] (.inl (some (.int r9))) Y N Y N9) {a0 : Nat} {a1 : Int32} {N : XN} (k100 : kc Y a0 = 14) (hr : WR Y a0) {r9 : Int32} {N9 : XN} (h : b_X4_readsTerm Y rc a0 a1 N = some (r9, N9)) : Cl G yX4_readsTerm cX4_readsTerm 5 (some .boolean) (xR (3 + D + 1) 0 0) [.ref a0, .int a1] (.inl (some (.int r9))) Y N Y N9 := by
  refine x_entry (by decide) (Nat.le_of_ble_eq_true rfl) rfl ?_
  rw [b_X4_readsTerm] at h
  refine x_aload_n 0 dX4_readsTerm_0 rfl rfl ?_
  refine x_iload_n 1 dX4_readsTerm_1 rfl rfl ?_
  obtain ⟨r2, N3, q1, h⟩ := x_bd2 h
  refine x_cv (b := a0) (As := [.int a1]) (ci := 4) (d' := (3 + D)) (zz := yX4_readsFactor) dX4_readsTerm_2 ml_X4_160 wi_X4_readsFactor wv_X4_readsFactor wn_X4 wc_X4_readsFactor hp_X4_readsFactor (by omega) (by decide) rfl (Nat.le_of_ble_eq_true rfl) ⟨Nat.zero_le _, Nat.zero_le _⟩ rfl k100 (hrc_readsFactor k100 hr q1) ?_
  refine x_istore_n (L' := [(0, .ref a0), (1, .int a1), (2, .int r2)]) [1, 2, 0] dX4_readsTerm_5 rfl (by decide) rfl ?_
  refine x_iconst (v := 0) dX4_readsTerm_6 rfl ?_
  refine x_istore_n (L' := [(0, .ref a0), (1, .int a1), (2, .int r2), (3, .int 0)]) [1, 2, 3, 0] dX4_readsTerm_7 rfl (by decide) rfl ?_
  exact T_X4_readsTerm_8 (G := G) hw hrc_readsSum hrc_readsTerm hrc_readsFactor FU a0 a1 r2 0 N3 k100 hr h
