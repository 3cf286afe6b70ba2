set_option maxHeartbeats 4000000 in
set_option maxRecDepth 100000 in
theorem T_X7_advise_47 {G : XG} {Y : XY} (hw : WT Y) {r9 : Int32} {N9 : XN}: ∀ (D9 : Nat) (p_0 : Nat) (v_1 : Int32) (v_2 : Int32) (v_3 : Int32) (v_4 : Int32) (N : XN), kc Y p_0 = 17 → f_X7_advise_47 Y D9 p_0 v_1 v_2 v_3 v_4 N = some (.inl r9, N9) → Ex G yX7_advise cX7_advise 6 (some .int) (xR 8 0 0) (.inl (some (.int r9))) Y N9 0 0 47 [(0, .ref p_0), (1, .int v_1), (2, .int v_2), (3, .int v_3), (4, .int v_4)] [] Y N := by
  intro D9
  induction D9 with
  | zero => intro p_0 v_1 v_2 v_3 v_4 N kk0 h; exact nomatch (show none = some _ from h)
  | succ D9 ih =>
    intro p_0 v_1 v_2 v_3 v_4 N kk0 h
    rw [f_X7_advise_47] at h
    refine x_iload 4 dX7_advise_47 rfl ?_
    refine x_aload_n 0 dX7_advise_49 rfl rfl ?_
    obtain ⟨g1, k2⟩ := wt_X7_5 hw kk0
    refine x_getr dX7_advise_50 vc_X7 xin7 fb_X7_5 fl_X7_37 xr_X7_5 kk0 g1 ?_
    refine x_geti dX7_advise_53 vc_X6 xin6 fb_X6_1 fl_X7_90 xr_X6_1 k2 ?_
    rcases x_if h with ⟨c3, h⟩ | ⟨c3, h⟩
    · refine x_icmp_ge_t (tgt := 123) dX7_advise_56 (by decide) c3 ?_
      refine x_iload_n 3 dX7_advise_123 rfl rfl ?_
      obtain ⟨h7, rfl⟩ := Prod.mk.inj (x_so h)
      obtain rfl := Sum.inl.inj h7
      exact x_iret dX7_advise_124 rfl rfl rfl
    · refine x_icmp_ge_f (tgt := 123) dX7_advise_56 (by decide) c3 ?_
      refine x_aload_n 0 dX7_advise_59 rfl rfl ?_
      refine x_getr dX7_advise_60 vc_X7 xin7 fb_X7_5 fl_X7_37 xr_X7_5 kk0 g1 ?_
      refine x_iload 4 dX7_advise_63 rfl ?_
      refine x_iload_n 1 dX7_advise_65 rfl rfl ?_
      obtain ⟨r5, q4, h⟩ := x_bd1 h
      refine x_cv (b := (gp Y p_0 5)) (As := [.int v_4, .int v_1]) (ci := 6) (d' := 2) (zz := yX6_mayLease) dX7_advise_66 ml_X7_233 wi_X6_mayLease wv_X6_mayLease wn_X6 wc_X6_mayLease hp_X6_mayLease (by decide) (by decide) rfl (Nat.le_of_ble_eq_true rfl) ⟨Nat.zero_le _, Nat.zero_le _⟩ rfl k2 (T_X6_mayLease (G := G) hw k2 q4) ?_
      rcases x_if h with ⟨c6, h⟩ | ⟨c6, h⟩
      · refine x_if_eq_t (tgt := 117) dX7_advise_69 (by decide) c6 ?_
        refine x_iinc (L' := [(0, .ref p_0), (1, .int v_1), (2, .int v_2), (3, .int v_3), (4, .int (v_4 + 1))]) 4 [1, 2, 3, 4, 0] dX7_advise_117 rfl rfl (by decide) rfl ?_
        refine x_goto (tgt := 47) dX7_advise_120 (by decide) ?_
        exact ih p_0 v_1 v_2 v_3 (v_4 + 1) N kk0 h
      · refine x_if_eq_f (tgt := 117) dX7_advise_69 (by decide) c6 ?_
        refine x_aload_n 0 dX7_advise_72 rfl rfl ?_
        obtain ⟨g7, k8⟩ := wt_X7_6 hw kk0
        refine x_getr dX7_advise_73 vc_X7 xin7 fb_X7_6 fl_X7_41 xr_X7_6 kk0 g7 ?_
        refine x_aload_n 0 dX7_advise_76 rfl rfl ?_
        refine x_getr dX7_advise_77 vc_X7 xin7 fb_X7_5 fl_X7_37 xr_X7_5 kk0 g1 ?_
        obtain ⟨N10, q9, h⟩ := x_bd1 h
        refine x_cv (b := (gp Y p_0 6)) (As := [.ref (gp Y p_0 5)]) (ci := 6) (d' := 2) (zz := yX6_copyOf) dX7_advise_80 ml_X7_80 wi_X6_copyOf wv_X6_copyOf wn_X6 wc_X6_copyOf hp_X6_copyOf (by decide) (by decide) rfl (Nat.le_of_ble_eq_true rfl) ⟨Nat.zero_le _, Nat.zero_le _⟩ rfl k8 (T_X6_copyOf (G := G) hw k8 k2 q9) ?_
        refine x_aload_n 0 dX7_advise_83 rfl rfl ?_
        refine x_getr dX7_advise_84 vc_X7 xin7 fb_X7_6 fl_X7_41 xr_X7_6 kk0 g7 ?_
        refine x_iload 4 dX7_advise_87 rfl ?_
        refine x_iload_n 1 dX7_advise_89 rfl rfl ?_
        obtain ⟨r12, N13, q11, h⟩ := x_bd2 h
        refine x_cv (b := (gp Y p_0 6)) (As := [.int v_4, .int v_1]) (ci := 6) (d' := 4) (zz := yX6_letLease) dX7_advise_90 ml_X7_237 wi_X6_letLease wv_X6_letLease wn_X6 wc_X6_letLease hp_X6_letLease (by decide) (by decide) rfl (Nat.le_of_ble_eq_true rfl) ⟨Nat.zero_le _, Nat.zero_le _⟩ rfl k8 (T_X6_letLease (G := G) hw k8 q11) ?_
        refine x_pop dX7_advise_93 rfl ?_
        refine x_aload_n 0 dX7_advise_94 rfl rfl ?_
        refine x_getr dX7_advise_95 vc_X7 xin7 fb_X7_6 fl_X7_41 xr_X7_6 kk0 g7 ?_
        refine x_bipush (v := 100) dX7_advise_98 rfl ?_
        obtain ⟨r15, N16, q14, h⟩ := x_bd2 h
        refine x_cv (b := (gp Y p_0 6)) (As := [.int 100]) (ci := 6) (d' := 7) (zz := yX6_finesWithin) dX7_advise_100 ml_X7_230 wi_X6_finesWithin wv_X6_finesWithin wn_X6 wc_X6_finesWithin hp_X6_finesWithin (by decide) (by decide) rfl (Nat.le_of_ble_eq_true rfl) ⟨Nat.zero_le _, Nat.zero_le _⟩ rfl k8 (T_X6_finesWithin (G := G) hw k8 q14) ?_
        refine x_istore (L' := [(0, .ref p_0), (1, .int v_1), (2, .int v_2), (3, .int v_3), (4, .int v_4), (5, .int r15)]) [1, 2, 3, 4, 5, 0] dX7_advise_103 (by decide) rfl ?_
        refine x_iload 5 dX7_advise_105 rfl ?_
        refine x_iload_n 2 dX7_advise_107 rfl rfl ?_
        rcases x_if h with ⟨c17, h⟩ | ⟨c17, h⟩
        · refine x_icmp_ge_t (tgt := 117) dX7_advise_108 (by decide) c17 ?_
          refine x_iinc (L' := [(0, .ref p_0), (1, .int v_1), (2, .int v_2), (3, .int v_3), (4, .int (v_4 + 1))]) 4 [1, 2, 3, 4, 0] dX7_advise_117 rfl rfl (by decide) rfl ?_
          refine x_goto (tgt := 47) dX7_advise_120 (by decide) ?_
          exact ih p_0 v_1 v_2 v_3 (v_4 + 1) N16 kk0 h
        · refine x_icmp_ge_f (tgt := 117) dX7_advise_108 (by decide) c17 ?_
          refine x_iload 5 dX7_advise_111 rfl ?_
          refine x_istore_n (L' := [(0, .ref p_0), (1, .int v_1), (2, .int r15), (4, .int v_4)]) [1, 2, 0, 4] dX7_advise_113 rfl (by decide) rfl ?_
          refine x_iload 3 dX7_advise_114 rfl ?_
          refine x_istore_n (L' := [(0, .ref p_0), (1, .int v_1), (2, .int r15), (3, .int v_4), (4, .int v_4)]) [1, 2, 3, 0, 4] dX7_advise_116 rfl (by decide) rfl ?_
          refine x_iinc (L' := [(0, .ref p_0), (1, .int v_1), (2, .int r15), (3, .int v_4), (4, .int (v_4 + 1))]) 4 [1, 2, 3, 4, 0] dX7_advise_117 rfl rfl (by decide) rfl ?_
          refine x_goto (tgt := 47) dX7_advise_120 (by decide) ?_
          exact ih p_0 v_1 r15 v_4 (v_4 + 1) N16 kk0 h
set_option maxHeartbeats 4000000 in
set_option maxRecDepth 100000 in
theorem T_X7_advise_47x {G : XG} {Y : XY} (hw : WT Y) (h9 : ∀ a, kc Y a ≠ 9) {r9 : String} {N9 : XN}: ∀ (D9 : Nat) (p_0 : Nat) (v_1 : Int32) (v_2 : Int32) (v_3 : Int32) (v_4 : Int32) (N : XN), kc Y p_0 = 17 → f_X7_advise_47 Y D9 p_0 v_1 v_2 v_3 v_4 N = some (.inr r9, N9) → Ex G yX7_advise cX7_advise 6 (some .int) (xR 8 1 6) (.inr r9) Y N9 0 0 47 [(0, .ref p_0), (1, .int v_1), (2, .int v_2), (3, .int v_3), (4, .int v_4)] [] Y N := by
  intro D9
  induction D9 with
  | zero => intro p_0 v_1 v_2 v_3 v_4 N kk0 h; exact nomatch (show none = some _ from h)
  | succ D9 ih =>
    intro p_0 v_1 v_2 v_3 v_4 N kk0 h
    rw [f_X7_advise_47] at h
    refine x_iload 4 dX7_advise_47 rfl ?_
    refine x_aload_n 0 dX7_advise_49 rfl rfl ?_
    obtain ⟨g1, k2⟩ := wt_X7_5 hw kk0
    refine x_getr dX7_advise_50 vc_X7 xin7 fb_X7_5 fl_X7_37 xr_X7_5 kk0 g1 ?_
    refine x_geti dX7_advise_53 vc_X6 xin6 fb_X6_1 fl_X7_90 xr_X6_1 k2 ?_
    rcases x_if h with ⟨c3, h⟩ | ⟨c3, h⟩
    · refine x_icmp_ge_t (tgt := 123) dX7_advise_56 (by decide) c3 ?_
      refine x_iload_n 3 dX7_advise_123 rfl rfl ?_
      cases (Prod.mk.inj (x_so h)).1
    · refine x_icmp_ge_f (tgt := 123) dX7_advise_56 (by decide) c3 ?_
      refine x_aload_n 0 dX7_advise_59 rfl rfl ?_
      refine x_getr dX7_advise_60 vc_X7 xin7 fb_X7_5 fl_X7_37 xr_X7_5 kk0 g1 ?_
      refine x_iload 4 dX7_advise_63 rfl ?_
      refine x_iload_n 1 dX7_advise_65 rfl rfl ?_
      obtain ⟨r5, q4, h⟩ := x_bd1 h
      refine x_cv (b := (gp Y p_0 5)) (As := [.int v_4, .int v_1]) (ci := 6) (d' := 2) (zz := yX6_mayLease) dX7_advise_66 ml_X7_233 wi_X6_mayLease wv_X6_mayLease wn_X6 wc_X6_mayLease hp_X6_mayLease (by decide) (by decide) rfl (Nat.le_of_ble_eq_true rfl) ⟨Nat.zero_le _, Nat.zero_le _⟩ rfl k2 (T_X6_mayLease (G := G) hw k2 q4) ?_
      rcases x_if h with ⟨c6, h⟩ | ⟨c6, h⟩
      · refine x_if_eq_t (tgt := 117) dX7_advise_69 (by decide) c6 ?_
        refine x_iinc (L' := [(0, .ref p_0), (1, .int v_1), (2, .int v_2), (3, .int v_3), (4, .int (v_4 + 1))]) 4 [1, 2, 3, 4, 0] dX7_advise_117 rfl rfl (by decide) rfl ?_
        refine x_goto (tgt := 47) dX7_advise_120 (by decide) ?_
        exact ih p_0 v_1 v_2 v_3 (v_4 + 1) N kk0 h
      · refine x_if_eq_f (tgt := 117) dX7_advise_69 (by decide) c6 ?_
        refine x_aload_n 0 dX7_advise_72 rfl rfl ?_
        obtain ⟨g7, k8⟩ := wt_X7_6 hw kk0
        refine x_getr dX7_advise_73 vc_X7 xin7 fb_X7_6 fl_X7_41 xr_X7_6 kk0 g7 ?_
        refine x_aload_n 0 dX7_advise_76 rfl rfl ?_
        refine x_getr dX7_advise_77 vc_X7 xin7 fb_X7_5 fl_X7_37 xr_X7_5 kk0 g1 ?_
        obtain ⟨N10, q9, h⟩ := x_bd1 h
        refine x_cv (b := (gp Y p_0 6)) (As := [.ref (gp Y p_0 5)]) (ci := 6) (d' := 2) (zz := yX6_copyOf) dX7_advise_80 ml_X7_80 wi_X6_copyOf wv_X6_copyOf wn_X6 wc_X6_copyOf hp_X6_copyOf (by decide) (by decide) rfl (Nat.le_of_ble_eq_true rfl) ⟨Nat.zero_le _, Nat.zero_le _⟩ rfl k8 (T_X6_copyOf (G := G) hw k8 k2 q9) ?_
        refine x_aload_n 0 dX7_advise_83 rfl rfl ?_
        refine x_getr dX7_advise_84 vc_X7 xin7 fb_X7_6 fl_X7_41 xr_X7_6 kk0 g7 ?_
        refine x_iload 4 dX7_advise_87 rfl ?_
        refine x_iload_n 1 dX7_advise_89 rfl rfl ?_
        obtain ⟨r12, N13, q11, h⟩ := x_bd2 h
        refine x_cv (b := (gp Y p_0 6)) (As := [.int v_4, .int v_1]) (ci := 6) (d' := 4) (zz := yX6_letLease) dX7_advise_90 ml_X7_237 wi_X6_letLease wv_X6_letLease wn_X6 wc_X6_letLease hp_X6_letLease (by decide) (by decide) rfl (Nat.le_of_ble_eq_true rfl) ⟨Nat.zero_le _, Nat.zero_le _⟩ rfl k8 (T_X6_letLease (G := G) hw k8 q11) ?_
        refine x_pop dX7_advise_93 rfl ?_
        refine x_aload_n 0 dX7_advise_94 rfl rfl ?_
        refine x_getr dX7_advise_95 vc_X7 xin7 fb_X7_6 fl_X7_41 xr_X7_6 kk0 g7 ?_
        refine x_bipush (v := 100) dX7_advise_98 rfl ?_
        obtain ⟨r15, N16, q14, h⟩ := x_bd2 h
        refine x_cv (b := (gp Y p_0 6)) (As := [.int 100]) (ci := 6) (d' := 7) (zz := yX6_finesWithin) dX7_advise_100 ml_X7_230 wi_X6_finesWithin wv_X6_finesWithin wn_X6 wc_X6_finesWithin hp_X6_finesWithin (by decide) (by decide) rfl (Nat.le_of_ble_eq_true rfl) ⟨Nat.zero_le _, Nat.zero_le _⟩ rfl k8 (T_X6_finesWithin (G := G) hw k8 q14) ?_
        refine x_istore (L' := [(0, .ref p_0), (1, .int v_1), (2, .int v_2), (3, .int v_3), (4, .int v_4), (5, .int r15)]) [1, 2, 3, 4, 5, 0] dX7_advise_103 (by decide) rfl ?_
        refine x_iload 5 dX7_advise_105 rfl ?_
        refine x_iload_n 2 dX7_advise_107 rfl rfl ?_
        rcases x_if h with ⟨c17, h⟩ | ⟨c17, h⟩
        · refine x_icmp_ge_t (tgt := 117) dX7_advise_108 (by decide) c17 ?_
          refine x_iinc (L' := [(0, .ref p_0), (1, .int v_1), (2, .int v_2), (3, .int v_3), (4, .int (v_4 + 1))]) 4 [1, 2, 3, 4, 0] dX7_advise_117 rfl rfl (by decide) rfl ?_
          refine x_goto (tgt := 47) dX7_advise_120 (by decide) ?_
          exact ih p_0 v_1 v_2 v_3 (v_4 + 1) N16 kk0 h
        · refine x_icmp_ge_f (tgt := 117) dX7_advise_108 (by decide) c17 ?_
          refine x_iload 5 dX7_advise_111 rfl ?_
          refine x_istore_n (L' := [(0, .ref p_0), (1, .int v_1), (2, .int r15), (4, .int v_4)]) [1, 2, 0, 4] dX7_advise_113 rfl (by decide) rfl ?_
          refine x_iload 3 dX7_advise_114 rfl ?_
          refine x_istore_n (L' := [(0, .ref p_0), (1, .int v_1), (2, .int r15), (3, .int v_4), (4, .int v_4)]) [1, 2, 3, 0, 4] dX7_advise_116 rfl (by decide) rfl ?_
          refine x_iinc (L' := [(0, .ref p_0), (1, .int v_1), (2, .int r15), (3, .int v_4), (4, .int (v_4 + 1))]) 4 [1, 2, 3, 4, 0] dX7_advise_117 rfl rfl (by decide) rfl ?_
          refine x_goto (tgt := 47) dX7_advise_120 (by decide) ?_
          exact ih p_0 v_1 r15 v_4 (v_4 + 1) N16 kk0 h
set_option maxHeartbeats 4000000 in
set_option maxRecDepth 100000 in
theorem T_X7_advise {G : XG} {Y : XY} (hw : WT Y) {a0 : Nat} {a1 : Int32} {N : XN} (k100 : kc Y a0 = 17) {r9 : Int32} {N9 : XN} (h : f_X7_advise Y a0 a1 N = some (.inl r9, N9)) : Cl G yX7_advise cX7_advise 6 (some .int) (xR 8 0 0) [.ref a0, .int a1] (.inl (some (.int r9))) Y N Y N9 := by
  refine x_entry (by decide) (Nat.le_of_ble_eq_true rfl) rfl ?_
  rw [f_X7_advise] at h
  refine x_aload_n 0 dX7_advise_0 rfl rfl ?_
  obtain ⟨g1, k2⟩ := wt_X7_5 hw k100
  refine x_getr dX7_advise_1 vc_X7 xin7 fb_X7_5 fl_X7_37 xr_X7_5 k100 g1 ?_
  refine x_iload_n 1 dX7_advise_4 rfl rfl ?_
  refine x_cv (b := (gp Y a0 5)) (As := [.int a1]) (ci := 6) (d' := 1) (zz := yX6_hasLine) dX7_advise_5 ml_X7_154 wi_X6_hasLine wv_X6_hasLine wn_X6 wc_X6_hasLine hp_X6_hasLine (by decide) (by decide) rfl (Nat.le_of_ble_eq_true rfl) ⟨Nat.zero_le _, Nat.zero_le _⟩ rfl k2 (T_X6_hasLine (G := G) hw k2 rfl) ?_
  rcases x_if h with ⟨c3, h⟩ | ⟨c3, h⟩
  · refine x_if_ne_f (tgt := 21) dX7_advise_8 (by decide) c3 ?_
    cases (Prod.mk.inj (x_so h)).1
  · refine x_if_ne_t (tgt := 21) dX7_advise_8 (by decide) c3 ?_
    refine x_aload_n 0 dX7_advise_21 rfl rfl ?_
    obtain ⟨g4, k5⟩ := wt_X7_6 hw k100
    refine x_getr dX7_advise_22 vc_X7 xin7 fb_X7_6 fl_X7_41 xr_X7_6 k100 g4 ?_
    refine x_aload_n 0 dX7_advise_25 rfl rfl ?_
    refine x_getr dX7_advise_26 vc_X7 xin7 fb_X7_5 fl_X7_37 xr_X7_5 k100 g1 ?_
    obtain ⟨N7, q6, h⟩ := x_bd1 h
    refine x_cv (b := (gp Y a0 6)) (As := [.ref (gp Y a0 5)]) (ci := 6) (d' := 2) (zz := yX6_copyOf) dX7_advise_29 ml_X7_80 wi_X6_copyOf wv_X6_copyOf wn_X6 wc_X6_copyOf hp_X6_copyOf (by decide) (by decide) rfl (Nat.le_of_ble_eq_true rfl) ⟨Nat.zero_le _, Nat.zero_le _⟩ rfl k5 (T_X6_copyOf (G := G) hw k5 k2 q6) ?_
    refine x_aload_n 0 dX7_advise_32 rfl rfl ?_
    refine x_getr dX7_advise_33 vc_X7 xin7 fb_X7_6 fl_X7_41 xr_X7_6 k100 g4 ?_
    refine x_bipush (v := 100) dX7_advise_36 rfl ?_
    obtain ⟨r9, N10, q8, h⟩ := x_bd2 h
    refine x_cv (b := (gp Y a0 6)) (As := [.int 100]) (ci := 6) (d' := 7) (zz := yX6_finesWithin) dX7_advise_38 ml_X7_230 wi_X6_finesWithin wv_X6_finesWithin wn_X6 wc_X6_finesWithin hp_X6_finesWithin (by decide) (by decide) rfl (Nat.le_of_ble_eq_true rfl) ⟨Nat.zero_le _, Nat.zero_le _⟩ rfl k5 (T_X6_finesWithin (G := G) hw k5 q8) ?_
    refine x_istore_n (L' := [(0, .ref a0), (1, .int a1), (2, .int r9)]) [1, 2, 0] dX7_advise_41 rfl (by decide) rfl ?_
    refine x_iconst (v := (-1)) dX7_advise_42 rfl ?_
    refine x_istore_n (L' := [(0, .ref a0), (1, .int a1), (2, .int r9), (3, .int (-1))]) [1, 2, 3, 0] dX7_advise_43 rfl (by decide) rfl ?_
    refine x_iconst (v := 0) dX7_advise_44 rfl ?_
    refine x_istore (L' := [(0, .ref a0), (1, .int a1), (2, .int r9), (3, .int (-1)), (4, .int 0)]) [1, 2, 3, 4, 0] dX7_advise_45 (by decide) rfl ?_
    exact T_X7_advise_47 (G := G) hw FU a0 a1 r9 (-1) 0 N10 k100 h
set_option maxHeartbeats 4000000 in
set_option maxRecDepth 100000 in
theorem T_X7_advisex {G : XG} {Y : XY} (hw : WT Y) (h9 : ∀ a, kc Y a ≠ 9) {a0 : Nat} {a1 : Int32} {N : XN} (k100 : kc Y a0 = 17) {r9 : String} {N9 : XN} (h : f_X7_advise Y a0 a1 N = some (.inr r9, N9)) : Cl G yX7_advise cX7_advise 6 (some .int) (xR 8 1 6) [.ref a0, .int a1] (.inr r9) Y N Y N9 := by
  refine x_entry (by decide) (Nat.le_of_ble_eq_true rfl) rfl ?_
  rw [f_X7_advise] at h
  refine x_aload_n 0 dX7_advise_0 rfl rfl ?_
  obtain ⟨g1, k2⟩ := wt_X7_5 hw k100
  refine x_getr dX7_advise_1 vc_X7 xin7 fb_X7_5 fl_X7_37 xr_X7_5 k100 g1 ?_
  refine x_iload_n 1 dX7_advise_4 rfl rfl ?_
  refine x_cv (b := (gp Y a0 5)) (As := [.int a1]) (ci := 6) (d' := 1) (zz := yX6_hasLine) dX7_advise_5 ml_X7_154 wi_X6_hasLine wv_X6_hasLine wn_X6 wc_X6_hasLine hp_X6_hasLine (by decide) (by decide) rfl (Nat.le_of_ble_eq_true rfl) ⟨Nat.zero_le _, Nat.zero_le _⟩ rfl k2 (T_X6_hasLine (G := G) hw k2 rfl) ?_
  rcases x_if h with ⟨c3, h⟩ | ⟨c3, h⟩
  · refine x_if_ne_f (tgt := 21) dX7_advise_8 (by decide) c3 ?_
    obtain ⟨h7, rfl⟩ := Prod.mk.inj (x_so h)
    obtain rfl := Sum.inr.inj h7
    exact xt_iob dX7_advise_11 dX7_advise_14 dX7_advise_15 dX7_advise_17 dX7_advise_20 (tx := "no such line") (by decide) rfl (fun _ => h9 _) (by decide) (Nat.le_of_ble_eq_true rfl)
  · refine x_if_ne_t (tgt := 21) dX7_advise_8 (by decide) c3 ?_
    refine x_aload_n 0 dX7_advise_21 rfl rfl ?_
    obtain ⟨g4, k5⟩ := wt_X7_6 hw k100
    refine x_getr dX7_advise_22 vc_X7 xin7 fb_X7_6 fl_X7_41 xr_X7_6 k100 g4 ?_
    refine x_aload_n 0 dX7_advise_25 rfl rfl ?_
    refine x_getr dX7_advise_26 vc_X7 xin7 fb_X7_5 fl_X7_37 xr_X7_5 k100 g1 ?_
    obtain ⟨N7, q6, h⟩ := x_bd1 h
    refine x_cv (b := (gp Y a0 6)) (As := [.ref (gp Y a0 5)]) (ci := 6) (d' := 2) (zz := yX6_copyOf) dX7_advise_29 ml_X7_80 wi_X6_copyOf wv_X6_copyOf wn_X6 wc_X6_copyOf hp_X6_copyOf (by decide) (by decide) rfl (Nat.le_of_ble_eq_true rfl) ⟨Nat.zero_le _, Nat.zero_le _⟩ rfl k5 (T_X6_copyOf (G := G) hw k5 k2 q6) ?_
    refine x_aload_n 0 dX7_advise_32 rfl rfl ?_
    refine x_getr dX7_advise_33 vc_X7 xin7 fb_X7_6 fl_X7_41 xr_X7_6 k100 g4 ?_
    refine x_bipush (v := 100) dX7_advise_36 rfl ?_
    obtain ⟨r9, N10, q8, h⟩ := x_bd2 h
    refine x_cv (b := (gp Y a0 6)) (As := [.int 100]) (ci := 6) (d' := 7) (zz := yX6_finesWithin) dX7_advise_38 ml_X7_230 wi_X6_finesWithin wv_X6_finesWithin wn_X6 wc_X6_finesWithin hp_X6_finesWithin (by decide) (by decide) rfl (Nat.le_of_ble_eq_true rfl) ⟨Nat.zero_le _, Nat.zero_le _⟩ rfl k5 (T_X6_finesWithin (G := G) hw k5 q8) ?_
    refine x_istore_n (L' := [(0, .ref a0), (1, .int a1), (2, .int r9)]) [1, 2, 0] dX7_advise_41 rfl (by decide) rfl ?_
    refine x_iconst (v := (-1)) dX7_advise_42 rfl ?_
    refine x_istore_n (L' := [(0, .ref a0), (1, .int a1), (2, .int r9), (3, .int (-1))]) [1, 2, 3, 0] dX7_advise_43 rfl (by decide) rfl ?_
    refine x_iconst (v := 0) dX7_advise_44 rfl ?_
    refine x_istore (L' := [(0, .ref a0), (1, .int a1), (2, .int r9), (3, .int (-1)), (4, .int 0)]) [1, 2, 3, 4, 0] dX7_advise_45 (by decide) rfl ?_
    exact T_X7_advise_47x (G := G) hw h9 FU a0 a1 r9 (-1) 0 N10 k100 h
set_option maxHeartbeats 4000000 in
set_option maxRecDepth 100000 in
theorem T_X7_pass_52 {G : XG} {Y : XY} (hw : WT Y) {r9 : Int32} {N9 : XN}: ∀ (D9 : Nat) (p_0 : Nat) (v_1 : Int32) (v_2 : Int32) (v_3 : Int32) (N : XN), kc Y p_0 = 17 → f_X7_pass_52 Y D9 p_0 v_1 v_2 v_3 N = some (.inl r9, N9) → Ex G yX7_pass cX7_pass 4 (some .int) (xR 7 0 0) (.inl (some (.int r9))) Y N9 0 0 52 [(0, .ref p_0), (1, .int v_1), (2, .int v_2), (3, .int v_3)] [] Y N := by
  intro D9
  induction D9 with
  | zero => intro p_0 v_1 v_2 v_3 N kk0 h; exact nomatch (show none = some _ from h)
  | succ D9 ih =>
    intro p_0 v_1 v_2 v_3 N kk0 h
    rw [f_X7_pass_52] at h
    refine x_iload_n 3 dX7_pass_52 rfl rfl ?_
    refine x_iload_n 1 dX7_pass_53 rfl rfl ?_
    rcases x_if h with ⟨c1, h⟩ | ⟨c1, h⟩
    · refine x_icmp_ge_t (tgt := 70) dX7_pass_54 (by decide) c1 ?_
      refine x_aload_n 0 dX7_pass_70 rfl rfl ?_
      obtain ⟨g2, k3⟩ := wt_X7_5 hw kk0
      refine x_getr dX7_pass_71 vc_X7 xin7 fb_X7_5 fl_X7_37 xr_X7_5 kk0 g2 ?_
      refine x_iconst (v := 2) dX7_pass_74 rfl ?_
      obtain ⟨r5, q4, h⟩ := x_bd1 h
      refine x_cv (b := (gp Y p_0 5)) (As := [.int 2]) (ci := 6) (d' := 1) (zz := yX6_requestsIn) dX7_pass_75 ml_X7_99 wi_X6_requestsIn wv_X6_requestsIn wn_X6 wc_X6_requestsIn hp_X6_requestsIn (by decide) (by decide) rfl (Nat.le_of_ble_eq_true rfl) ⟨Nat.zero_le _, Nat.zero_le _⟩ rfl k3 (T_X6_requestsIn (G := G) hw k3 q4) ?_
      refine x_iload_n 2 dX7_pass_78 rfl rfl ?_
      refine x_isub dX7_pass_79 ?_
      obtain ⟨h7, rfl⟩ := Prod.mk.inj (x_so h)
      obtain rfl := Sum.inl.inj h7
      exact x_iret dX7_pass_80 rfl rfl rfl
    · refine x_icmp_ge_f (tgt := 70) dX7_pass_54 (by decide) c1 ?_
      refine x_aload_n 0 dX7_pass_57 rfl rfl ?_
      obtain ⟨g6, k7⟩ := wt_X7_5 hw kk0
      refine x_getr dX7_pass_58 vc_X7 xin7 fb_X7_5 fl_X7_37 xr_X7_5 kk0 g6 ?_
      obtain ⟨N9, q8, h⟩ := x_bd1 h
      refine x_cv (b := (gp Y p_0 5)) (As := []) (ci := 6) (d' := 6) (zz := yX6_passTick) dX7_pass_61 ml_X7_225 wi_X6_passTick wv_X6_passTick wn_X6 wc_X6_passTick hp_X6_passTick (by decide) (by decide) rfl (Nat.le_of_ble_eq_true rfl) ⟨Nat.zero_le _, Nat.zero_le _⟩ rfl k7 (T_X6_passTick (G := G) hw k7 q8) ?_
      refine x_iinc (L' := [(0, .ref p_0), (1, .int v_1), (2, .int v_2), (3, .int (v_3 + 1))]) 3 [1, 2, 3, 0] dX7_pass_64 rfl rfl (by decide) rfl ?_
      refine x_goto (tgt := 52) dX7_pass_67 (by decide) ?_
      exact ih p_0 v_1 v_2 (v_3 + 1) N9 kk0 h
set_option maxHeartbeats 4000000 in
set_option maxRecDepth 100000 in
theorem T_X7_pass_52x {G : XG} {Y : XY} (hw : WT Y) (h9 : ∀ a, kc Y a ≠ 9) {r9 : String} {N9 : XN}: ∀ (D9 : Nat) (p_0 : Nat) (v_1 : Int32) (v_2 : Int32) (v_3 : Int32) (N : XN), kc Y p_0 = 17 → f_X7_pass_52 Y D9 p_0 v_1 v_2 v_3 N = some (.inr r9, N9) → Ex G yX7_pass cX7_pass 4 (some .int) (xR 7 1 6) (.inr r9) Y N9 0 0 52 [(0, .ref p_0), (1, .int v_1), (2, .int v_2), (3, .int v_3)] [] Y N := by
  intro D9
  induction D9 with
  | zero => intro p_0 v_1 v_2 v_3 N kk0 h; exact nomatch (show none = some _ from h)
  | succ D9 ih =>
    intro p_0 v_1 v_2 v_3 N kk0 h
    rw [f_X7_pass_52] at h
    refine x_iload_n 3 dX7_pass_52 rfl rfl ?_
    refine x_iload_n 1 dX7_pass_53 rfl rfl ?_
    rcases x_if h with ⟨c1, h⟩ | ⟨c1, h⟩
    · refine x_icmp_ge_t (tgt := 70) dX7_pass_54 (by decide) c1 ?_
      refine x_aload_n 0 dX7_pass_70 rfl rfl ?_
      obtain ⟨g2, k3⟩ := wt_X7_5 hw kk0
      refine x_getr dX7_pass_71 vc_X7 xin7 fb_X7_5 fl_X7_37 xr_X7_5 kk0 g2 ?_
      refine x_iconst (v := 2) dX7_pass_74 rfl ?_
      obtain ⟨r5, q4, h⟩ := x_bd1 h
      refine x_cv (b := (gp Y p_0 5)) (As := [.int 2]) (ci := 6) (d' := 1) (zz := yX6_requestsIn) dX7_pass_75 ml_X7_99 wi_X6_requestsIn wv_X6_requestsIn wn_X6 wc_X6_requestsIn hp_X6_requestsIn (by decide) (by decide) rfl (Nat.le_of_ble_eq_true rfl) ⟨Nat.zero_le _, Nat.zero_le _⟩ rfl k3 (T_X6_requestsIn (G := G) hw k3 q4) ?_
      refine x_iload_n 2 dX7_pass_78 rfl rfl ?_
      refine x_isub dX7_pass_79 ?_
      cases (Prod.mk.inj (x_so h)).1
    · refine x_icmp_ge_f (tgt := 70) dX7_pass_54 (by decide) c1 ?_
      refine x_aload_n 0 dX7_pass_57 rfl rfl ?_
      obtain ⟨g6, k7⟩ := wt_X7_5 hw kk0
      refine x_getr dX7_pass_58 vc_X7 xin7 fb_X7_5 fl_X7_37 xr_X7_5 kk0 g6 ?_
      obtain ⟨N9, q8, h⟩ := x_bd1 h
      refine x_cv (b := (gp Y p_0 5)) (As := []) (ci := 6) (d' := 6) (zz := yX6_passTick) dX7_pass_61 ml_X7_225 wi_X6_passTick wv_X6_passTick wn_X6 wc_X6_passTick hp_X6_passTick (by decide) (by decide) rfl (Nat.le_of_ble_eq_true rfl) ⟨Nat.zero_le _, Nat.zero_le _⟩ rfl k7 (T_X6_passTick (G := G) hw k7 q8) ?_
      refine x_iinc (L' := [(0, .ref p_0), (1, .int v_1), (2, .int v_2), (3, .int (v_3 + 1))]) 3 [1, 2, 3, 0] dX7_pass_64 rfl rfl (by decide) rfl ?_
      refine x_goto (tgt := 52) dX7_pass_67 (by decide) ?_
      exact ih p_0 v_1 v_2 (v_3 + 1) N9 kk0 h
set_option maxHeartbeats 4000000 in
set_option maxRecDepth 100000 in
theorem T_X7_pass {G : XG} {Y : XY} (hw : WT Y) {a0 : Nat} {a1 : Int32} {N : XN} (k100 : kc Y a0 = 17) {r9 : Int32} {N9 : XN} (h : f_X7_pass Y a0 a1 N = some (.inl r9, N9)) : Cl G yX7_pass cX7_pass 4 (some .int) (xR 7 0 0) [.ref a0, .int a1] (.inl (some (.int r9))) Y N Y N9 := by
  refine x_entry (by decide) (Nat.le_of_ble_eq_true rfl) rfl ?_
  rw [f_X7_pass] at h
  refine x_iload_n 1 dX7_pass_0 rfl rfl ?_
  refine x_iconst (v := 1) dX7_pass_1 rfl ?_
  rcases x_if h with ⟨c1, h⟩ | ⟨c1, h⟩
  · refine x_icmp_lt_t (tgt := 27) dX7_pass_2 (by decide) c1 ?_
    cases (Prod.mk.inj (x_so h)).1
  · refine x_icmp_lt_f (tgt := 27) dX7_pass_2 (by decide) c1 ?_
    refine x_iload_n 1 dX7_pass_5 rfl rfl ?_
    refine x_sipush (v := 200) dX7_pass_6 rfl ?_
    rcases x_if h with ⟨c2, h⟩ | ⟨c2, h⟩
    · refine x_icmp_gt_t (tgt := 27) dX7_pass_9 (by decide) c2 ?_
      cases (Prod.mk.inj (x_so h)).1
    · refine x_icmp_gt_f (tgt := 27) dX7_pass_9 (by decide) c2 ?_
      refine x_aload_n 0 dX7_pass_12 rfl rfl ?_
      obtain ⟨g3, k4⟩ := wt_X7_5 hw k100
      refine x_getr dX7_pass_13 vc_X7 xin7 fb_X7_5 fl_X7_37 xr_X7_5 k100 g3 ?_
      refine x_geti dX7_pass_16 vc_X6 xin6 fb_X6_6 fl_X7_87 xr_X6_6 k4 ?_
      refine x_iload_n 1 dX7_pass_19 rfl rfl ?_
      refine x_iadd dX7_pass_20 ?_
      refine x_sipush (v := 9999) dX7_pass_21 rfl ?_
      rcases x_if h with ⟨c5, h⟩ | ⟨c5, h⟩
      · refine x_icmp_le_t (tgt := 37) dX7_pass_24 (by decide) c5 ?_
        refine x_aload_n 0 dX7_pass_37 rfl rfl ?_
        obtain ⟨N7, q6, h⟩ := x_bd1 h
        refine x_cv (b := a0) (As := []) (ci := 7) (d' := 3) (zz := yX7_keepPresent) dX7_pass_38 ml_X7_77 wi_X7_keepPresent wv_X7_keepPresent wn_X7 wc_X7_keepPresent hp_X7_keepPresent (by decide) (by decide) rfl (Nat.le_of_ble_eq_true rfl) ⟨Nat.zero_le _, Nat.zero_le _⟩ rfl k100 (T_X7_keepPresent (G := G) hw k100 q6) ?_
        refine x_aload_n 0 dX7_pass_41 rfl rfl ?_
        refine x_getr dX7_pass_42 vc_X7 xin7 fb_X7_5 fl_X7_37 xr_X7_5 k100 g3 ?_
        refine x_iconst (v := 2) dX7_pass_45 rfl ?_
        obtain ⟨r9, q8, h⟩ := x_bd1 h
        refine x_cv (b := (gp Y a0 5)) (As := [.int 2]) (ci := 6) (d' := 1) (zz := yX6_requestsIn) dX7_pass_46 ml_X7_99 wi_X6_requestsIn wv_X6_requestsIn wn_X6 wc_X6_requestsIn hp_X6_requestsIn (by decide) (by decide) rfl (Nat.le_of_ble_eq_true rfl) ⟨Nat.zero_le _, Nat.zero_le _⟩ rfl k4 (T_X6_requestsIn (G := G) hw k4 q8) ?_
        refine x_istore_n (L' := [(0, .ref a0), (1, .int a1), (2, .int r9)]) [1, 2, 0] dX7_pass_49 rfl (by decide) rfl ?_
        refine x_iconst (v := 0) dX7_pass_50 rfl ?_
        refine x_istore_n (L' := [(0, .ref a0), (1, .int a1), (2, .int r9), (3, .int 0)]) [1, 2, 3, 0] dX7_pass_51 rfl (by decide) rfl ?_
        exact T_X7_pass_52 (G := G) hw FU a0 a1 r9 0 N7 k100 h
      · refine x_icmp_le_f (tgt := 37) dX7_pass_24 (by decide) c5 ?_
        cases (Prod.mk.inj (x_so h)).1
set_option maxHeartbeats 4000000 in
set_option maxRecDepth 100000 in
theorem T_X7_passx {G : XG} {Y : XY} (hw : WT Y) (h9 : ∀ a, kc Y a ≠ 9) {a0 : Nat} {a1 : Int32} {N : XN} (k100 : kc Y a0 = 17) {r9 : String} {N9 : XN} (h : f_X7_pass Y a0 a1 N = some (.inr r9, N9)) : Cl G yX7_pass cX7_pass 4 (some .int) (xR 7 1 6) [.ref a0, .int a1] (.inr r9) Y N Y N9 := by
  refine x_entry (by decide) (Nat.le_of_ble_eq_true rfl) rfl ?_
  rw [f_X7_pass] at h
  refine x_iload_n 1 dX7_pass_0 rfl rfl ?_
  refine x_iconst (v := 1) dX7_pass_1 rfl ?_
  rcases x_if h with ⟨c1, h⟩ | ⟨c1, h⟩
  · refine x_icmp_lt_t (tgt := 27) dX7_pass_2 (by decide) c1 ?_
    obtain ⟨h7, rfl⟩ := Prod.mk.inj (x_so h)
    obtain rfl := Sum.inr.inj h7
    exact xt_iae dX7_pass_27 dX7_pass_30 dX7_pass_31 dX7_pass_33 dX7_pass_36 (tx := "no such number of ticks") (by decide) rfl (fun _ => h9 _) (by decide) (Nat.le_of_ble_eq_true rfl)
  · refine x_icmp_lt_f (tgt := 27) dX7_pass_2 (by decide) c1 ?_
    refine x_iload_n 1 dX7_pass_5 rfl rfl ?_
    refine x_sipush (v := 200) dX7_pass_6 rfl ?_
    rcases x_if h with ⟨c2, h⟩ | ⟨c2, h⟩
    · refine x_icmp_gt_t (tgt := 27) dX7_pass_9 (by decide) c2 ?_
      obtain ⟨h7, rfl⟩ := Prod.mk.inj (x_so h)
      obtain rfl := Sum.inr.inj h7
      exact xt_iae dX7_pass_27 dX7_pass_30 dX7_pass_31 dX7_pass_33 dX7_pass_36 (tx := "no such number of ticks") (by decide) rfl (fun _ => h9 _) (by decide) (Nat.le_of_ble_eq_true rfl)
    · refine x_icmp_gt_f (tgt := 27) dX7_pass_9 (by decide) c2 ?_
      refine x_aload_n 0 dX7_pass_12 rfl rfl ?_
      obtain ⟨g3, k4⟩ := wt_X7_5 hw k100
      refine x_getr dX7_pass_13 vc_X7 xin7 fb_X7_5 fl_X7_37 xr_X7_5 k100 g3 ?_
      refine x_geti dX7_pass_16 vc_X6 xin6 fb_X6_6 fl_X7_87 xr_X6_6 k4 ?_
      refine x_iload_n 1 dX7_pass_19 rfl rfl ?_
      refine x_iadd dX7_pass_20 ?_
      refine x_sipush (v := 9999) dX7_pass_21 rfl ?_
      rcases x_if h with ⟨c5, h⟩ | ⟨c5, h⟩
      · refine x_icmp_le_t (tgt := 37) dX7_pass_24 (by decide) c5 ?_
        refine x_aload_n 0 dX7_pass_37 rfl rfl ?_
        obtain ⟨N7, q6, h⟩ := x_bd1 h
        refine x_cv (b := a0) (As := []) (ci := 7) (d' := 3) (zz := yX7_keepPresent) dX7_pass_38 ml_X7_77 wi_X7_keepPresent wv_X7_keepPresent wn_X7 wc_X7_keepPresent hp_X7_keepPresent (by decide) (by decide) rfl (Nat.le_of_ble_eq_true rfl) ⟨Nat.zero_le _, Nat.zero_le _⟩ rfl k100 (T_X7_keepPresent (G := G) hw k100 q6) ?_
        refine x_aload_n 0 dX7_pass_41 rfl rfl ?_
        refine x_getr dX7_pass_42 vc_X7 xin7 fb_X7_5 fl_X7_37 xr_X7_5 k100 g3 ?_
        refine x_iconst (v := 2) dX7_pass_45 rfl ?_
        obtain ⟨r9, q8, h⟩ := x_bd1 h
        refine x_cv (b := (gp Y a0 5)) (As := [.int 2]) (ci := 6) (d' := 1) (zz := yX6_requestsIn) dX7_pass_46 ml_X7_99 wi_X6_requestsIn wv_X6_requestsIn wn_X6 wc_X6_requestsIn hp_X6_requestsIn (by decide) (by decide) rfl (Nat.le_of_ble_eq_true rfl) ⟨Nat.zero_le _, Nat.zero_le _⟩ rfl k4 (T_X6_requestsIn (G := G) hw k4 q8) ?_
        refine x_istore_n (L' := [(0, .ref a0), (1, .int a1), (2, .int r9)]) [1, 2, 0] dX7_pass_49 rfl (by decide) rfl ?_
        refine x_iconst (v := 0) dX7_pass_50 rfl ?_
        refine x_istore_n (L' := [(0, .ref a0), (1, .int a1), (2, .int r9), (3, .int 0)]) [1, 2, 3, 0] dX7_pass_51 rfl (by decide) rfl ?_
        exact T_X7_pass_52x (G := G) hw h9 FU a0 a1 r9 0 N7 k100 h
      · refine x_icmp_le_f (tgt := 37) dX7_pass_24 (by decide) c5 ?_
        obtain ⟨h7, rfl⟩ := Prod.mk.inj (x_so h)
        obtain rfl := Sum.inr.inj h7
        exact xt_iae dX7_pass_27 dX7_pass_30 dX7_pass_31 dX7_pass_33 dX7_pass_36 (tx := "no such number of ticks") (by decide) rfl (fun _ => h9 _) (by decide) (Nat.le_of_ble_eq_true rfl)
set_option maxHeartbeats 4000000 in
set_option maxRecDepth 100000 in
theorem T_X7_raise {G : XG} {Y : XY} (hw : WT Y) {a0 : Nat} {a1 : Int32} {a2 : Int32} {N : XN} (k100 : kc Y a0 = 17) {r9 : Int32} {N9 : XN} (h : f_X7_raise Y a0 a1 a2 N = some (.inl r9, N9)) : Cl G yX7_raise cX7_raise 4 (some .int) (xR 7 0 0) [.ref a0, .int a1, .int a2] (.inl (some (.int r9))) Y N Y N9 := by
  refine x_entry (by decide) (Nat.le_of_ble_eq_true rfl) rfl ?_
  rw [f_X7_raise] at h
  refine x_aload_n 0 dX7_raise_0 rfl rfl ?_
  obtain ⟨g1, k2⟩ := wt_X7_5 hw k100
  refine x_getr dX7_raise_1 vc_X7 xin7 fb_X7_5 fl_X7_37 xr_X7_5 k100 g1 ?_
  refine x_iload_n 1 dX7_raise_4 rfl rfl ?_
  refine x_cv (b := (gp Y a0 5)) (As := [.int a1]) (ci := 6) (d' := 1) (zz := yX6_hasLine) dX7_raise_5 ml_X7_154 wi_X6_hasLine wv_X6_hasLine wn_X6 wc_X6_hasLine hp_X6_hasLine (by decide) (by decide) rfl (Nat.le_of_ble_eq_true rfl) ⟨Nat.zero_le _, Nat.zero_le _⟩ rfl k2 (T_X6_hasLine (G := G) hw k2 rfl) ?_
  rcases x_if h with ⟨c3, h⟩ | ⟨c3, h⟩
  · refine x_if_ne_f (tgt := 21) dX7_raise_8 (by decide) c3 ?_
    cases (Prod.mk.inj (x_so h)).1
  · refine x_if_ne_t (tgt := 21) dX7_raise_8 (by decide) c3 ?_
    refine x_iload_n 2 dX7_raise_21 rfl rfl ?_
    refine x_iconst (v := 1) dX7_raise_22 rfl ?_
    rcases x_if h with ⟨c4, h⟩ | ⟨c4, h⟩
    · refine x_icmp_lt_t (tgt := 32) dX7_raise_23 (by decide) c4 ?_
      cases (Prod.mk.inj (x_so h)).1
    · refine x_icmp_lt_f (tgt := 32) dX7_raise_23 (by decide) c4 ?_
      refine x_iload_n 2 dX7_raise_26 rfl rfl ?_
      refine x_bipush (v := 99) dX7_raise_27 rfl ?_
      rcases x_if h with ⟨c5, h⟩ | ⟨c5, h⟩
      · refine x_icmp_le_t (tgt := 42) dX7_raise_29 (by decide) c5 ?_
        refine x_aload_n 0 dX7_raise_42 rfl rfl ?_
        refine x_getr dX7_raise_43 vc_X7 xin7 fb_X7_5 fl_X7_37 xr_X7_5 k100 g1 ?_
        refine x_geti dX7_raise_46 vc_X6 xin6 fb_X6_5 fl_X7_84 xr_X6_5 k2 ?_
        refine x_bipush (v := 60) dX7_raise_49 rfl ?_
        rcases x_if h with ⟨c6, h⟩ | ⟨c6, h⟩
        · refine x_icmp_lt_t (tgt := 64) dX7_raise_51 (by decide) c6 ?_
          refine x_aload_n 0 dX7_raise_64 rfl rfl ?_
          obtain ⟨N8, q7, h⟩ := x_bd1 h
          refine x_cv (b := a0) (As := []) (ci := 7) (d' := 3) (zz := yX7_keepPresent) dX7_raise_65 ml_X7_77 wi_X7_keepPresent wv_X7_keepPresent wn_X7 wc_X7_keepPresent hp_X7_keepPresent (by decide) (by decide) rfl (Nat.le_of_ble_eq_true rfl) ⟨Nat.zero_le _, Nat.zero_le _⟩ rfl k100 (T_X7_keepPresent (G := G) hw k100 q7) ?_
          refine x_aload_n 0 dX7_raise_68 rfl rfl ?_
          refine x_getr dX7_raise_69 vc_X7 xin7 fb_X7_5 fl_X7_37 xr_X7_5 k100 g1 ?_
          refine x_geti dX7_raise_72 vc_X6 xin6 fb_X6_5 fl_X7_84 xr_X6_5 k2 ?_
          refine x_istore_n (L' := [(0, .ref a0), (1, .int a1), (2, .int a2), (3, .int (gi N8 (gp Y a0 5) 5))]) [1, 2, 3, 0] dX7_raise_75 rfl (by decide) rfl ?_
          refine x_aload_n 0 dX7_raise_76 rfl rfl ?_
          refine x_getr dX7_raise_77 vc_X7 xin7 fb_X7_5 fl_X7_37 xr_X7_5 k100 g1 ?_
          refine x_iload_n 1 dX7_raise_80 rfl rfl ?_
          refine x_aload_n 0 dX7_raise_81 rfl rfl ?_
          refine x_getr dX7_raise_82 vc_X7 xin7 fb_X7_5 fl_X7_37 xr_X7_5 k100 g1 ?_
          refine x_geti dX7_raise_85 vc_X6 xin6 fb_X6_6 fl_X7_87 xr_X6_6 k2 ?_
          refine x_iload_n 2 dX7_raise_88 rfl rfl ?_
          obtain ⟨N10, q9, h⟩ := x_bd1 h
          refine x_cv (b := (gp Y a0 5)) (As := [.int a1, .int (gi N8 (gp Y a0 5) 6), .int a2]) (ci := 6) (d' := 2) (zz := yX6_addRequest) dX7_raise_89 ml_X7_247 wi_X6_addRequest wv_X6_addRequest wn_X6 wc_X6_addRequest hp_X6_addRequest (by decide) (by decide) rfl (Nat.le_of_ble_eq_true rfl) ⟨Nat.zero_le _, Nat.zero_le _⟩ rfl k2 (T_X6_addRequest (G := G) hw k2 q9) ?_
          refine x_aload_n 0 dX7_raise_92 rfl rfl ?_
          refine x_getr dX7_raise_93 vc_X7 xin7 fb_X7_5 fl_X7_37 xr_X7_5 k100 g1 ?_
          refine x_aload_n 0 dX7_raise_96 rfl rfl ?_
          refine x_getr dX7_raise_97 vc_X7 xin7 fb_X7_5 fl_X7_37 xr_X7_5 k100 g1 ?_
          obtain ⟨g11, k12, n13⟩ := wt_X6_4 hw k2
          refine x_getr dX7_raise_100 vc_X6 xin6 fb_X6_4 fl_X7_195 xr_X6_4 k2 g11 ?_
          refine x_iload_n 3 dX7_raise_103 rfl rfl ?_
          obtain ⟨c14, h⟩ := x_ck h
          obtain ⟨g15, k16⟩ := wt_6 hw k12 (xb_at n13 c14)
          refine x_aald (j := 2) dX7_raise_104 (by decide) k12 (xb_at n13 c14) g15 ?_
          obtain ⟨N18, q17, h⟩ := x_bd1 h
          refine x_cv (b := (gp Y a0 5)) (As := [.ref (gp Y (gp Y (gp Y a0 5) 4) (gi N8 (gp Y a0 5) 5).toNatClampNeg)]) (ci := 6) (d' := 3) (zz := yX6_openOrRefuse) dX7_raise_105 ml_X7_251 wi_X6_openOrRefuse wv_X6_openOrRefuse wn_X6 wc_X6_openOrRefuse hp_X6_openOrRefuse (by decide) (by decide) rfl (Nat.le_of_ble_eq_true rfl) ⟨Nat.zero_le _, Nat.zero_le _⟩ rfl k2 (T_X6_openOrRefuse (G := G) hw k2 k16 q17) ?_
          refine x_iload_n 3 dX7_raise_108 rfl rfl ?_
          obtain ⟨h7, rfl⟩ := Prod.mk.inj (x_so h)
          obtain rfl := Sum.inl.inj h7
          exact x_iret dX7_raise_109 rfl rfl rfl
        · refine x_icmp_lt_f (tgt := 64) dX7_raise_51 (by decide) c6 ?_
          cases (Prod.mk.inj (x_so h)).1
      · refine x_icmp_le_f (tgt := 42) dX7_raise_29 (by decide) c5 ?_
        cases (Prod.mk.inj (x_so h)).1
set_option maxHeartbeats 4000000 in
set_option maxRecDepth 100000 in
theorem T_X7_raisex {G : XG} {Y : XY} (hw : WT Y) (h9 : ∀ a, kc Y a ≠ 9) {a0 : Nat} {a1 : Int32} {a2 : Int32} {N : XN} (k100 : kc Y a0 = 17) {r9 : String} {N9 : XN} (h : f_X7_raise Y a0 a1 a2 N = some (.inr r9, N9)) : Cl G yX7_raise cX7_raise 4 (some .int) (xR 7 1 6) [.ref a0, .int a1, .int a2] (.inr r9) Y N Y N9 := by
  refine x_entry (by decide) (Nat.le_of_ble_eq_true rfl) rfl ?_
  rw [f_X7_raise] at h
  refine x_aload_n 0 dX7_raise_0 rfl rfl ?_
  obtain ⟨g1, k2⟩ := wt_X7_5 hw k100
  refine x_getr dX7_raise_1 vc_X7 xin7 fb_X7_5 fl_X7_37 xr_X7_5 k100 g1 ?_
  refine x_iload_n 1 dX7_raise_4 rfl rfl ?_
  refine x_cv (b := (gp Y a0 5)) (As := [.int a1]) (ci := 6) (d' := 1) (zz := yX6_hasLine) dX7_raise_5 ml_X7_154 wi_X6_hasLine wv_X6_hasLine wn_X6 wc_X6_hasLine hp_X6_hasLine (by decide) (by decide) rfl (Nat.le_of_ble_eq_true rfl) ⟨Nat.zero_le _, Nat.zero_le _⟩ rfl k2 (T_X6_hasLine (G := G) hw k2 rfl) ?_
  rcases x_if h with ⟨c3, h⟩ | ⟨c3, h⟩
  · refine x_if_ne_f (tgt := 21) dX7_raise_8 (by decide) c3 ?_
    obtain ⟨h7, rfl⟩ := Prod.mk.inj (x_so h)
    obtain rfl := Sum.inr.inj h7
    exact xt_iob dX7_raise_11 dX7_raise_14 dX7_raise_15 dX7_raise_17 dX7_raise_20 (tx := "no such line") (by decide) rfl (fun _ => h9 _) (by decide) (Nat.le_of_ble_eq_true rfl)
  · refine x_if_ne_t (tgt := 21) dX7_raise_8 (by decide) c3 ?_
    refine x_iload_n 2 dX7_raise_21 rfl rfl ?_
    refine x_iconst (v := 1) dX7_raise_22 rfl ?_
    rcases x_if h with ⟨c4, h⟩ | ⟨c4, h⟩
    · refine x_icmp_lt_t (tgt := 32) dX7_raise_23 (by decide) c4 ?_
      obtain ⟨h7, rfl⟩ := Prod.mk.inj (x_so h)
      obtain rfl := Sum.inr.inj h7
      exact xt_iae dX7_raise_32 dX7_raise_35 dX7_raise_36 dX7_raise_38 dX7_raise_41 (tx := "no such work") (by decide) rfl (fun _ => h9 _) (by decide) (Nat.le_of_ble_eq_true rfl)
    · refine x_icmp_lt_f (tgt := 32) dX7_raise_23 (by decide) c4 ?_
      refine x_iload_n 2 dX7_raise_26 rfl rfl ?_
      refine x_bipush (v := 99) dX7_raise_27 rfl ?_
      rcases x_if h with ⟨c5, h⟩ | ⟨c5, h⟩
      · refine x_icmp_le_t (tgt := 42) dX7_raise_29 (by decide) c5 ?_
        refine x_aload_n 0 dX7_raise_42 rfl rfl ?_
        refine x_getr dX7_raise_43 vc_X7 xin7 fb_X7_5 fl_X7_37 xr_X7_5 k100 g1 ?_
        refine x_geti dX7_raise_46 vc_X6 xin6 fb_X6_5 fl_X7_84 xr_X6_5 k2 ?_
        refine x_bipush (v := 60) dX7_raise_49 rfl ?_
        rcases x_if h with ⟨c6, h⟩ | ⟨c6, h⟩
        · refine x_icmp_lt_t (tgt := 64) dX7_raise_51 (by decide) c6 ?_
          refine x_aload_n 0 dX7_raise_64 rfl rfl ?_
          obtain ⟨N8, q7, h⟩ := x_bd1 h
          refine x_cv (b := a0) (As := []) (ci := 7) (d' := 3) (zz := yX7_keepPresent) dX7_raise_65 ml_X7_77 wi_X7_keepPresent wv_X7_keepPresent wn_X7 wc_X7_keepPresent hp_X7_keepPresent (by decide) (by decide) rfl (Nat.le_of_ble_eq_true rfl) ⟨Nat.zero_le _, Nat.zero_le _⟩ rfl k100 (T_X7_keepPresent (G := G) hw k100 q7) ?_
          refine x_aload_n 0 dX7_raise_68 rfl rfl ?_
          refine x_getr dX7_raise_69 vc_X7 xin7 fb_X7_5 fl_X7_37 xr_X7_5 k100 g1 ?_
          refine x_geti dX7_raise_72 vc_X6 xin6 fb_X6_5 fl_X7_84 xr_X6_5 k2 ?_
          refine x_istore_n (L' := [(0, .ref a0), (1, .int a1), (2, .int a2), (3, .int (gi N8 (gp Y a0 5) 5))]) [1, 2, 3, 0] dX7_raise_75 rfl (by decide) rfl ?_
          refine x_aload_n 0 dX7_raise_76 rfl rfl ?_
          refine x_getr dX7_raise_77 vc_X7 xin7 fb_X7_5 fl_X7_37 xr_X7_5 k100 g1 ?_
          refine x_iload_n 1 dX7_raise_80 rfl rfl ?_
          refine x_aload_n 0 dX7_raise_81 rfl rfl ?_
          refine x_getr dX7_raise_82 vc_X7 xin7 fb_X7_5 fl_X7_37 xr_X7_5 k100 g1 ?_
          refine x_geti dX7_raise_85 vc_X6 xin6 fb_X6_6 fl_X7_87 xr_X6_6 k2 ?_
          refine x_iload_n 2 dX7_raise_88 rfl rfl ?_
          obtain ⟨N10, q9, h⟩ := x_bd1 h
          refine x_cv (b := (gp Y a0 5)) (As := [.int a1, .int (gi N8 (gp Y a0 5) 6), .int a2]) (ci := 6) (d' := 2) (zz := yX6_addRequest) dX7_raise_89 ml_X7_247 wi_X6_addRequest wv_X6_addRequest wn_X6 wc_X6_addRequest hp_X6_addRequest (by decide) (by decide) rfl (Nat.le_of_ble_eq_true rfl) ⟨Nat.zero_le _, Nat.zero_le _⟩ rfl k2 (T_X6_addRequest (G := G) hw k2 q9) ?_
          refine x_aload_n 0 dX7_raise_92 rfl rfl ?_
          refine x_getr dX7_raise_93 vc_X7 xin7 fb_X7_5 fl_X7_37 xr_X7_5 k100 g1 ?_
          refine x_aload_n 0 dX7_raise_96 rfl rfl ?_
          refine x_getr dX7_raise_97 vc_X7 xin7 fb_X7_5 fl_X7_37 xr_X7_5 k100 g1 ?_
          obtain ⟨g11, k12, n13⟩ := wt_X6_4 hw k2
          refine x_getr dX7_raise_100 vc_X6 xin6 fb_X6_4 fl_X7_195 xr_X6_4 k2 g11 ?_
          refine x_iload_n 3 dX7_raise_103 rfl rfl ?_
          obtain ⟨c14, h⟩ := x_ck h
          obtain ⟨g15, k16⟩ := wt_6 hw k12 (xb_at n13 c14)
          refine x_aald (j := 2) dX7_raise_104 (by decide) k12 (xb_at n13 c14) g15 ?_
          obtain ⟨N18, q17, h⟩ := x_bd1 h
          refine x_cv (b := (gp Y a0 5)) (As := [.ref (gp Y (gp Y (gp Y a0 5) 4) (gi N8 (gp Y a0 5) 5).toNatClampNeg)]) (ci := 6) (d' := 3) (zz := yX6_openOrRefuse) dX7_raise_105 ml_X7_251 wi_X6_openOrRefuse wv_X6_openOrRefuse wn_X6 wc_X6_openOrRefuse hp_X6_openOrRefuse (by decide) (by decide) rfl (Nat.le_of_ble_eq_true rfl) ⟨Nat.zero_le _, Nat.zero_le _⟩ rfl k2 (T_X6_openOrRefuse (G := G) hw k2 k16 q17) ?_
          refine x_iload_n 3 dX7_raise_108 rfl rfl ?_
          cases (Prod.mk.inj (x_so h)).1
        · refine x_icmp_lt_f (tgt := 64) dX7_raise_51 (by decide) c6 ?_
          obtain ⟨h7, rfl⟩ := Prod.mk.inj (x_so h)
          obtain rfl := Sum.inr.inj h7
          exact xt_ise dX7_raise_54 dX7_raise_57 dX7_raise_58 dX7_raise_60 dX7_raise_63 (tx := "there are 60 requests") (by decide) rfl (fun _ => h9 _) (by decide) (Nat.le_of_ble_eq_true rfl)
      · refine x_icmp_le_f (tgt := 42) dX7_raise_29 (by decide) c5 ?_
        obtain ⟨h7, rfl⟩ := Prod.mk.inj (x_so h)
        obtain rfl := Sum.inr.inj h7
        exact xt_iae dX7_raise_32 dX7_raise_35 dX7_raise_36 dX7_raise_38 dX7_raise_41 (tx := "no such work") (by decide) rfl (fun _ => h9 _) (by decide) (Nat.le_of_ble_eq_true rfl)
set_option maxHeartbeats 4000000 in
set_option maxRecDepth 100000 in
theorem T_X7_lease {G : XG} {Y : XY} (hw : WT Y) {a0 : Nat} {a1 : Int32} {a2 : Int32} {N : XN} (k100 : kc Y a0 = 17) {r9 : Int32} {N9 : XN} (h : f_X7_lease Y a0 a1 a2 N = some (.inl r9, N9)) : Cl G yX7_lease cX7_lease 3 (some .int) (xR 7 0 0) [.ref a0, .int a1, .int a2] (.inl (some (.int r9))) Y N Y N9 := by
  refine x_entry (by decide) (Nat.le_of_ble_eq_true rfl) rfl ?_
  rw [f_X7_lease] at h
  refine x_aload_n 0 dX7_lease_0 rfl rfl ?_
  obtain ⟨g1, k2⟩ := wt_X7_5 hw k100
  refine x_getr dX7_lease_1 vc_X7 xin7 fb_X7_5 fl_X7_37 xr_X7_5 k100 g1 ?_
  refine x_iload_n 1 dX7_lease_4 rfl rfl ?_
  refine x_cv (b := (gp Y a0 5)) (As := [.int a1]) (ci := 6) (d' := 1) (zz := yX6_hasHandler) dX7_lease_5 ml_X7_112 wi_X6_hasHandler wv_X6_hasHandler wn_X6 wc_X6_hasHandler hp_X6_hasHandler (by decide) (by decide) rfl (Nat.le_of_ble_eq_true rfl) ⟨Nat.zero_le _, Nat.zero_le _⟩ rfl k2 (T_X6_hasHandler (G := G) hw k2 rfl) ?_
  rcases x_if h with ⟨c3, h⟩ | ⟨c3, h⟩
  · refine x_if_eq_t (tgt := 22) dX7_lease_8 (by decide) c3 ?_
    cases (Prod.mk.inj (x_so h)).1
  · refine x_if_eq_f (tgt := 22) dX7_lease_8 (by decide) c3 ?_
    refine x_aload_n 0 dX7_lease_11 rfl rfl ?_
    refine x_getr dX7_lease_12 vc_X7 xin7 fb_X7_5 fl_X7_37 xr_X7_5 k100 g1 ?_
    refine x_iload_n 2 dX7_lease_15 rfl rfl ?_
    refine x_cv (b := (gp Y a0 5)) (As := [.int a2]) (ci := 6) (d' := 1) (zz := yX6_hasLine) dX7_lease_16 ml_X7_154 wi_X6_hasLine wv_X6_hasLine wn_X6 wc_X6_hasLine hp_X6_hasLine (by decide) (by decide) rfl (Nat.le_of_ble_eq_true rfl) ⟨Nat.zero_le _, Nat.zero_le _⟩ rfl k2 (T_X6_hasLine (G := G) hw k2 rfl) ?_
    rcases x_if h with ⟨c4, h⟩ | ⟨c4, h⟩
    · refine x_if_ne_f (tgt := 32) dX7_lease_19 (by decide) c4 ?_
      cases (Prod.mk.inj (x_so h)).1
    · refine x_if_ne_t (tgt := 32) dX7_lease_19 (by decide) c4 ?_
      refine x_aload_n 0 dX7_lease_32 rfl rfl ?_
      obtain ⟨N6, q5, h⟩ := x_bd1 h
      refine x_cv (b := a0) (As := []) (ci := 7) (d' := 3) (zz := yX7_keepPresent) dX7_lease_33 ml_X7_77 wi_X7_keepPresent wv_X7_keepPresent wn_X7 wc_X7_keepPresent hp_X7_keepPresent (by decide) (by decide) rfl (Nat.le_of_ble_eq_true rfl) ⟨Nat.zero_le _, Nat.zero_le _⟩ rfl k100 (T_X7_keepPresent (G := G) hw k100 q5) ?_
      refine x_aload_n 0 dX7_lease_36 rfl rfl ?_
      refine x_getr dX7_lease_37 vc_X7 xin7 fb_X7_5 fl_X7_37 xr_X7_5 k100 g1 ?_
      refine x_iload_n 1 dX7_lease_40 rfl rfl ?_
      refine x_iload_n 2 dX7_lease_41 rfl rfl ?_
      obtain ⟨r8, q7, h⟩ := x_bd1 h
      refine x_cv (b := (gp Y a0 5)) (As := [.int a1, .int a2]) (ci := 6) (d' := 2) (zz := yX6_mayLease) dX7_lease_42 ml_X7_233 wi_X6_mayLease wv_X6_mayLease wn_X6 wc_X6_mayLease hp_X6_mayLease (by decide) (by decide) rfl (Nat.le_of_ble_eq_true rfl) ⟨Nat.zero_le _, Nat.zero_le _⟩ rfl k2 (T_X6_mayLease (G := G) hw k2 q7) ?_
      rcases x_if h with ⟨c9, h⟩ | ⟨c9, h⟩
      · refine x_if_eq_t (tgt := 60) dX7_lease_45 (by decide) c9 ?_
        refine x_iconst (v := (-1)) dX7_lease_60 rfl ?_
        obtain ⟨h7, rfl⟩ := Prod.mk.inj (x_so h)
        obtain rfl := Sum.inl.inj h7
        exact x_iret dX7_lease_61 rfl rfl rfl
      · refine x_if_eq_f (tgt := 60) dX7_lease_45 (by decide) c9 ?_
        refine x_aload_n 0 dX7_lease_48 rfl rfl ?_
        refine x_getr dX7_lease_49 vc_X7 xin7 fb_X7_5 fl_X7_37 xr_X7_5 k100 g1 ?_
        refine x_iload_n 1 dX7_lease_52 rfl rfl ?_
        refine x_iload_n 2 dX7_lease_53 rfl rfl ?_
        obtain ⟨r11, N12, q10, h⟩ := x_bd2 h
        refine x_cv (b := (gp Y a0 5)) (As := [.int a1, .int a2]) (ci := 6) (d' := 4) (zz := yX6_letLease) dX7_lease_54 ml_X7_237 wi_X6_letLease wv_X6_letLease wn_X6 wc_X6_letLease hp_X6_letLease (by decide) (by decide) rfl (Nat.le_of_ble_eq_true rfl) ⟨Nat.zero_le _, Nat.zero_le _⟩ rfl k2 (T_X6_letLease (G := G) hw k2 q10) ?_
        refine x_goto (tgt := 61) dX7_lease_57 (by decide) ?_
        obtain ⟨h7, rfl⟩ := Prod.mk.inj (x_so h)
        obtain rfl := Sum.inl.inj h7
        exact x_iret dX7_lease_61 rfl rfl rfl
set_option maxHeartbeats 4000000 in
set_option maxRecDepth 100000 in
theorem T_X7_leasex {G : XG} {Y : XY} (hw : WT Y) (h9 : ∀ a, kc Y a ≠ 9) {a0 : Nat} {a1 : Int32} {a2 : Int32} {N : XN} (k100 : kc Y a0 = 17) {r9 : String} {N9 : XN} (h : f_X7_lease Y a0 a1 a2 N = some (.inr r9, N9)) : Cl G yX7_lease cX7_lease 3 (some .int) (xR 7 1 6) [.ref a0, .int a1, .int a2] (.inr r9) Y N Y N9 := by
  refine x_entry (by decide) (Nat.le_of_ble_eq_true rfl) rfl ?_
  rw [f_X7_lease] at h
  refine x_aload_n 0 dX7_lease_0 rfl rfl ?_
  obtain ⟨g1, k2⟩ := wt_X7_5 hw k100
  refine x_getr dX7_lease_1 vc_X7 xin7 fb_X7_5 fl_X7_37 xr_X7_5 k100 g1 ?_
  refine x_iload_n 1 dX7_lease_4 rfl rfl ?_
  refine x_cv (b := (gp Y a0 5)) (As := [.int a1]) (ci := 6) (d' := 1) (zz := yX6_hasHandler) dX7_lease_5 ml_X7_112 wi_X6_hasHandler wv_X6_hasHandler wn_X6 wc_X6_hasHandler hp_X6_hasHandler (by decide) (by decide) rfl (Nat.le_of_ble_eq_true rfl) ⟨Nat.zero_le _, Nat.zero_le _⟩ rfl k2 (T_X6_hasHandler (G := G) hw k2 rfl) ?_
  rcases x_if h with ⟨c3, h⟩ | ⟨c3, h⟩
  · refine x_if_eq_t (tgt := 22) dX7_lease_8 (by decide) c3 ?_
    obtain ⟨h7, rfl⟩ := Prod.mk.inj (x_so h)
    obtain rfl := Sum.inr.inj h7
    exact xt_iob dX7_lease_22 dX7_lease_25 dX7_lease_26 dX7_lease_28 dX7_lease_31 (tx := "no such handler or line") (by decide) rfl (fun _ => h9 _) (by decide) (Nat.le_of_ble_eq_true rfl)
  · refine x_if_eq_f (tgt := 22) dX7_lease_8 (by decide) c3 ?_
    refine x_aload_n 0 dX7_lease_11 rfl rfl ?_
    refine x_getr dX7_lease_12 vc_X7 xin7 fb_X7_5 fl_X7_37 xr_X7_5 k100 g1 ?_
    refine x_iload_n 2 dX7_lease_15 rfl rfl ?_
    refine x_cv (b := (gp Y a0 5)) (As := [.int a2]) (ci := 6) (d' := 1) (zz := yX6_hasLine) dX7_lease_16 ml_X7_154 wi_X6_hasLine wv_X6_hasLine wn_X6 wc_X6_hasLine hp_X6_hasLine (by decide) (by decide) rfl (Nat.le_of_ble_eq_true rfl) ⟨Nat.zero_le _, Nat.zero_le _⟩ rfl k2 (T_X6_hasLine (G := G) hw k2 rfl) ?_
    rcases x_if h with ⟨c4, h⟩ | ⟨c4, h⟩
    · refine x_if_ne_f (tgt := 32) dX7_lease_19 (by decide) c4 ?_
      obtain ⟨h7, rfl⟩ := Prod.mk.inj (x_so h)
      obtain rfl := Sum.inr.inj h7
      exact xt_iob dX7_lease_22 dX7_lease_25 dX7_lease_26 dX7_lease_28 dX7_lease_31 (tx := "no such handler or line") (by decide) rfl (fun _ => h9 _) (by decide) (Nat.le_of_ble_eq_true rfl)
    · refine x_if_ne_t (tgt := 32) dX7_lease_19 (by decide) c4 ?_
      refine x_aload_n 0 dX7_lease_32 rfl rfl ?_
      obtain ⟨N6, q5, h⟩ := x_bd1 h
      refine x_cv (b := a0) (As := []) (ci := 7) (d' := 3) (zz := yX7_keepPresent) dX7_lease_33 ml_X7_77 wi_X7_keepPresent wv_X7_keepPresent wn_X7 wc_X7_keepPresent hp_X7_keepPresent (by decide) (by decide) rfl (Nat.le_of_ble_eq_true rfl) ⟨Nat.zero_le _, Nat.zero_le _⟩ rfl k100 (T_X7_keepPresent (G := G) hw k100 q5) ?_
      refine x_aload_n 0 dX7_lease_36 rfl rfl ?_
      refine x_getr dX7_lease_37 vc_X7 xin7 fb_X7_5 fl_X7_37 xr_X7_5 k100 g1 ?_
      refine x_iload_n 1 dX7_lease_40 rfl rfl ?_
      refine x_iload_n 2 dX7_lease_41 rfl rfl ?_
      obtain ⟨r8, q7, h⟩ := x_bd1 h
      refine x_cv (b := (gp Y a0 5)) (As := [.int a1, .int a2]) (ci := 6) (d' := 2) (zz := yX6_mayLease) dX7_lease_42 ml_X7_233 wi_X6_mayLease wv_X6_mayLease wn_X6 wc_X6_mayLease hp_X6_mayLease (by decide) (by decide) rfl (Nat.le_of_ble_eq_true rfl) ⟨Nat.zero_le _, Nat.zero_le _⟩ rfl k2 (T_X6_mayLease (G := G) hw k2 q7) ?_
      rcases x_if h with ⟨c9, h⟩ | ⟨c9, h⟩
      · refine x_if_eq_t (tgt := 60) dX7_lease_45 (by decide) c9 ?_
        refine x_iconst (v := (-1)) dX7_lease_60 rfl ?_
        cases (Prod.mk.inj (x_so h)).1
      · refine x_if_eq_f (tgt := 60) dX7_lease_45 (by decide) c9 ?_
        refine x_aload_n 0 dX7_lease_48 rfl rfl ?_
        refine x_getr dX7_lease_49 vc_X7 xin7 fb_X7_5 fl_X7_37 xr_X7_5 k100 g1 ?_
        refine x_iload_n 1 dX7_lease_52 rfl rfl ?_
        refine x_iload_n 2 dX7_lease_53 rfl rfl ?_
        obtain ⟨r11, N12, q10, h⟩ := x_bd2 h
        refine x_cv (b := (gp Y a0 5)) (As := [.int a1, .int a2]) (ci := 6) (d' := 4) (zz := yX6_letLease) dX7_lease_54 ml_X7_237 wi_X6_letLease wv_X6_letLease wn_X6 wc_X6_letLease hp_X6_letLease (by decide) (by decide) rfl (Nat.le_of_ble_eq_true rfl) ⟨Nat.zero_le _, Nat.zero_le _⟩ rfl k2 (T_X6_letLease (G := G) hw k2 q10) ?_
        refine x_goto (tgt := 61) dX7_lease_57 (by decide) ?_
        cases (Prod.mk.inj (x_so h)).1
set_option maxHeartbeats 4000000 in
set_option maxRecDepth 100000 in
theorem T_X7_release {G : XG} {Y : XY} (hw : WT Y) {a0 : Nat} {a1 : Int32} {a2 : Int32} {N : XN} (k100 : kc Y a0 = 17) {r9 : Int32} {N9 : XN} (h : f_X7_release Y a0 a1 a2 N = some (.inl r9, N9)) : Cl G yX7_release cX7_release 3 (some .int) (xR 7 0 0) [.ref a0, .int a1, .int a2] (.inl (some (.int r9))) Y N Y N9 := by
  refine x_entry (by decide) (Nat.le_of_ble_eq_true rfl) rfl ?_
  rw [f_X7_release] at h
  refine x_aload_n 0 dX7_release_0 rfl rfl ?_
  obtain ⟨g1, k2⟩ := wt_X7_5 hw k100
  refine x_getr dX7_release_1 vc_X7 xin7 fb_X7_5 fl_X7_37 xr_X7_5 k100 g1 ?_
  refine x_iload_n 1 dX7_release_4 rfl rfl ?_
  refine x_cv (b := (gp Y a0 5)) (As := [.int a1]) (ci := 6) (d' := 1) (zz := yX6_hasHandler) dX7_release_5 ml_X7_112 wi_X6_hasHandler wv_X6_hasHandler wn_X6 wc_X6_hasHandler hp_X6_hasHandler (by decide) (by decide) rfl (Nat.le_of_ble_eq_true rfl) ⟨Nat.zero_le _, Nat.zero_le _⟩ rfl k2 (T_X6_hasHandler (G := G) hw k2 rfl) ?_
  rcases x_if h with ⟨c3, h⟩ | ⟨c3, h⟩
  · refine x_if_eq_t (tgt := 22) dX7_release_8 (by decide) c3 ?_
    cases (Prod.mk.inj (x_so h)).1
  · refine x_if_eq_f (tgt := 22) dX7_release_8 (by decide) c3 ?_
    refine x_aload_n 0 dX7_release_11 rfl rfl ?_
    refine x_getr dX7_release_12 vc_X7 xin7 fb_X7_5 fl_X7_37 xr_X7_5 k100 g1 ?_
    refine x_iload_n 2 dX7_release_15 rfl rfl ?_
    refine x_cv (b := (gp Y a0 5)) (As := [.int a2]) (ci := 6) (d' := 1) (zz := yX6_hasLine) dX7_release_16 ml_X7_154 wi_X6_hasLine wv_X6_hasLine wn_X6 wc_X6_hasLine hp_X6_hasLine (by decide) (by decide) rfl (Nat.le_of_ble_eq_true rfl) ⟨Nat.zero_le _, Nat.zero_le _⟩ rfl k2 (T_X6_hasLine (G := G) hw k2 rfl) ?_
    rcases x_if h with ⟨c4, h⟩ | ⟨c4, h⟩
    · refine x_if_ne_f (tgt := 32) dX7_release_19 (by decide) c4 ?_
      cases (Prod.mk.inj (x_so h)).1
    · refine x_if_ne_t (tgt := 32) dX7_release_19 (by decide) c4 ?_
      refine x_aload_n 0 dX7_release_32 rfl rfl ?_
      obtain ⟨N6, q5, h⟩ := x_bd1 h
      refine x_cv (b := a0) (As := []) (ci := 7) (d' := 3) (zz := yX7_keepPresent) dX7_release_33 ml_X7_77 wi_X7_keepPresent wv_X7_keepPresent wn_X7 wc_X7_keepPresent hp_X7_keepPresent (by decide) (by decide) rfl (Nat.le_of_ble_eq_true rfl) ⟨Nat.zero_le _, Nat.zero_le _⟩ rfl k100 (T_X7_keepPresent (G := G) hw k100 q5) ?_
      refine x_aload_n 0 dX7_release_36 rfl rfl ?_
      refine x_getr dX7_release_37 vc_X7 xin7 fb_X7_5 fl_X7_37 xr_X7_5 k100 g1 ?_
      obtain ⟨g7, k8, n9⟩ := wt_X6_2 hw k2
      refine x_getr dX7_release_40 vc_X6 xin6 fb_X6_2 fl_X7_159 xr_X6_2 k2 g7 ?_
      refine x_iload_n 2 dX7_release_43 rfl rfl ?_
      obtain ⟨c10, h⟩ := x_ck h
      obtain ⟨g11, k12⟩ := wt_5 hw k8 (xb_at n9 c10)
      refine x_aald (j := 1) dX7_release_44 (by decide) k8 (xb_at n9 c10) g11 ?_
      refine x_iload_n 1 dX7_release_45 rfl rfl ?_
      obtain ⟨r14, q13, h⟩ := x_bd1 h
      refine x_cv (b := (gp Y (gp Y (gp Y a0 5) 2) a2.toNatClampNeg)) (As := [.int a1]) (ci := 2) (d' := 1) (zz := yX2_placeOf) dX7_release_46 ml_X7_257 wi_X2_placeOf wv_X2_placeOf wn_X2 wc_X2_placeOf hp_X2_placeOf (by decide) (by decide) rfl (Nat.le_of_ble_eq_true rfl) ⟨Nat.zero_le _, Nat.zero_le _⟩ rfl k12 (T_X2_placeOf (G := G) hw k12 q13) ?_
      rcases x_if h with ⟨c15, h⟩ | ⟨c15, h⟩
      · refine x_if_lt_t (tgt := 64) dX7_release_49 (by decide) c15 ?_
        refine x_iconst (v := (-1)) dX7_release_64 rfl ?_
        obtain ⟨h7, rfl⟩ := Prod.mk.inj (x_so h)
        obtain rfl := Sum.inl.inj h7
        exact x_iret dX7_release_65 rfl rfl rfl
      · refine x_if_lt_f (tgt := 64) dX7_release_49 (by decide) c15 ?_
        refine x_aload_n 0 dX7_release_52 rfl rfl ?_
        refine x_getr dX7_release_53 vc_X7 xin7 fb_X7_5 fl_X7_37 xr_X7_5 k100 g1 ?_
        refine x_iload_n 1 dX7_release_56 rfl rfl ?_
        refine x_iload_n 2 dX7_release_57 rfl rfl ?_
        obtain ⟨r17, N18, q16, h⟩ := x_bd2 h
        refine x_cv (b := (gp Y a0 5)) (As := [.int a1, .int a2]) (ci := 6) (d' := 4) (zz := yX6_letRelease) dX7_release_58 ml_X7_260 wi_X6_letRelease wv_X6_letRelease wn_X6 wc_X6_letRelease hp_X6_letRelease (by decide) (by decide) rfl (Nat.le_of_ble_eq_true rfl) ⟨Nat.zero_le _, Nat.zero_le _⟩ rfl k2 (T_X6_letRelease (G := G) hw k2 q16) ?_
        refine x_goto (tgt := 65) dX7_release_61 (by decide) ?_
        obtain ⟨h7, rfl⟩ := Prod.mk.inj (x_so h)
        obtain rfl := Sum.inl.inj h7
        exact x_iret dX7_release_65 rfl rfl rfl
set_option maxHeartbeats 4000000 in
set_option maxRecDepth 100000 in
theorem T_X7_releasex {G : XG} {Y : XY} (hw : WT Y) (h9 : ∀ a, kc Y a ≠ 9) {a0 : Nat} {a1 : Int32} {a2 : Int32} {N : XN} (k100 : kc Y a0 = 17) {r9 : String} {N9 : XN} (h : f_X7_release Y a0 a1 a2 N = some (.inr r9, N9)) : Cl G yX7_release cX7_release 3 (some .int) (xR 7 1 6) [.ref a0, .int a1, .int a2] (.inr r9) Y N Y N9 := by
  refine x_entry (by decide) (Nat.le_of_ble_eq_true rfl) rfl ?_
  rw [f_X7_release] at h
  refine x_aload_n 0 dX7_release_0 rfl rfl ?_
  obtain ⟨g1, k2⟩ := wt_X7_5 hw k100
  refine x_getr dX7_release_1 vc_X7 xin7 fb_X7_5 fl_X7_37 xr_X7_5 k100 g1 ?_
  refine x_iload_n 1 dX7_release_4 rfl rfl ?_
  refine x_cv (b := (gp Y a0 5)) (As := [.int a1]) (ci := 6) (d' := 1) (zz := yX6_hasHandler) dX7_release_5 ml_X7_112 wi_X6_hasHandler wv_X6_hasHandler wn_X6 wc_X6_hasHandler hp_X6_hasHandler (by decide) (by decide) rfl (Nat.le_of_ble_eq_true rfl) ⟨Nat.zero_le _, Nat.zero_le _⟩ rfl k2 (T_X6_hasHandler (G := G) hw k2 rfl) ?_
  rcases x_if h with ⟨c3, h⟩ | ⟨c3, h⟩
  · refine x_if_eq_t (tgt := 22) dX7_release_8 (by decide) c3 ?_
    obtain ⟨h7, rfl⟩ := Prod.mk.inj (x_so h)
    obtain rfl := Sum.inr.inj h7
    exact xt_iob dX7_release_22 dX7_release_25 dX7_release_26 dX7_release_28 dX7_release_31 (tx := "no such handler or line") (by decide) rfl (fun _ => h9 _) (by decide) (Nat.le_of_ble_eq_true rfl)
  · refine x_if_eq_f (tgt := 22) dX7_release_8 (by decide) c3 ?_
    refine x_aload_n 0 dX7_release_11 rfl rfl ?_
    refine x_getr dX7_release_12 vc_X7 xin7 fb_X7_5 fl_X7_37 xr_X7_5 k100 g1 ?_
    refine x_iload_n 2 dX7_release_15 rfl rfl ?_
    refine x_cv (b := (gp Y a0 5)) (As := [.int a2]) (ci := 6) (d' := 1) (zz := yX6_hasLine) dX7_release_16 ml_X7_154 wi_X6_hasLine wv_X6_hasLine wn_X6 wc_X6_hasLine hp_X6_hasLine (by decide) (by decide) rfl (Nat.le_of_ble_eq_true rfl) ⟨Nat.zero_le _, Nat.zero_le _⟩ rfl k2 (T_X6_hasLine (G := G) hw k2 rfl) ?_
    rcases x_if h with ⟨c4, h⟩ | ⟨c4, h⟩
    · refine x_if_ne_f (tgt := 32) dX7_release_19 (by decide) c4 ?_
      obtain ⟨h7, rfl⟩ := Prod.mk.inj (x_so h)
      obtain rfl := Sum.inr.inj h7
      exact xt_iob dX7_release_22 dX7_release_25 dX7_release_26 dX7_release_28 dX7_release_31 (tx := "no such handler or line") (by decide) rfl (fun _ => h9 _) (by decide) (Nat.le_of_ble_eq_true rfl)
    · refine x_if_ne_t (tgt := 32) dX7_release_19 (by decide) c4 ?_
      refine x_aload_n 0 dX7_release_32 rfl rfl ?_
      obtain ⟨N6, q5, h⟩ := x_bd1 h
      refine x_cv (b := a0) (As := []) (ci := 7) (d' := 3) (zz := yX7_keepPresent) dX7_release_33 ml_X7_77 wi_X7_keepPresent wv_X7_keepPresent wn_X7 wc_X7_keepPresent hp_X7_keepPresent (by decide) (by decide) rfl (Nat.le_of_ble_eq_true rfl) ⟨Nat.zero_le _, Nat.zero_le _⟩ rfl k100 (T_X7_keepPresent (G := G) hw k100 q5) ?_
      refine x_aload_n 0 dX7_release_36 rfl rfl ?_
      refine x_getr dX7_release_37 vc_X7 xin7 fb_X7_5 fl_X7_37 xr_X7_5 k100 g1 ?_
      obtain ⟨g7, k8, n9⟩ := wt_X6_2 hw k2
      refine x_getr dX7_release_40 vc_X6 xin6 fb_X6_2 fl_X7_159 xr_X6_2 k2 g7 ?_
      refine x_iload_n 2 dX7_release_43 rfl rfl ?_
      obtain ⟨c10, h⟩ := x_ck h
      obtain ⟨g11, k12⟩ := wt_5 hw k8 (xb_at n9 c10)
      refine x_aald (j := 1) dX7_release_44 (by decide) k8 (xb_at n9 c10) g11 ?_
      refine x_iload_n 1 dX7_release_45 rfl rfl ?_
      obtain ⟨r14, q13, h⟩ := x_bd1 h
      refine x_cv (b := (gp Y (gp Y (gp Y a0 5) 2) a2.toNatClampNeg)) (As := [.int a1]) (ci := 2) (d' := 1) (zz := yX2_placeOf) dX7_release_46 ml_X7_257 wi_X2_placeOf wv_X2_placeOf wn_X2 wc_X2_placeOf hp_X2_placeOf (by decide) (by decide) rfl (Nat.le_of_ble_eq_true rfl) ⟨Nat.zero_le _, Nat.zero_le _⟩ rfl k12 (T_X2_placeOf (G := G) hw k12 q13) ?_
      rcases x_if h with ⟨c15, h⟩ | ⟨c15, h⟩
      · refine x_if_lt_t (tgt := 64) dX7_release_49 (by decide) c15 ?_
        refine x_iconst (v := (-1)) dX7_release_64 rfl ?_
        cases (Prod.mk.inj (x_so h)).1
      · refine x_if_lt_f (tgt := 64) dX7_release_49 (by decide) c15 ?_
        refine x_aload_n 0 dX7_release_52 rfl rfl ?_
        refine x_getr dX7_release_53 vc_X7 xin7 fb_X7_5 fl_X7_37 xr_X7_5 k100 g1 ?_
        refine x_iload_n 1 dX7_release_56 rfl rfl ?_
        refine x_iload_n 2 dX7_release_57 rfl rfl ?_
        obtain ⟨r17, N18, q16, h⟩ := x_bd2 h
        refine x_cv (b := (gp Y a0 5)) (As := [.int a1, .int a2]) (ci := 6) (d' := 4) (zz := yX6_letRelease) dX7_release_58 ml_X7_260 wi_X6_letRelease wv_X6_letRelease wn_X6 wc_X6_letRelease hp_X6_letRelease (by decide) (by decide) rfl (Nat.le_of_ble_eq_true rfl) ⟨Nat.zero_le _, Nat.zero_le _⟩ rfl k2 (T_X6_letRelease (G := G) hw k2 q16) ?_
        refine x_goto (tgt := 65) dX7_release_61 (by decide) ?_
        cases (Prod.mk.inj (x_so h)).1
set_option maxHeartbeats 4000000 in
set_option maxRecDepth 100000 in
theorem T_X7_fund {G : XG} {Y : XY} (hw : WT Y) {a0 : Nat} {a1 : Int32} {a2 : Int32} {N : XN} (k100 : kc Y a0 = 17) {r9 : Int32} {N9 : XN} (h : f_X7_fund Y a0 a1 a2 N = some (.inl r9, N9)) : Cl G yX7_fund cX7_fund 4 (some .int) (xR 7 0 0) [.ref a0, .int a1, .int a2] (.inl (some (.int r9))) Y N Y N9 := by
  refine x_entry (by decide) (Nat.le_of_ble_eq_true rfl) rfl ?_
  rw [f_X7_fund] at h
  refine x_aload_n 0 dX7_fund_0 rfl rfl ?_
  obtain ⟨g1, k2⟩ := wt_X7_5 hw k100
  refine x_getr dX7_fund_1 vc_X7 xin7 fb_X7_5 fl_X7_37 xr_X7_5 k100 g1 ?_
  refine x_iload_n 1 dX7_fund_4 rfl rfl ?_
  refine x_cv (b := (gp Y a0 5)) (As := [.int a1]) (ci := 6) (d' := 1) (zz := yX6_hasHandler) dX7_fund_5 ml_X7_112 wi_X6_hasHandler wv_X6_hasHandler wn_X6 wc_X6_hasHandler hp_X6_hasHandler (by decide) (by decide) rfl (Nat.le_of_ble_eq_true rfl) ⟨Nat.zero_le _, Nat.zero_le _⟩ rfl k2 (T_X6_hasHandler (G := G) hw k2 rfl) ?_
  rcases x_if h with ⟨c3, h⟩ | ⟨c3, h⟩
  · refine x_if_ne_f (tgt := 21) dX7_fund_8 (by decide) c3 ?_
    cases (Prod.mk.inj (x_so h)).1
  · refine x_if_ne_t (tgt := 21) dX7_fund_8 (by decide) c3 ?_
    refine x_iload_n 2 dX7_fund_21 rfl rfl ?_
    refine x_iconst (v := 1) dX7_fund_22 rfl ?_
    rcases x_if h with ⟨c4, h⟩ | ⟨c4, h⟩
    · refine x_icmp_lt_t (tgt := 33) dX7_fund_23 (by decide) c4 ?_
      cases (Prod.mk.inj (x_so h)).1
    · refine x_icmp_lt_f (tgt := 33) dX7_fund_23 (by decide) c4 ?_
      refine x_iload_n 2 dX7_fund_26 rfl rfl ?_
      refine x_sipush (v := 9999) dX7_fund_27 rfl ?_
      rcases x_if h with ⟨c5, h⟩ | ⟨c5, h⟩
      · refine x_icmp_le_t (tgt := 44) dX7_fund_30 (by decide) c5 ?_
        refine x_aload_n 0 dX7_fund_44 rfl rfl ?_
        obtain ⟨N7, q6, h⟩ := x_bd1 h
        refine x_cv (b := a0) (As := []) (ci := 7) (d' := 3) (zz := yX7_keepPresent) dX7_fund_45 ml_X7_77 wi_X7_keepPresent wv_X7_keepPresent wn_X7 wc_X7_keepPresent hp_X7_keepPresent (by decide) (by decide) rfl (Nat.le_of_ble_eq_true rfl) ⟨Nat.zero_le _, Nat.zero_le _⟩ rfl k100 (T_X7_keepPresent (G := G) hw k100 q6) ?_
        refine x_aload_n 0 dX7_fund_48 rfl rfl ?_
        refine x_getr dX7_fund_49 vc_X7 xin7 fb_X7_5 fl_X7_37 xr_X7_5 k100 g1 ?_
        obtain ⟨g8, k9, n10⟩ := wt_X6_0 hw k2
        refine x_getr dX7_fund_52 vc_X6 xin6 fb_X6_0 fl_X7_121 xr_X6_0 k2 g8 ?_
        refine x_iload_n 1 dX7_fund_55 rfl rfl ?_
        obtain ⟨c11, h⟩ := x_ck h
        obtain ⟨g12, k13⟩ := wt_4 hw k9 (xb_at n10 c11)
        refine x_aald (j := 0) dX7_fund_56 (by decide) k9 (xb_at n10 c11) g12 ?_
        obtain ⟨p14, ep14, h⟩ := x_lt h
        refine x_nmr ep14 ?_
        have k15 := k13; rw [← ep14] at k15
        refine x_astore_n (L' := [(2, .int a2), (3, .ref p14)]) [3, 0] dX7_fund_57 rfl (by decide) rfl ?_
        refine x_aload_n 1 dX7_fund_58 rfl rfl ?_
        refine x_dup dX7_fund_59 rfl ?_
        refine x_geti dX7_fund_60 vc_X1 xin1 fb_X1_0 fl_X7_125 xr_X1_0 k15 ?_
        refine x_iload_n 0 dX7_fund_63 rfl rfl ?_
        refine x_iadd dX7_fund_64 ?_
        refine x_puti dX7_fund_65 vc_X1 xin1 tyX1_ok nmX1 fb_X1_0 fl_X7_125 ff_X1_0 xr_X1_0 (nf_X1_0 _) (ft_X1_0 _) k15 ?_
        obtain ⟨N16, eN16, h⟩ := x_lt h
        refine x_nmN eN16 ?_
        refine x_aload_n 1 dX7_fund_68 rfl rfl ?_
        refine x_iconst (v := 0) dX7_fund_69 rfl ?_
        refine x_puti dX7_fund_70 vc_X1 xin1 tyX1_ok nmX1 fb_X1_2 fl_X7_133 ff_X1_2 xr_X1_2 rfl rfl k15 ?_
        obtain ⟨N17, eN17, h⟩ := x_lt h
        refine x_nmN eN17 ?_
        refine x_aload_n 1 dX7_fund_73 rfl rfl ?_
        refine x_geti dX7_fund_74 vc_X1 xin1 fb_X1_0 fl_X7_125 xr_X1_0 k15 ?_
        obtain ⟨h7, rfl⟩ := Prod.mk.inj (x_so h)
        obtain rfl := Sum.inl.inj h7
        exact x_iret dX7_fund_77 rfl rfl rfl
      · refine x_icmp_le_f (tgt := 44) dX7_fund_30 (by decide) c5 ?_
        cases (Prod.mk.inj (x_so h)).1
set_option maxHeartbeats 4000000 in
set_option maxRecDepth 100000 in
theorem T_X7_fundx {G : XG} {Y : XY} (hw : WT Y) (h9 : ∀ a, kc Y a ≠ 9) {a0 : Nat} {a1 : Int32} {a2 : Int32} {N : XN} (k100 : kc Y a0 = 17) {r9 : String} {N9 : XN} (h : f_X7_fund Y a0 a1 a2 N = some (.inr r9, N9)) : Cl G yX7_fund cX7_fund 4 (some .int) (xR 7 1 6) [.ref a0, .int a1, .int a2] (.inr r9) Y N Y N9 := by
  refine x_entry (by decide) (Nat.le_of_ble_eq_true rfl) rfl ?_
  rw [f_X7_fund] at h
  refine x_aload_n 0 dX7_fund_0 rfl rfl ?_
  obtain ⟨g1, k2⟩ := wt_X7_5 hw k100
  refine x_getr dX7_fund_1 vc_X7 xin7 fb_X7_5 fl_X7_37 xr_X7_5 k100 g1 ?_
  refine x_iload_n 1 dX7_fund_4 rfl rfl ?_
  refine x_cv (b := (gp Y a0 5)) (As := [.int a1]) (ci := 6) (d' := 1) (zz := yX6_hasHandler) dX7_fund_5 ml_X7_112 wi_X6_hasHandler wv_X6_hasHandler wn_X6 wc_X6_hasHandler hp_X6_hasHandler (by decide) (by decide) rfl (Nat.le_of_ble_eq_true rfl) ⟨Nat.zero_le _, Nat.zero_le _⟩ rfl k2 (T_X6_hasHandler (G := G) hw k2 rfl) ?_
  rcases x_if h with ⟨c3, h⟩ | ⟨c3, h⟩
  · refine x_if_ne_f (tgt := 21) dX7_fund_8 (by decide) c3 ?_
    obtain ⟨h7, rfl⟩ := Prod.mk.inj (x_so h)
    obtain rfl := Sum.inr.inj h7
    exact xt_iob dX7_fund_11 dX7_fund_14 dX7_fund_15 dX7_fund_17 dX7_fund_20 (tx := "no such handler") (by decide) rfl (fun _ => h9 _) (by decide) (Nat.le_of_ble_eq_true rfl)
  · refine x_if_ne_t (tgt := 21) dX7_fund_8 (by decide) c3 ?_
    refine x_iload_n 2 dX7_fund_21 rfl rfl ?_
    refine x_iconst (v := 1) dX7_fund_22 rfl ?_
    rcases x_if h with ⟨c4, h⟩ | ⟨c4, h⟩
    · refine x_icmp_lt_t (tgt := 33) dX7_fund_23 (by decide) c4 ?_
      obtain ⟨h7, rfl⟩ := Prod.mk.inj (x_so h)
      obtain rfl := Sum.inr.inj h7
      exact xt_iaew dX7_fund_33 dX7_fund_36 dX7_fund_37 dX7_fund_40 dX7_fund_43 (tx := "no such number of coins") (by decide) rfl (fun _ => h9 _) (by decide) (Nat.le_of_ble_eq_true rfl)
    · refine x_icmp_lt_f (tgt := 33) dX7_fund_23 (by decide) c4 ?_
      refine x_iload_n 2 dX7_fund_26 rfl rfl ?_
      refine x_sipush (v := 9999) dX7_fund_27 rfl ?_
      rcases x_if h with ⟨c5, h⟩ | ⟨c5, h⟩
      · refine x_icmp_le_t (tgt := 44) dX7_fund_30 (by decide) c5 ?_
        refine x_aload_n 0 dX7_fund_44 rfl rfl ?_
        obtain ⟨N7, q6, h⟩ := x_bd1 h
        refine x_cv (b := a0) (As := []) (ci := 7) (d' := 3) (zz := yX7_keepPresent) dX7_fund_45 ml_X7_77 wi_X7_keepPresent wv_X7_keepPresent wn_X7 wc_X7_keepPresent hp_X7_keepPresent (by decide) (by decide) rfl (Nat.le_of_ble_eq_true rfl) ⟨Nat.zero_le _, Nat.zero_le _⟩ rfl k100 (T_X7_keepPresent (G := G) hw k100 q6) ?_
        refine x_aload_n 0 dX7_fund_48 rfl rfl ?_
        refine x_getr dX7_fund_49 vc_X7 xin7 fb_X7_5 fl_X7_37 xr_X7_5 k100 g1 ?_
        obtain ⟨g8, k9, n10⟩ := wt_X6_0 hw k2
        refine x_getr dX7_fund_52 vc_X6 xin6 fb_X6_0 fl_X7_121 xr_X6_0 k2 g8 ?_
        refine x_iload_n 1 dX7_fund_55 rfl rfl ?_
        obtain ⟨c11, h⟩ := x_ck h
        obtain ⟨g12, k13⟩ := wt_4 hw k9 (xb_at n10 c11)
        refine x_aald (j := 0) dX7_fund_56 (by decide) k9 (xb_at n10 c11) g12 ?_
        obtain ⟨p14, ep14, h⟩ := x_lt h
        refine x_nmr ep14 ?_
        have k15 := k13; rw [← ep14] at k15
        refine x_astore_n (L' := [(2, .int a2), (3, .ref p14)]) [3, 0] dX7_fund_57 rfl (by decide) rfl ?_
        refine x_aload_n 1 dX7_fund_58 rfl rfl ?_
        refine x_dup dX7_fund_59 rfl ?_
        refine x_geti dX7_fund_60 vc_X1 xin1 fb_X1_0 fl_X7_125 xr_X1_0 k15 ?_
        refine x_iload_n 0 dX7_fund_63 rfl rfl ?_
        refine x_iadd dX7_fund_64 ?_
        refine x_puti dX7_fund_65 vc_X1 xin1 tyX1_ok nmX1 fb_X1_0 fl_X7_125 ff_X1_0 xr_X1_0 (nf_X1_0 _) (ft_X1_0 _) k15 ?_
        obtain ⟨N16, eN16, h⟩ := x_lt h
        refine x_nmN eN16 ?_
        refine x_aload_n 1 dX7_fund_68 rfl rfl ?_
        refine x_iconst (v := 0) dX7_fund_69 rfl ?_
        refine x_puti dX7_fund_70 vc_X1 xin1 tyX1_ok nmX1 fb_X1_2 fl_X7_133 ff_X1_2 xr_X1_2 rfl rfl k15 ?_
        obtain ⟨N17, eN17, h⟩ := x_lt h
        refine x_nmN eN17 ?_
        refine x_aload_n 1 dX7_fund_73 rfl rfl ?_
        refine x_geti dX7_fund_74 vc_X1 xin1 fb_X1_0 fl_X7_125 xr_X1_0 k15 ?_
        cases (Prod.mk.inj (x_so h)).1
      · refine x_icmp_le_f (tgt := 44) dX7_fund_30 (by decide) c5 ?_
        obtain ⟨h7, rfl⟩ := Prod.mk.inj (x_so h)
        obtain rfl := Sum.inr.inj h7
        exact xt_iaew dX7_fund_33 dX7_fund_36 dX7_fund_37 dX7_fund_40 dX7_fund_43 (tx := "no such number of coins") (by decide) rfl (fun _ => h9 _) (by decide) (Nat.le_of_ble_eq_true rfl)
set_option maxHeartbeats 4000000 in
set_option maxRecDepth 100000 in
theorem T_X7_undo {G : XG} {Y : XY} (hw : WT Y) {a0 : Nat} {N : XN} (k100 : kc Y a0 = 17) {r9 : Int32} {N9 : XN} (h : f_X7_undo Y a0 N = some (r9, N9)) : Cl G yX7_undo cX7_undo 1 (some .int) (xR 3 0 0) [.ref a0] (.inl (some (.int r9))) Y N Y N9 := by
  refine x_entry (by decide) (Nat.le_of_ble_eq_true rfl) rfl ?_
  rw [f_X7_undo] at h
  refine x_aload_n 0 dX7_undo_0 rfl rfl ?_
  refine x_geti dX7_undo_1 vc_X7 xin7 fb_X7_8 fl_X7_48 xr_X7_8 k100 ?_
  rcases x_if h with ⟨c1, h⟩ | ⟨c1, h⟩
  · refine x_if_ne_f (tgt := 9) dX7_undo_4 (by decide) c1 ?_
    refine x_iconst (v := (-1)) dX7_undo_7 rfl ?_
    obtain ⟨rfl, rfl⟩ := Prod.mk.inj (x_so h)
    exact x_iret dX7_undo_8 rfl rfl rfl
  · refine x_if_ne_t (tgt := 9) dX7_undo_4 (by decide) c1 ?_
    refine x_aload_n 0 dX7_undo_9 rfl rfl ?_
    refine x_aload_n 0 dX7_undo_10 rfl rfl ?_
    refine x_geti dX7_undo_11 vc_X7 xin7 fb_X7_9 fl_X7_51 xr_X7_9 k100 ?_
    rcases x_if h with ⟨c2, h⟩ | ⟨c2, h⟩
    · refine x_if_le_t (tgt := 26) dX7_undo_14 (by decide) c2 ?_
      refine x_aload_n 0 dX7_undo_26 rfl rfl ?_
      obtain ⟨g3, k4, n5⟩ := wt_X7_7 hw k100
      refine x_getr dX7_undo_27 vc_X7 xin7 fb_X7_7 fl_X7_44 xr_X7_7 k100 g3 ?_
      refine x_rlen (j := 3) dX7_undo_30 (by decide) k4 (congrArg Int32.ofNat n5) ?_
      refine x_iconst (v := 1) dX7_undo_31 rfl ?_
      refine x_isub dX7_undo_32 ?_
      refine x_puti dX7_undo_33 vc_X7 xin7 tyX7_ok nmX7 fb_X7_9 fl_X7_51 ff_X7_9 xr_X7_9 (nf_X7_9 _) (ft_X7_9 _) k100 ?_
      obtain ⟨N6, eN6, h⟩ := x_lt h
      refine x_nmN eN6 ?_
      refine x_aload_n 0 dX7_undo_36 rfl rfl ?_
      refine x_dup dX7_undo_37 rfl ?_
      refine x_geti dX7_undo_38 vc_X7 xin7 fb_X7_8 fl_X7_48 xr_X7_8 k100 ?_
      refine x_iconst (v := 1) dX7_undo_41 rfl ?_
      refine x_isub dX7_undo_42 ?_
      refine x_puti dX7_undo_43 vc_X7 xin7 tyX7_ok nmX7 fb_X7_8 fl_X7_48 ff_X7_8 xr_X7_8 (nf_X7_8 _) (ft_X7_8 _) k100 ?_
      obtain ⟨N7, eN7, h⟩ := x_lt h
      refine x_nmN eN7 ?_
      refine x_aload_n 0 dX7_undo_46 rfl rfl ?_
      obtain ⟨g8, k9⟩ := wt_X7_5 hw k100
      refine x_getr dX7_undo_47 vc_X7 xin7 fb_X7_5 fl_X7_37 xr_X7_5 k100 g8 ?_
      refine x_aload_n 0 dX7_undo_50 rfl rfl ?_
      refine x_getr dX7_undo_51 vc_X7 xin7 fb_X7_7 fl_X7_44 xr_X7_7 k100 g3 ?_
      refine x_aload_n 0 dX7_undo_54 rfl rfl ?_
      refine x_geti dX7_undo_55 vc_X7 xin7 fb_X7_9 fl_X7_51 xr_X7_9 k100 ?_
      obtain ⟨c10, h⟩ := x_ck h
      obtain ⟨g11, k12⟩ := wt_7 hw k4 (xb_at n5 c10)
      refine x_aald (j := 3) dX7_undo_58 (by decide) k4 (xb_at n5 c10) g11 ?_
      obtain ⟨N14, q13, h⟩ := x_bd1 h
      refine x_cv (b := (gp Y a0 5)) (As := [.ref (gp Y (gp Y a0 7) (gi N7 a0 9).toNatClampNeg)]) (ci := 6) (d' := 2) (zz := yX6_copyOf) dX7_undo_59 ml_X7_80 wi_X6_copyOf wv_X6_copyOf wn_X6 wc_X6_copyOf hp_X6_copyOf (by decide) (by decide) rfl (Nat.le_of_ble_eq_true rfl) ⟨Nat.zero_le _, Nat.zero_le _⟩ rfl k9 (T_X6_copyOf (G := G) hw k9 k12 q13) ?_
      refine x_aload_n 0 dX7_undo_62 rfl rfl ?_
      refine x_geti dX7_undo_63 vc_X7 xin7 fb_X7_8 fl_X7_48 xr_X7_8 k100 ?_
      obtain ⟨rfl, rfl⟩ := Prod.mk.inj (x_so h)
      exact x_iret dX7_undo_66 rfl rfl rfl
    · refine x_if_le_f (tgt := 26) dX7_undo_14 (by decide) c2 ?_
      refine x_aload_n 0 dX7_undo_17 rfl rfl ?_
      refine x_geti dX7_undo_18 vc_X7 xin7 fb_X7_9 fl_X7_51 xr_X7_9 k100 ?_
      refine x_iconst (v := 1) dX7_undo_21 rfl ?_
      refine x_isub dX7_undo_22 ?_
      refine x_goto (tgt := 33) dX7_undo_23 (by decide) ?_
      refine x_puti dX7_undo_33 vc_X7 xin7 tyX7_ok nmX7 fb_X7_9 fl_X7_51 ff_X7_9 xr_X7_9 (nf_X7_9 _) (ft_X7_9 _) k100 ?_
      obtain ⟨N15, eN15, h⟩ := x_lt h
      refine x_nmN eN15 ?_
      refine x_aload_n 0 dX7_undo_36 rfl rfl ?_
      refine x_dup dX7_undo_37 rfl ?_
      refine x_geti dX7_undo_38 vc_X7 xin7 fb_X7_8 fl_X7_48 xr_X7_8 k100 ?_
      refine x_iconst (v := 1) dX7_undo_41 rfl ?_
      refine x_isub dX7_undo_42 ?_
      refine x_puti dX7_undo_43 vc_X7 xin7 tyX7_ok nmX7 fb_X7_8 fl_X7_48 ff_X7_8 xr_X7_8 (nf_X7_8 _) (ft_X7_8 _) k100 ?_
      obtain ⟨N16, eN16, h⟩ := x_lt h
      refine x_nmN eN16 ?_
      refine x_aload_n 0 dX7_undo_46 rfl rfl ?_
      obtain ⟨g17, k18⟩ := wt_X7_5 hw k100
      refine x_getr dX7_undo_47 vc_X7 xin7 fb_X7_5 fl_X7_37 xr_X7_5 k100 g17 ?_
      refine x_aload_n 0 dX7_undo_50 rfl rfl ?_
      obtain ⟨g19, k20, n21⟩ := wt_X7_7 hw k100
      refine x_getr dX7_undo_51 vc_X7 xin7 fb_X7_7 fl_X7_44 xr_X7_7 k100 g19 ?_
      refine x_aload_n 0 dX7_undo_54 rfl rfl ?_
      refine x_geti dX7_undo_55 vc_X7 xin7 fb_X7_9 fl_X7_51 xr_X7_9 k100 ?_
      obtain ⟨c22, h⟩ := x_ck h
      obtain ⟨g23, k24⟩ := wt_7 hw k20 (xb_at n21 c22)
      refine x_aald (j := 3) dX7_undo_58 (by decide) k20 (xb_at n21 c22) g23 ?_
      obtain ⟨N26, q25, h⟩ := x_bd1 h
      refine x_cv (b := (gp Y a0 5)) (As := [.ref (gp Y (gp Y a0 7) (gi N16 a0 9).toNatClampNeg)]) (ci := 6) (d' := 2) (zz := yX6_copyOf) dX7_undo_59 ml_X7_80 wi_X6_copyOf wv_X6_copyOf wn_X6 wc_X6_copyOf hp_X6_copyOf (by decide) (by decide) rfl (Nat.le_of_ble_eq_true rfl) ⟨Nat.zero_le _, Nat.zero_le _⟩ rfl k18 (T_X6_copyOf (G := G) hw k18 k24 q25) ?_
      refine x_aload_n 0 dX7_undo_62 rfl rfl ?_
      refine x_geti dX7_undo_63 vc_X7 xin7 fb_X7_8 fl_X7_48 xr_X7_8 k100 ?_
      obtain ⟨rfl, rfl⟩ := Prod.mk.inj (x_so h)
      exact x_iret dX7_undo_66 rfl rfl rfl
set_option maxHeartbeats 4000000 in
set_option maxRecDepth 100000 in
theorem T_X7_checksum_185 {G : XG} {Y : XY} (hw : WT Y) {r9 : Int64} {N9 : XN} {k171 : Nat → Int64 → Int32 → XN → Option (Int64 × XN)} (hk171 : ∀ (p_0 : Nat) (w_1 : Int64) (v_3 : Int32) (N : XN), kc Y p_0 = 17 → k171 p_0 w_1 v_3 N = some (r9, N9) → Ex G yX7_checksum cX7_checksum 5 (some .long) (xR 8 0 0) (.inl (some (.long r9))) Y N9 0 0 171 [(0, .ref p_0), (1, .long w_1), (3, .int v_3)] [] Y N): ∀ (D9 : Nat) (p_0 : Nat) (w_1 : Int64) (v_3 : Int32) (v_4 : Int32) (N : XN), kc Y p_0 = 17 → f_X7_checksum_185 Y k171 D9 p_0 w_1 v_3 v_4 N = some (r9, N9) → Ex G yX7_checksum cX7_checksum 5 (some .long) (xR 8 0 0) (.inl (some (.long r9))) Y N9 0 0 185 [(0, .ref p_0), (1, .long w_1), (3, .int v_3), (4, .int v_4)] [] Y N := by
  intro D9
  induction D9 with
  | zero => intro p_0 w_1 v_3 v_4 N kk0 h; exact nomatch (show none = some _ from h)
  | succ D9 ih =>
    intro p_0 w_1 v_3 v_4 N kk0 h
    rw [f_X7_checksum_185] at h
    refine x_iload 3 dX7_checksum_185 rfl ?_
    refine x_bipush (v := 7) dX7_checksum_187 rfl ?_
    rcases x_if h with ⟨c1, h⟩ | ⟨c1, h⟩
    · refine x_icmp_ge_t (tgt := 213) dX7_checksum_189 (by decide) c1 ?_
      refine x_iinc (L' := [(0, .ref p_0), (1, .long w_1), (3, .int (v_3 + 1))]) 2 [1, 2, 0] dX7_checksum_213 rfl rfl (by decide) rfl ?_
      refine x_goto (tgt := 171) dX7_checksum_216 (by decide) ?_
      exact hk171 p_0 w_1 (v_3 + 1) N kk0 h
    · refine x_icmp_ge_f (tgt := 213) dX7_checksum_189 (by decide) c1 ?_
      refine x_ldc2 (v := 31) dX7_checksum_192 kl_X7_265 ?_
      refine x_lload_n 1 dX7_checksum_195 rfl rfl ?_
      refine x_lmul dX7_checksum_196 ?_
      refine x_aload_n 0 dX7_checksum_197 rfl rfl ?_
      refine x_iload_n 2 dX7_checksum_198 rfl rfl ?_
      refine x_iload 3 dX7_checksum_199 rfl ?_
      obtain ⟨r3, N4, q2, h⟩ := x_bdx h
      refine x_cv (b := p_0) (As := [.int v_3, .int v_4]) (ci := 7) (d' := 7) (zz := yX7_request) dX7_checksum_201 ml_X7_277 wi_X7_request wv_X7_request wn_X7 wc_X7_request hp_X7_request (by decide) (by decide) rfl (Nat.le_of_ble_eq_true rfl) ⟨Nat.zero_le _, Nat.zero_le _⟩ rfl kk0 (T_X7_request (G := G) hw kk0 q2) ?_
      refine x_i2l dX7_checksum_204 ?_
      refine x_ladd dX7_checksum_205 ?_
      obtain ⟨w5, ew5, h⟩ := x_lt h
      refine x_nml ew5 ?_
      refine x_lstore_n (L' := [(0, .ref p_0), (1, .long w5), (3, .int v_3), (4, .int v_4)]) [1, 0, 2, 3] dX7_checksum_206 rfl (by decide) rfl ?_
      refine x_iinc (L' := [(0, .ref p_0), (1, .long w5), (3, .int v_3), (4, .int (v_4 + 1))]) 3 [1, 2, 3, 0] dX7_checksum_207 rfl rfl (by decide) rfl ?_
      refine x_goto (tgt := 185) dX7_checksum_210 (by decide) ?_
      exact ih p_0 w5 v_3 (v_4 + 1) N4 kk0 h
set_option maxHeartbeats 4000000 in
set_option maxRecDepth 100000 in
theorem T_X7_checksum_171 {G : XG} {Y : XY} (hw : WT Y) {r9 : Int64} {N9 : XN}: ∀ (D9 : Nat) (p_0 : Nat) (w_1 : Int64) (v_3 : Int32) (N : XN), kc Y p_0 = 17 → f_X7_checksum_171 Y D9 p_0 w_1 v_3 N = some (r9, N9) → Ex G yX7_checksum cX7_checksum 5 (some .long) (xR 8 0 0) (.inl (some (.long r9))) Y N9 0 0 171 [(0, .ref p_0), (1, .long w_1), (3, .int v_3)] [] Y N := by
  intro D9
  induction D9 with
  | zero => intro p_0 w_1 v_3 N kk0 h; exact nomatch (show none = some _ from h)
  | succ D9 ih =>
    intro p_0 w_1 v_3 N kk0 h
    rw [f_X7_checksum_171] at h
    refine x_iload_n 2 dX7_checksum_171 rfl rfl ?_
    refine x_aload_n 0 dX7_checksum_172 rfl rfl ?_
    obtain ⟨g1, k2⟩ := wt_X7_5 hw kk0
    refine x_getr dX7_checksum_173 vc_X7 xin7 fb_X7_5 fl_X7_37 xr_X7_5 kk0 g1 ?_
    refine x_geti dX7_checksum_176 vc_X6 xin6 fb_X6_5 fl_X7_84 xr_X6_5 k2 ?_
    rcases x_if h with ⟨c3, h⟩ | ⟨c3, h⟩
    · refine x_icmp_ge_t (tgt := 219) dX7_checksum_179 (by decide) c3 ?_
      refine x_lload_n 1 dX7_checksum_219 rfl rfl ?_
      obtain ⟨rfl, rfl⟩ := Prod.mk.inj (x_so h)
      exact x_lret dX7_checksum_220 rfl rfl rfl
    · refine x_icmp_ge_f (tgt := 219) dX7_checksum_179 (by decide) c3 ?_
      refine x_iconst (v := 0) dX7_checksum_182 rfl ?_
      refine x_istore (L' := [(0, .ref p_0), (1, .long w_1), (3, .int v_3), (4, .int 0)]) [1, 2, 3, 0] dX7_checksum_183 (by decide) rfl ?_
      exact T_X7_checksum_185 (G := G) hw ih FU p_0 w_1 v_3 0 N kk0 h
set_option maxHeartbeats 4000000 in
set_option maxRecDepth 100000 in
theorem T_X7_checksum_125 {G : XG} {Y : XY} (hw : WT Y) {r9 : Int64} {N9 : XN} {k81 : Nat → Int64 → Int32 → XN → Option (Int64 × XN)} (hk81 : ∀ (p_0 : Nat) (w_1 : Int64) (v_3 : Int32) (N : XN), kc Y p_0 = 17 → k81 p_0 w_1 v_3 N = some (r9, N9) → Ex G yX7_checksum cX7_checksum 5 (some .long) (xR 8 0 0) (.inl (some (.long r9))) Y N9 0 0 81 [(0, .ref p_0), (1, .long w_1), (3, .int v_3)] [] Y N): ∀ (D9 : Nat) (p_0 : Nat) (w_1 : Int64) (v_3 : Int32) (v_4 : Int32) (N : XN), kc Y p_0 = 17 → f_X7_checksum_125 Y k81 D9 p_0 w_1 v_3 v_4 N = some (r9, N9) → Ex G yX7_checksum cX7_checksum 5 (some .long) (xR 8 0 0) (.inl (some (.long r9))) Y N9 0 0 125 [(0, .ref p_0), (1, .long w_1), (3, .int v_3), (4, .int v_4)] [] Y N := by
  intro D9
  induction D9 with
  | zero => intro p_0 w_1 v_3 v_4 N kk0 h; exact nomatch (show none = some _ from h)
  | succ D9 ih =>
    intro p_0 w_1 v_3 v_4 N kk0 h
    rw [f_X7_checksum_125] at h
    refine x_iload 3 dX7_checksum_125 rfl ?_
    refine x_aload_n 0 dX7_checksum_127 rfl rfl ?_
    obtain ⟨g1, k2⟩ := wt_X7_5 hw kk0
    refine x_getr dX7_checksum_128 vc_X7 xin7 fb_X7_5 fl_X7_37 xr_X7_5 kk0 g1 ?_
    obtain ⟨g3, k4, n5⟩ := wt_X6_2 hw k2
    refine x_getr dX7_checksum_131 vc_X6 xin6 fb_X6_2 fl_X7_159 xr_X6_2 k2 g3 ?_
    refine x_iload_n 2 dX7_checksum_134 rfl rfl ?_
    obtain ⟨c6, h⟩ := x_ck h
    obtain ⟨g7, k8⟩ := wt_5 hw k4 (xb_at n5 c6)
    refine x_aald (j := 1) dX7_checksum_135 (by decide) k4 (xb_at n5 c6) g7 ?_
    refine x_geti dX7_checksum_136 vc_X2 xin2 fb_X2_4 fl_X7_172 xr_X2_4 k8 ?_
    rcases x_if h with ⟨c9, h⟩ | ⟨c9, h⟩
    · refine x_icmp_ge_t (tgt := 163) dX7_checksum_139 (by decide) c9 ?_
      refine x_iinc (L' := [(0, .ref p_0), (1, .long w_1), (3, .int (v_3 + 1))]) 2 [1, 2, 0] dX7_checksum_163 rfl rfl (by decide) rfl ?_
      refine x_goto (tgt := 81) dX7_checksum_166 (by decide) ?_
      exact hk81 p_0 w_1 (v_3 + 1) N kk0 h
    · refine x_icmp_ge_f (tgt := 163) dX7_checksum_139 (by decide) c9 ?_
      refine x_ldc2 (v := 31) dX7_checksum_142 kl_X7_265 ?_
      refine x_lload_n 1 dX7_checksum_145 rfl rfl ?_
      refine x_lmul dX7_checksum_146 ?_
      refine x_aload_n 0 dX7_checksum_147 rfl rfl ?_
      refine x_iload_n 2 dX7_checksum_148 rfl rfl ?_
      refine x_iload 3 dX7_checksum_149 rfl ?_
      obtain ⟨r11, N12, q10, h⟩ := x_bdx h
      refine x_cv (b := p_0) (As := [.int v_3, .int v_4]) (ci := 7) (d' := 7) (zz := yX7_tenant) dX7_checksum_151 ml_X7_274 wi_X7_tenant wv_X7_tenant wn_X7 wc_X7_tenant hp_X7_tenant (by decide) (by decide) rfl (Nat.le_of_ble_eq_true rfl) ⟨Nat.zero_le _, Nat.zero_le _⟩ rfl kk0 (T_X7_tenant (G := G) hw kk0 q10) ?_
      refine x_i2l dX7_checksum_154 ?_
      refine x_ladd dX7_checksum_155 ?_
      obtain ⟨w13, ew13, h⟩ := x_lt h
      refine x_nml ew13 ?_
      refine x_lstore_n (L' := [(0, .ref p_0), (1, .long w13), (3, .int v_3), (4, .int v_4)]) [1, 0, 2, 3] dX7_checksum_156 rfl (by decide) rfl ?_
      refine x_iinc (L' := [(0, .ref p_0), (1, .long w13), (3, .int v_3), (4, .int (v_4 + 1))]) 3 [1, 2, 3, 0] dX7_checksum_157 rfl rfl (by decide) rfl ?_
      refine x_goto (tgt := 125) dX7_checksum_160 (by decide) ?_
      exact ih p_0 w13 v_3 (v_4 + 1) N12 kk0 h
set_option maxHeartbeats 4000000 in
set_option maxRecDepth 100000 in
theorem T_X7_checksum_95 {G : XG} {Y : XY} (hw : WT Y) {r9 : Int64} {N9 : XN} {k81 : Nat → Int64 → Int32 → XN → Option (Int64 × XN)} (hk81 : ∀ (p_0 : Nat) (w_1 : Int64) (v_3 : Int32) (N : XN), kc Y p_0 = 17 → k81 p_0 w_1 v_3 N = some (r9, N9) → Ex G yX7_checksum cX7_checksum 5 (some .long) (xR 8 0 0) (.inl (some (.long r9))) Y N9 0 0 81 [(0, .ref p_0), (1, .long w_1), (3, .int v_3)] [] Y N): ∀ (D9 : Nat) (p_0 : Nat) (w_1 : Int64) (v_3 : Int32) (v_4 : Int32) (N : XN), kc Y p_0 = 17 → f_X7_checksum_95 Y k81 D9 p_0 w_1 v_3 v_4 N = some (r9, N9) → Ex G yX7_checksum cX7_checksum 5 (some .long) (xR 8 0 0) (.inl (some (.long r9))) Y N9 0 0 95 [(0, .ref p_0), (1, .long w_1), (3, .int v_3), (4, .int v_4)] [] Y N := by
  intro D9
  induction D9 with
  | zero => intro p_0 w_1 v_3 v_4 N kk0 h; exact nomatch (show none = some _ from h)
  | succ D9 ih =>
    intro p_0 w_1 v_3 v_4 N kk0 h
    rw [f_X7_checksum_95] at h
    refine x_iload 3 dX7_checksum_95 rfl ?_
    refine x_iconst (v := 5) dX7_checksum_97 rfl ?_
    rcases x_if h with ⟨c1, h⟩ | ⟨c1, h⟩
    · refine x_icmp_ge_t (tgt := 122) dX7_checksum_98 (by decide) c1 ?_
      refine x_iconst (v := 0) dX7_checksum_122 rfl ?_
      refine x_istore (L' := [(0, .ref p_0), (1, .long w_1), (3, .int v_3), (4, .int 0)]) [1, 2, 3, 0] dX7_checksum_123 (by decide) rfl ?_
      exact T_X7_checksum_125 (G := G) hw hk81 FU p_0 w_1 v_3 0 N kk0 h
    · refine x_icmp_ge_f (tgt := 122) dX7_checksum_98 (by decide) c1 ?_
      refine x_ldc2 (v := 31) dX7_checksum_101 kl_X7_265 ?_
      refine x_lload_n 1 dX7_checksum_104 rfl rfl ?_
      refine x_lmul dX7_checksum_105 ?_
      refine x_aload_n 0 dX7_checksum_106 rfl rfl ?_
      refine x_iload_n 2 dX7_checksum_107 rfl rfl ?_
      refine x_iload 3 dX7_checksum_108 rfl ?_
      obtain ⟨r3, N4, q2, h⟩ := x_bdx h
      refine x_cv (b := p_0) (As := [.int v_3, .int v_4]) (ci := 7) (d' := 7) (zz := yX7_line) dX7_checksum_110 ml_X7_272 wi_X7_line wv_X7_line wn_X7 wc_X7_line hp_X7_line (by decide) (by decide) rfl (Nat.le_of_ble_eq_true rfl) ⟨Nat.zero_le _, Nat.zero_le _⟩ rfl kk0 (T_X7_line (G := G) hw kk0 q2) ?_
      refine x_i2l dX7_checksum_113 ?_
      refine x_ladd dX7_checksum_114 ?_
      obtain ⟨w5, ew5, h⟩ := x_lt h
      refine x_nml ew5 ?_
      refine x_lstore_n (L' := [(0, .ref p_0), (1, .long w5), (3, .int v_3), (4, .int v_4)]) [1, 0, 2, 3] dX7_checksum_115 rfl (by decide) rfl ?_
      refine x_iinc (L' := [(0, .ref p_0), (1, .long w5), (3, .int v_3), (4, .int (v_4 + 1))]) 3 [1, 2, 3, 0] dX7_checksum_116 rfl rfl (by decide) rfl ?_
      refine x_goto (tgt := 95) dX7_checksum_119 (by decide) ?_
      exact ih p_0 w5 v_3 (v_4 + 1) N4 kk0 h
set_option maxHeartbeats 4000000 in
set_option maxRecDepth 100000 in
theorem T_X7_checksum_81 {G : XG} {Y : XY} (hw : WT Y) {r9 : Int64} {N9 : XN}: ∀ (D9 : Nat) (p_0 : Nat) (w_1 : Int64) (v_3 : Int32) (N : XN), kc Y p_0 = 17 → f_X7_checksum_81 Y D9 p_0 w_1 v_3 N = some (r9, N9) → Ex G yX7_checksum cX7_checksum 5 (some .long) (xR 8 0 0) (.inl (some (.long r9))) Y N9 0 0 81 [(0, .ref p_0), (1, .long w_1), (3, .int v_3)] [] Y N := by
  intro D9
  induction D9 with
  | zero => intro p_0 w_1 v_3 N kk0 h; exact nomatch (show none = some _ from h)
  | succ D9 ih =>
    intro p_0 w_1 v_3 N kk0 h
    rw [f_X7_checksum_81] at h
    refine x_iload_n 2 dX7_checksum_81 rfl rfl ?_
    refine x_aload_n 0 dX7_checksum_82 rfl rfl ?_
    obtain ⟨g1, k2⟩ := wt_X7_5 hw kk0
    refine x_getr dX7_checksum_83 vc_X7 xin7 fb_X7_5 fl_X7_37 xr_X7_5 kk0 g1 ?_
    refine x_geti dX7_checksum_86 vc_X6 xin6 fb_X6_3 fl_X7_93 xr_X6_3 k2 ?_
    rcases x_if h with ⟨c3, h⟩ | ⟨c3, h⟩
    · refine x_icmp_ge_t (tgt := 169) dX7_checksum_89 (by decide) c3 ?_
      refine x_iconst (v := 0) dX7_checksum_169 rfl ?_
      refine x_istore_n (L' := [(0, .ref p_0), (1, .long w_1), (3, .int 0)]) [1, 2, 0] dX7_checksum_170 rfl (by decide) rfl ?_
      exact T_X7_checksum_171 (G := G) hw FU p_0 w_1 0 N kk0 h
    · refine x_icmp_ge_f (tgt := 169) dX7_checksum_89 (by decide) c3 ?_
      refine x_iconst (v := 0) dX7_checksum_92 rfl ?_
      refine x_istore (L' := [(0, .ref p_0), (1, .long w_1), (3, .int v_3), (4, .int 0)]) [1, 2, 3, 0] dX7_checksum_93 (by decide) rfl ?_
      exact T_X7_checksum_95 (G := G) hw ih FU p_0 w_1 v_3 0 N kk0 h
set_option maxHeartbeats 4000000 in
set_option maxRecDepth 100000 in
theorem T_X7_checksum_45 {G : XG} {Y : XY} (hw : WT Y) {r9 : Int64} {N9 : XN} {k31 : Nat → Int64 → Int32 → XN → Option (Int64 × XN)} (hk31 : ∀ (p_0 : Nat) (w_1 : Int64) (v_3 : Int32) (N : XN), kc Y p_0 = 17 → k31 p_0 w_1 v_3 N = some (r9, N9) → Ex G yX7_checksum cX7_checksum 5 (some .long) (xR 8 0 0) (.inl (some (.long r9))) Y N9 0 0 31 [(0, .ref p_0), (1, .long w_1), (3, .int v_3)] [] Y N): ∀ (D9 : Nat) (p_0 : Nat) (w_1 : Int64) (v_3 : Int32) (v_4 : Int32) (N : XN), kc Y p_0 = 17 → f_X7_checksum_45 Y k31 D9 p_0 w_1 v_3 v_4 N = some (r9, N9) → Ex G yX7_checksum cX7_checksum 5 (some .long) (xR 8 0 0) (.inl (some (.long r9))) Y N9 0 0 45 [(0, .ref p_0), (1, .long w_1), (3, .int v_3), (4, .int v_4)] [] Y N := by
  intro D9
  induction D9 with
  | zero => intro p_0 w_1 v_3 v_4 N kk0 h; exact nomatch (show none = some _ from h)
  | succ D9 ih =>
    intro p_0 w_1 v_3 v_4 N kk0 h
    rw [f_X7_checksum_45] at h
    refine x_iload 3 dX7_checksum_45 rfl ?_
    refine x_bipush (v := 8) dX7_checksum_47 rfl ?_
    rcases x_if h with ⟨c1, h⟩ | ⟨c1, h⟩
    · refine x_icmp_ge_t (tgt := 73) dX7_checksum_49 (by decide) c1 ?_
      refine x_iinc (L' := [(0, .ref p_0), (1, .long w_1), (3, .int (v_3 + 1))]) 2 [1, 2, 0] dX7_checksum_73 rfl rfl (by decide) rfl ?_
      refine x_goto (tgt := 31) dX7_checksum_76 (by decide) ?_
      exact hk31 p_0 w_1 (v_3 + 1) N kk0 h
    · refine x_icmp_ge_f (tgt := 73) dX7_checksum_49 (by decide) c1 ?_
      refine x_ldc2 (v := 31) dX7_checksum_52 kl_X7_265 ?_
      refine x_lload_n 1 dX7_checksum_55 rfl rfl ?_
      refine x_lmul dX7_checksum_56 ?_
      refine x_aload_n 0 dX7_checksum_57 rfl rfl ?_
      refine x_iload_n 2 dX7_checksum_58 rfl rfl ?_
      refine x_iload 3 dX7_checksum_59 rfl ?_
      obtain ⟨r3, N4, q2, h⟩ := x_bdx h
      refine x_cv (b := p_0) (As := [.int v_3, .int v_4]) (ci := 7) (d' := 7) (zz := yX7_handler) dX7_checksum_61 ml_X7_269 wi_X7_handler wv_X7_handler wn_X7 wc_X7_handler hp_X7_handler (by decide) (by decide) rfl (Nat.le_of_ble_eq_true rfl) ⟨Nat.zero_le _, Nat.zero_le _⟩ rfl kk0 (T_X7_handler (G := G) hw kk0 q2) ?_
      refine x_i2l dX7_checksum_64 ?_
      refine x_ladd dX7_checksum_65 ?_
      obtain ⟨w5, ew5, h⟩ := x_lt h
      refine x_nml ew5 ?_
      refine x_lstore_n (L' := [(0, .ref p_0), (1, .long w5), (3, .int v_3), (4, .int v_4)]) [1, 0, 2, 3] dX7_checksum_66 rfl (by decide) rfl ?_
      refine x_iinc (L' := [(0, .ref p_0), (1, .long w5), (3, .int v_3), (4, .int (v_4 + 1))]) 3 [1, 2, 3, 0] dX7_checksum_67 rfl rfl (by decide) rfl ?_
      refine x_goto (tgt := 45) dX7_checksum_70 (by decide) ?_
      exact ih p_0 w5 v_3 (v_4 + 1) N4 kk0 h
set_option maxHeartbeats 4000000 in
set_option maxRecDepth 100000 in
theorem T_X7_checksum_31 {G : XG} {Y : XY} (hw : WT Y) {r9 : Int64} {N9 : XN}: ∀ (D9 : Nat) (p_0 : Nat) (w_1 : Int64) (v_3 : Int32) (N : XN), kc Y p_0 = 17 → f_X7_checksum_31 Y D9 p_0 w_1 v_3 N = some (r9, N9) → Ex G yX7_checksum cX7_checksum 5 (some .long) (xR 8 0 0) (.inl (some (.long r9))) Y N9 0 0 31 [(0, .ref p_0), (1, .long w_1), (3, .int v_3)] [] Y N := by
  intro D9
  induction D9 with
  | zero => intro p_0 w_1 v_3 N kk0 h; exact nomatch (show none = some _ from h)
  | succ D9 ih =>
    intro p_0 w_1 v_3 N kk0 h
    rw [f_X7_checksum_31] at h
    refine x_iload_n 2 dX7_checksum_31 rfl rfl ?_
    refine x_aload_n 0 dX7_checksum_32 rfl rfl ?_
    obtain ⟨g1, k2⟩ := wt_X7_5 hw kk0
    refine x_getr dX7_checksum_33 vc_X7 xin7 fb_X7_5 fl_X7_37 xr_X7_5 kk0 g1 ?_
    refine x_geti dX7_checksum_36 vc_X6 xin6 fb_X6_1 fl_X7_90 xr_X6_1 k2 ?_
    rcases x_if h with ⟨c3, h⟩ | ⟨c3, h⟩
    · refine x_icmp_ge_t (tgt := 79) dX7_checksum_39 (by decide) c3 ?_
      refine x_iconst (v := 0) dX7_checksum_79 rfl ?_
      refine x_istore_n (L' := [(0, .ref p_0), (1, .long w_1), (3, .int 0)]) [1, 2, 0] dX7_checksum_80 rfl (by decide) rfl ?_
      exact T_X7_checksum_81 (G := G) hw FU p_0 w_1 0 N kk0 h
    · refine x_icmp_ge_f (tgt := 79) dX7_checksum_39 (by decide) c3 ?_
      refine x_iconst (v := 0) dX7_checksum_42 rfl ?_
      refine x_istore (L' := [(0, .ref p_0), (1, .long w_1), (3, .int v_3), (4, .int 0)]) [1, 2, 3, 0] dX7_checksum_43 (by decide) rfl ?_
      exact T_X7_checksum_45 (G := G) hw ih FU p_0 w_1 v_3 0 N kk0 h
set_option maxHeartbeats 4000000 in
set_option maxRecDepth 100000 in
theorem T_X7_checksum_4 {G : XG} {Y : XY} (hw : WT Y) {r9 : Int64} {N9 : XN}: ∀ (D9 : Nat) (p_0 : Nat) (w_1 : Int64) (v_3 : Int32) (N : XN), kc Y p_0 = 17 → f_X7_checksum_4 Y D9 p_0 w_1 v_3 N = some (r9, N9) → Ex G yX7_checksum cX7_checksum 5 (some .long) (xR 8 0 0) (.inl (some (.long r9))) Y N9 0 0 4 [(0, .ref p_0), (1, .long w_1), (3, .int v_3)] [] Y N := by
  intro D9
  induction D9 with
  | zero => intro p_0 w_1 v_3 N kk0 h; exact nomatch (show none = some _ from h)
  | succ D9 ih =>
    intro p_0 w_1 v_3 N kk0 h
    rw [f_X7_checksum_4] at h
    refine x_iload_n 2 dX7_checksum_4 rfl rfl ?_
    refine x_bipush (v := 10) dX7_checksum_5 rfl ?_
    rcases x_if h with ⟨c1, h⟩ | ⟨c1, h⟩
    · refine x_icmp_ge_t (tgt := 29) dX7_checksum_7 (by decide) c1 ?_
      refine x_iconst (v := 0) dX7_checksum_29 rfl ?_
      refine x_istore_n (L' := [(0, .ref p_0), (1, .long w_1), (3, .int 0)]) [1, 2, 0] dX7_checksum_30 rfl (by decide) rfl ?_
      exact T_X7_checksum_31 (G := G) hw FU p_0 w_1 0 N kk0 h
    · refine x_icmp_ge_f (tgt := 29) dX7_checksum_7 (by decide) c1 ?_
      refine x_ldc2 (v := 31) dX7_checksum_10 kl_X7_265 ?_
      refine x_lload_n 1 dX7_checksum_13 rfl rfl ?_
      refine x_lmul dX7_checksum_14 ?_
      refine x_aload_n 0 dX7_checksum_15 rfl rfl ?_
      refine x_iload_n 2 dX7_checksum_16 rfl rfl ?_
      obtain ⟨r3, N4, q2, h⟩ := x_bdx h
      refine x_cv (b := p_0) (As := [.int v_3]) (ci := 7) (d' := 7) (zz := yX7_state) dX7_checksum_17 ml_X7_267 wi_X7_state wv_X7_state wn_X7 wc_X7_state hp_X7_state (by decide) (by decide) rfl (Nat.le_of_ble_eq_true rfl) ⟨Nat.zero_le _, Nat.zero_le _⟩ rfl kk0 (T_X7_state (G := G) hw kk0 q2) ?_
      refine x_i2l dX7_checksum_20 ?_
      refine x_ladd dX7_checksum_21 ?_
      obtain ⟨w5, ew5, h⟩ := x_lt h
      refine x_nml ew5 ?_
      refine x_lstore_n (L' := [(0, .ref p_0), (1, .long w5), (3, .int v_3)]) [1, 0, 2] dX7_checksum_22 rfl (by decide) rfl ?_
      refine x_iinc (L' := [(0, .ref p_0), (1, .long w5), (3, .int (v_3 + 1))]) 2 [1, 2, 0] dX7_checksum_23 rfl rfl (by decide) rfl ?_
      refine x_goto (tgt := 4) dX7_checksum_26 (by decide) ?_
      exact ih p_0 w5 (v_3 + 1) N4 kk0 h
set_option maxHeartbeats 4000000 in
set_option maxRecDepth 100000 in
theorem T_X7_checksum {G : XG} {Y : XY} (hw : WT Y) {a0 : Nat} {N : XN} (k100 : kc Y a0 = 17) {r9 : Int64} {N9 : XN} (h : f_X7_checksum Y a0 N = some (r9, N9)) : Cl G yX7_checksum cX7_checksum 5 (some .long) (xR 8 0 0) [.ref a0] (.inl (some (.long r9))) Y N Y N9 := by
  refine x_entry (by decide) (Nat.le_of_ble_eq_true rfl) rfl ?_
  rw [f_X7_checksum] at h
  refine x_lconst (v := 0) dX7_checksum_0 rfl ?_
  refine x_lstore_n (L' := [(0, .ref a0), (1, .long 0)]) [1, 0] dX7_checksum_1 rfl (by decide) rfl ?_
  refine x_iconst (v := 0) dX7_checksum_2 rfl ?_
  refine x_istore_n (L' := [(0, .ref a0), (1, .long 0), (3, .int 0)]) [1, 2, 0] dX7_checksum_3 rfl (by decide) rfl ?_
  exact T_X7_checksum_4 (G := G) hw FU a0 0 0 N k100 h

