set_option maxHeartbeats 4000000 in
set_option maxRecDepth 100000 in
theorem T_X6_requestsIn_4 {G : XG} {Y : XY} (hw : WT Y) {r9 : Int32}: ∀ (D9 : Nat) (p_0 : Nat) (v_1 : Int32) (v_2 : Int32) (v_3 : Int32) (N : XN), kc Y p_0 = 16 → f_X6_requestsIn_4 Y D9 p_0 v_1 v_2 v_3 N = some r9 → Ex G yX6_requestsIn cX6_requestsIn 4 (some .int) (xR 1 0 0) (.inl (some (.int r9))) Y N 0 0 4 [(0, .ref p_0), (1, .int v_1), (2, .int v_2), (3, .int v_3)] [] Y N := by
  intro D9
  induction D9 with
  | zero => intro p_0 v_1 v_2 v_3 N kk0 h; exact nomatch (show none = some _ from h)
  | succ D9 ih =>
    intro p_0 v_1 v_2 v_3 N kk0 h
    rw [f_X6_requestsIn_4] at h
    refine x_iload_n 3 dX6_requestsIn_4 rfl rfl ?_
    refine x_aload_n 0 dX6_requestsIn_5 rfl rfl ?_
    refine x_geti dX6_requestsIn_6 vc_X6 xin6 fb_X6_5 fl_X6_53 xr_X6_5 kk0 ?_
    rcases x_if h with ⟨c1, h⟩ | ⟨c1, h⟩
    · refine x_icmp_ge_t (tgt := 34) dX6_requestsIn_9 (by decide) c1 ?_
      refine x_iload_n 2 dX6_requestsIn_34 rfl rfl ?_
      obtain rfl := x_so h
      exact x_iret dX6_requestsIn_35 rfl rfl rfl
    · refine x_icmp_ge_f (tgt := 34) dX6_requestsIn_9 (by decide) c1 ?_
      refine x_aload_n 0 dX6_requestsIn_12 rfl rfl ?_
      obtain ⟨g2, k3, n4⟩ := wt_X6_4 hw kk0
      refine x_getr dX6_requestsIn_13 vc_X6 xin6 fb_X6_4 fl_X6_25 xr_X6_4 kk0 g2 ?_
      refine x_iload_n 3 dX6_requestsIn_16 rfl rfl ?_
      obtain ⟨c5, h⟩ := x_ck h
      obtain ⟨g6, k7⟩ := wt_6 hw k3 (xb_at n4 c5)
      refine x_aald (j := 2) dX6_requestsIn_17 (by decide) k3 (xb_at n4 c5) g6 ?_
      refine x_geti dX6_requestsIn_18 vc_X3 xin3 fb_X3_3 fl_X6_100 xr_X3_3 k7 ?_
      refine x_iload_n 1 dX6_requestsIn_21 rfl rfl ?_
      rcases x_if h with ⟨c8, h⟩ | ⟨c8, h⟩
      · refine x_icmp_ne_f (tgt := 28) dX6_requestsIn_22 (by decide) c8 ?_
        refine x_iinc (L' := [(0, .ref p_0), (1, .int v_1), (2, .int (v_2 + 1)), (3, .int v_3)]) 2 [1, 2, 0, 3] dX6_requestsIn_25 rfl rfl (by decide) rfl ?_
        refine x_iinc (L' := [(0, .ref p_0), (1, .int v_1), (2, .int (v_2 + 1)), (3, .int (v_3 + 1))]) 3 [1, 2, 3, 0] dX6_requestsIn_28 rfl rfl (by decide) rfl ?_
        refine x_goto (tgt := 4) dX6_requestsIn_31 (by decide) ?_
        exact ih p_0 v_1 (v_2 + 1) (v_3 + 1) N kk0 h
      · refine x_icmp_ne_t (tgt := 28) dX6_requestsIn_22 (by decide) c8 ?_
        refine x_iinc (L' := [(0, .ref p_0), (1, .int v_1), (2, .int v_2), (3, .int (v_3 + 1))]) 3 [1, 2, 3, 0] dX6_requestsIn_28 rfl rfl (by decide) rfl ?_
        refine x_goto (tgt := 4) dX6_requestsIn_31 (by decide) ?_
        exact ih p_0 v_1 v_2 (v_3 + 1) N kk0 h
set_option maxHeartbeats 4000000 in
set_option maxRecDepth 100000 in
theorem T_X6_requestsIn {G : XG} {Y : XY} (hw : WT Y) {a0 : Nat} {a1 : Int32} {N : XN} (k100 : kc Y a0 = 16) {r9 : Int32} (h : f_X6_requestsIn Y a0 a1 N = some r9) : Cl G yX6_requestsIn cX6_requestsIn 4 (some .int) (xR 1 0 0) [.ref a0, .int a1] (.inl (some (.int r9))) Y N Y N := by
  refine x_entry (by decide) (Nat.le_of_ble_eq_true rfl) rfl ?_
  rw [f_X6_requestsIn] at h
  refine x_iconst (v := 0) dX6_requestsIn_0 rfl ?_
  refine x_istore_n (L' := [(0, .ref a0), (1, .int a1), (2, .int 0)]) [1, 2, 0] dX6_requestsIn_1 rfl (by decide) rfl ?_
  refine x_iconst (v := 0) dX6_requestsIn_2 rfl ?_
  refine x_istore_n (L' := [(0, .ref a0), (1, .int a1), (2, .int 0), (3, .int 0)]) [1, 2, 3, 0] dX6_requestsIn_3 rfl (by decide) rfl ?_
  exact T_X6_requestsIn_4 (G := G) hw FU a0 a1 0 0 N k100 h
set_option maxHeartbeats 4000000 in
set_option maxRecDepth 100000 in
theorem T_X6_bankruptHandlers_4 {G : XG} {Y : XY} (hw : WT Y) {r9 : Int32}: ∀ (D9 : Nat) (p_0 : Nat) (v_1 : Int32) (v_2 : Int32) (N : XN), kc Y p_0 = 16 → f_X6_bankruptHandlers_4 Y D9 p_0 v_1 v_2 N = some r9 → Ex G yX6_bankruptHandlers cX6_bankruptHandlers 3 (some .int) (xR 1 0 0) (.inl (some (.int r9))) Y N 0 0 4 [(0, .ref p_0), (1, .int v_1), (2, .int v_2)] [] Y N := by
  intro D9
  induction D9 with
  | zero => intro p_0 v_1 v_2 N kk0 h; exact nomatch (show none = some _ from h)
  | succ D9 ih =>
    intro p_0 v_1 v_2 N kk0 h
    rw [f_X6_bankruptHandlers_4] at h
    refine x_iload_n 2 dX6_bankruptHandlers_4 rfl rfl ?_
    refine x_aload_n 0 dX6_bankruptHandlers_5 rfl rfl ?_
    refine x_geti dX6_bankruptHandlers_6 vc_X6 xin6 fb_X6_1 fl_X6_46 xr_X6_1 kk0 ?_
    rcases x_if h with ⟨c1, h⟩ | ⟨c1, h⟩
    · refine x_icmp_ge_t (tgt := 33) dX6_bankruptHandlers_9 (by decide) c1 ?_
      refine x_iload_n 1 dX6_bankruptHandlers_33 rfl rfl ?_
      obtain rfl := x_so h
      exact x_iret dX6_bankruptHandlers_34 rfl rfl rfl
    · refine x_icmp_ge_f (tgt := 33) dX6_bankruptHandlers_9 (by decide) c1 ?_
      refine x_aload_n 0 dX6_bankruptHandlers_12 rfl rfl ?_
      obtain ⟨g2, k3, n4⟩ := wt_X6_0 hw kk0
      refine x_getr dX6_bankruptHandlers_13 vc_X6 xin6 fb_X6_0 fl_X6_11 xr_X6_0 kk0 g2 ?_
      refine x_iload_n 2 dX6_bankruptHandlers_16 rfl rfl ?_
      obtain ⟨c5, h⟩ := x_ck h
      obtain ⟨g6, k7⟩ := wt_4 hw k3 (xb_at n4 c5)
      refine x_aald (j := 0) dX6_bankruptHandlers_17 (by decide) k3 (xb_at n4 c5) g6 ?_
      refine x_geti dX6_bankruptHandlers_18 vc_X1 xin1 fb_X1_2 fl_X6_103 xr_X1_2 k7 ?_
      rcases x_if h with ⟨c8, h⟩ | ⟨c8, h⟩
      · refine x_if_eq_t (tgt := 27) dX6_bankruptHandlers_21 (by decide) c8 ?_
        refine x_iinc (L' := [(0, .ref p_0), (1, .int v_1), (2, .int (v_2 + 1))]) 2 [1, 2, 0] dX6_bankruptHandlers_27 rfl rfl (by decide) rfl ?_
        refine x_goto (tgt := 4) dX6_bankruptHandlers_30 (by decide) ?_
        exact ih p_0 v_1 (v_2 + 1) N kk0 h
      · refine x_if_eq_f (tgt := 27) dX6_bankruptHandlers_21 (by decide) c8 ?_
        refine x_iinc (L' := [(0, .ref p_0), (1, .int (v_1 + 1)), (2, .int v_2)]) 1 [1, 0, 2] dX6_bankruptHandlers_24 rfl rfl (by decide) rfl ?_
        refine x_iinc (L' := [(0, .ref p_0), (1, .int (v_1 + 1)), (2, .int (v_2 + 1))]) 2 [1, 2, 0] dX6_bankruptHandlers_27 rfl rfl (by decide) rfl ?_
        refine x_goto (tgt := 4) dX6_bankruptHandlers_30 (by decide) ?_
        exact ih p_0 (v_1 + 1) (v_2 + 1) N kk0 h
set_option maxHeartbeats 4000000 in
set_option maxRecDepth 100000 in
theorem T_X6_bankruptHandlers {G : XG} {Y : XY} (hw : WT Y) {a0 : Nat} {N : XN} (k100 : kc Y a0 = 16) {r9 : Int32} (h : f_X6_bankruptHandlers Y a0 N = some r9) : Cl G yX6_bankruptHandlers cX6_bankruptHandlers 3 (some .int) (xR 1 0 0) [.ref a0] (.inl (some (.int r9))) Y N Y N := by
  refine x_entry (by decide) (Nat.le_of_ble_eq_true rfl) rfl ?_
  rw [f_X6_bankruptHandlers] at h
  refine x_iconst (v := 0) dX6_bankruptHandlers_0 rfl ?_
  refine x_istore_n (L' := [(0, .ref a0), (1, .int 0)]) [1, 0] dX6_bankruptHandlers_1 rfl (by decide) rfl ?_
  refine x_iconst (v := 0) dX6_bankruptHandlers_2 rfl ?_
  refine x_istore_n (L' := [(0, .ref a0), (1, .int 0), (2, .int 0)]) [1, 2, 0] dX6_bankruptHandlers_3 rfl (by decide) rfl ?_
  exact T_X6_bankruptHandlers_4 (G := G) hw FU a0 0 0 N k100 h
set_option maxHeartbeats 4000000 in
set_option maxRecDepth 100000 in
theorem T_X6_allCoins_35 {G : XG} {Y : XY} (hw : WT Y) {r9 : Int32}: ∀ (D9 : Nat) (p_0 : Nat) (v_1 : Int32) (v_2 : Int32) (N : XN), kc Y p_0 = 16 → f_X6_allCoins_35 Y D9 p_0 v_1 v_2 N = some r9 → Ex G yX6_allCoins cX6_allCoins 3 (some .int) (xR 1 0 0) (.inl (some (.int r9))) Y N 0 0 35 [(0, .ref p_0), (1, .int v_1), (2, .int v_2)] [] Y N := by
  intro D9
  induction D9 with
  | zero => intro p_0 v_1 v_2 N kk0 h; exact nomatch (show none = some _ from h)
  | succ D9 ih =>
    intro p_0 v_1 v_2 N kk0 h
    rw [f_X6_allCoins_35] at h
    refine x_iload_n 2 dX6_allCoins_35 rfl rfl ?_
    refine x_aload_n 0 dX6_allCoins_36 rfl rfl ?_
    refine x_geti dX6_allCoins_37 vc_X6 xin6 fb_X6_3 fl_X6_50 xr_X6_3 kk0 ?_
    rcases x_if h with ⟨c1, h⟩ | ⟨c1, h⟩
    · refine x_icmp_ge_t (tgt := 61) dX6_allCoins_40 (by decide) c1 ?_
      refine x_iload_n 1 dX6_allCoins_61 rfl rfl ?_
      obtain rfl := x_so h
      exact x_iret dX6_allCoins_62 rfl rfl rfl
    · refine x_icmp_ge_f (tgt := 61) dX6_allCoins_40 (by decide) c1 ?_
      refine x_iload_n 1 dX6_allCoins_43 rfl rfl ?_
      refine x_aload_n 0 dX6_allCoins_44 rfl rfl ?_
      obtain ⟨g2, k3, n4⟩ := wt_X6_2 hw kk0
      refine x_getr dX6_allCoins_45 vc_X6 xin6 fb_X6_2 fl_X6_19 xr_X6_2 kk0 g2 ?_
      refine x_iload_n 2 dX6_allCoins_48 rfl rfl ?_
      obtain ⟨c5, h⟩ := x_ck h
      obtain ⟨g6, k7⟩ := wt_5 hw k3 (xb_at n4 c5)
      refine x_aald (j := 1) dX6_allCoins_49 (by decide) k3 (xb_at n4 c5) g6 ?_
      refine x_geti dX6_allCoins_50 vc_X2 xin2 fb_X2_2 fl_X6_110 xr_X2_2 k7 ?_
      refine x_iadd dX6_allCoins_53 ?_
      obtain ⟨v8, ev8, h⟩ := x_lt h
      refine x_nmi ev8 ?_
      refine x_istore_n (L' := [(0, .ref p_0), (1, .int v8), (2, .int v_2)]) [1, 0, 2] dX6_allCoins_54 rfl (by decide) rfl ?_
      refine x_iinc (L' := [(0, .ref p_0), (1, .int v8), (2, .int (v_2 + 1))]) 2 [1, 2, 0] dX6_allCoins_55 rfl rfl (by decide) rfl ?_
      refine x_goto (tgt := 35) dX6_allCoins_58 (by decide) ?_
      exact ih p_0 v8 (v_2 + 1) N kk0 h
set_option maxHeartbeats 4000000 in
set_option maxRecDepth 100000 in
theorem T_X6_allCoins_7 {G : XG} {Y : XY} (hw : WT Y) {r9 : Int32}: ∀ (D9 : Nat) (p_0 : Nat) (v_1 : Int32) (v_2 : Int32) (N : XN), kc Y p_0 = 16 → f_X6_allCoins_7 Y D9 p_0 v_1 v_2 N = some r9 → Ex G yX6_allCoins cX6_allCoins 3 (some .int) (xR 1 0 0) (.inl (some (.int r9))) Y N 0 0 7 [(0, .ref p_0), (1, .int v_1), (2, .int v_2)] [] Y N := by
  intro D9
  induction D9 with
  | zero => intro p_0 v_1 v_2 N kk0 h; exact nomatch (show none = some _ from h)
  | succ D9 ih =>
    intro p_0 v_1 v_2 N kk0 h
    rw [f_X6_allCoins_7] at h
    refine x_iload_n 2 dX6_allCoins_7 rfl rfl ?_
    refine x_aload_n 0 dX6_allCoins_8 rfl rfl ?_
    refine x_geti dX6_allCoins_9 vc_X6 xin6 fb_X6_1 fl_X6_46 xr_X6_1 kk0 ?_
    rcases x_if h with ⟨c1, h⟩ | ⟨c1, h⟩
    · refine x_icmp_ge_t (tgt := 33) dX6_allCoins_12 (by decide) c1 ?_
      refine x_iconst (v := 0) dX6_allCoins_33 rfl ?_
      refine x_istore_n (L' := [(0, .ref p_0), (1, .int v_1), (2, .int 0)]) [1, 2, 0] dX6_allCoins_34 rfl (by decide) rfl ?_
      exact T_X6_allCoins_35 (G := G) hw FU p_0 v_1 0 N kk0 h
    · refine x_icmp_ge_f (tgt := 33) dX6_allCoins_12 (by decide) c1 ?_
      refine x_iload_n 1 dX6_allCoins_15 rfl rfl ?_
      refine x_aload_n 0 dX6_allCoins_16 rfl rfl ?_
      obtain ⟨g2, k3, n4⟩ := wt_X6_0 hw kk0
      refine x_getr dX6_allCoins_17 vc_X6 xin6 fb_X6_0 fl_X6_11 xr_X6_0 kk0 g2 ?_
      refine x_iload_n 2 dX6_allCoins_20 rfl rfl ?_
      obtain ⟨c5, h⟩ := x_ck h
      obtain ⟨g6, k7⟩ := wt_4 hw k3 (xb_at n4 c5)
      refine x_aald (j := 0) dX6_allCoins_21 (by decide) k3 (xb_at n4 c5) g6 ?_
      refine x_geti dX6_allCoins_22 vc_X1 xin1 fb_X1_0 fl_X6_107 xr_X1_0 k7 ?_
      refine x_iadd dX6_allCoins_25 ?_
      obtain ⟨v8, ev8, h⟩ := x_lt h
      refine x_nmi ev8 ?_
      refine x_istore_n (L' := [(0, .ref p_0), (1, .int v8), (2, .int v_2)]) [1, 0, 2] dX6_allCoins_26 rfl (by decide) rfl ?_
      refine x_iinc (L' := [(0, .ref p_0), (1, .int v8), (2, .int (v_2 + 1))]) 2 [1, 2, 0] dX6_allCoins_27 rfl rfl (by decide) rfl ?_
      refine x_goto (tgt := 7) dX6_allCoins_30 (by decide) ?_
      exact ih p_0 v8 (v_2 + 1) N kk0 h
set_option maxHeartbeats 4000000 in
set_option maxRecDepth 100000 in
theorem T_X6_allCoins {G : XG} {Y : XY} (hw : WT Y) {a0 : Nat} {N : XN} (k100 : kc Y a0 = 16) {r9 : Int32} (h : f_X6_allCoins Y a0 N = some r9) : Cl G yX6_allCoins cX6_allCoins 3 (some .int) (xR 1 0 0) [.ref a0] (.inl (some (.int r9))) Y N Y N := by
  refine x_entry (by decide) (Nat.le_of_ble_eq_true rfl) rfl ?_
  rw [f_X6_allCoins] at h
  refine x_aload_n 0 dX6_allCoins_0 rfl rfl ?_
  refine x_geti dX6_allCoins_1 vc_X6 xin6 fb_X6_7 fl_X6_59 xr_X6_7 k100 ?_
  refine x_istore_n (L' := [(0, .ref a0), (1, .int (gi N a0 7))]) [1, 0] dX6_allCoins_4 rfl (by decide) rfl ?_
  refine x_iconst (v := 0) dX6_allCoins_5 rfl ?_
  refine x_istore_n (L' := [(0, .ref a0), (1, .int (gi N a0 7)), (2, .int 0)]) [1, 2, 0] dX6_allCoins_6 rfl (by decide) rfl ?_
  exact T_X6_allCoins_7 (G := G) hw FU a0 (gi N a0 7) 0 N k100 h
set_option maxHeartbeats 4000000 in
set_option maxRecDepth 100000 in
theorem T_X6_allFines_4 {G : XG} {Y : XY} (hw : WT Y) {r9 : Int32}: ∀ (D9 : Nat) (p_0 : Nat) (v_1 : Int32) (v_2 : Int32) (N : XN), kc Y p_0 = 16 → f_X6_allFines_4 Y D9 p_0 v_1 v_2 N = some r9 → Ex G yX6_allFines cX6_allFines 3 (some .int) (xR 1 0 0) (.inl (some (.int r9))) Y N 0 0 4 [(0, .ref p_0), (1, .int v_1), (2, .int v_2)] [] Y N := by
  intro D9
  induction D9 with
  | zero => intro p_0 v_1 v_2 N kk0 h; exact nomatch (show none = some _ from h)
  | succ D9 ih =>
    intro p_0 v_1 v_2 N kk0 h
    rw [f_X6_allFines_4] at h
    refine x_iload_n 2 dX6_allFines_4 rfl rfl ?_
    refine x_aload_n 0 dX6_allFines_5 rfl rfl ?_
    refine x_geti dX6_allFines_6 vc_X6 xin6 fb_X6_1 fl_X6_46 xr_X6_1 kk0 ?_
    rcases x_if h with ⟨c1, h⟩ | ⟨c1, h⟩
    · refine x_icmp_ge_t (tgt := 30) dX6_allFines_9 (by decide) c1 ?_
      refine x_iload_n 1 dX6_allFines_30 rfl rfl ?_
      obtain rfl := x_so h
      exact x_iret dX6_allFines_31 rfl rfl rfl
    · refine x_icmp_ge_f (tgt := 30) dX6_allFines_9 (by decide) c1 ?_
      refine x_iload_n 1 dX6_allFines_12 rfl rfl ?_
      refine x_aload_n 0 dX6_allFines_13 rfl rfl ?_
      obtain ⟨g2, k3, n4⟩ := wt_X6_0 hw kk0
      refine x_getr dX6_allFines_14 vc_X6 xin6 fb_X6_0 fl_X6_11 xr_X6_0 kk0 g2 ?_
      refine x_iload_n 2 dX6_allFines_17 rfl rfl ?_
      obtain ⟨c5, h⟩ := x_ck h
      obtain ⟨g6, k7⟩ := wt_4 hw k3 (xb_at n4 c5)
      refine x_aald (j := 0) dX6_allFines_18 (by decide) k3 (xb_at n4 c5) g6 ?_
      refine x_geti dX6_allFines_19 vc_X1 xin1 fb_X1_4 fl_X6_111 xr_X1_4 k7 ?_
      refine x_iadd dX6_allFines_22 ?_
      obtain ⟨v8, ev8, h⟩ := x_lt h
      refine x_nmi ev8 ?_
      refine x_istore_n (L' := [(0, .ref p_0), (1, .int v8), (2, .int v_2)]) [1, 0, 2] dX6_allFines_23 rfl (by decide) rfl ?_
      refine x_iinc (L' := [(0, .ref p_0), (1, .int v8), (2, .int (v_2 + 1))]) 2 [1, 2, 0] dX6_allFines_24 rfl rfl (by decide) rfl ?_
      refine x_goto (tgt := 4) dX6_allFines_27 (by decide) ?_
      exact ih p_0 v8 (v_2 + 1) N kk0 h
set_option maxHeartbeats 4000000 in
set_option maxRecDepth 100000 in
theorem T_X6_allFines {G : XG} {Y : XY} (hw : WT Y) {a0 : Nat} {N : XN} (k100 : kc Y a0 = 16) {r9 : Int32} (h : f_X6_allFines Y a0 N = some r9) : Cl G yX6_allFines cX6_allFines 3 (some .int) (xR 1 0 0) [.ref a0] (.inl (some (.int r9))) Y N Y N := by
  refine x_entry (by decide) (Nat.le_of_ble_eq_true rfl) rfl ?_
  rw [f_X6_allFines] at h
  refine x_iconst (v := 0) dX6_allFines_0 rfl ?_
  refine x_istore_n (L' := [(0, .ref a0), (1, .int 0)]) [1, 0] dX6_allFines_1 rfl (by decide) rfl ?_
  refine x_iconst (v := 0) dX6_allFines_2 rfl ?_
  refine x_istore_n (L' := [(0, .ref a0), (1, .int 0), (2, .int 0)]) [1, 2, 0] dX6_allFines_3 rfl (by decide) rfl ?_
  exact T_X6_allFines_4 (G := G) hw FU a0 0 0 N k100 h
set_option maxHeartbeats 4000000 in
set_option maxRecDepth 100000 in
theorem T_X6_linesOf_4 {G : XG} {Y : XY} (hw : WT Y) {r9 : Int32}: ∀ (D9 : Nat) (p_0 : Nat) (v_1 : Int32) (v_2 : Int32) (v_3 : Int32) (N : XN), kc Y p_0 = 16 → f_X6_linesOf_4 Y D9 p_0 v_1 v_2 v_3 N = some r9 → Ex G yX6_linesOf cX6_linesOf 4 (some .int) (xR 2 0 0) (.inl (some (.int r9))) Y N 0 0 4 [(0, .ref p_0), (1, .int v_1), (2, .int v_2), (3, .int v_3)] [] Y N := by
  intro D9
  induction D9 with
  | zero => intro p_0 v_1 v_2 v_3 N kk0 h; exact nomatch (show none = some _ from h)
  | succ D9 ih =>
    intro p_0 v_1 v_2 v_3 N kk0 h
    rw [f_X6_linesOf_4] at h
    refine x_iload_n 3 dX6_linesOf_4 rfl rfl ?_
    refine x_aload_n 0 dX6_linesOf_5 rfl rfl ?_
    refine x_geti dX6_linesOf_6 vc_X6 xin6 fb_X6_3 fl_X6_50 xr_X6_3 kk0 ?_
    rcases x_if h with ⟨c1, h⟩ | ⟨c1, h⟩
    · refine x_icmp_ge_t (tgt := 34) dX6_linesOf_9 (by decide) c1 ?_
      refine x_iload_n 2 dX6_linesOf_34 rfl rfl ?_
      obtain rfl := x_so h
      exact x_iret dX6_linesOf_35 rfl rfl rfl
    · refine x_icmp_ge_f (tgt := 34) dX6_linesOf_9 (by decide) c1 ?_
      refine x_aload_n 0 dX6_linesOf_12 rfl rfl ?_
      obtain ⟨g2, k3, n4⟩ := wt_X6_2 hw kk0
      refine x_getr dX6_linesOf_13 vc_X6 xin6 fb_X6_2 fl_X6_19 xr_X6_2 kk0 g2 ?_
      refine x_iload_n 3 dX6_linesOf_16 rfl rfl ?_
      obtain ⟨c5, h⟩ := x_ck h
      obtain ⟨g6, k7⟩ := wt_5 hw k3 (xb_at n4 c5)
      refine x_aald (j := 1) dX6_linesOf_17 (by decide) k3 (xb_at n4 c5) g6 ?_
      refine x_iload_n 1 dX6_linesOf_18 rfl rfl ?_
      obtain ⟨r9, q8, h⟩ := x_bd1 h
      refine x_cv (b := (gp Y (gp Y p_0 2) v_3.toNatClampNeg)) (As := [.int v_1]) (ci := 2) (d' := 1) (zz := yX2_placeOf) dX6_linesOf_19 ml_X6_114 wi_X2_placeOf wv_X2_placeOf wn_X2 wc_X2_placeOf hp_X2_placeOf (by decide) (by decide) rfl (Nat.le_of_ble_eq_true rfl) ⟨Nat.zero_le _, Nat.zero_le _⟩ rfl k7 (T_X2_placeOf (G := G) hw k7 q8) ?_
      rcases x_if h with ⟨c10, h⟩ | ⟨c10, h⟩
      · refine x_if_lt_t (tgt := 28) dX6_linesOf_22 (by decide) c10 ?_
        refine x_iinc (L' := [(0, .ref p_0), (1, .int v_1), (2, .int v_2), (3, .int (v_3 + 1))]) 3 [1, 2, 3, 0] dX6_linesOf_28 rfl rfl (by decide) rfl ?_
        refine x_goto (tgt := 4) dX6_linesOf_31 (by decide) ?_
        exact ih p_0 v_1 v_2 (v_3 + 1) N kk0 h
      · refine x_if_lt_f (tgt := 28) dX6_linesOf_22 (by decide) c10 ?_
        refine x_iinc (L' := [(0, .ref p_0), (1, .int v_1), (2, .int (v_2 + 1)), (3, .int v_3)]) 2 [1, 2, 0, 3] dX6_linesOf_25 rfl rfl (by decide) rfl ?_
        refine x_iinc (L' := [(0, .ref p_0), (1, .int v_1), (2, .int (v_2 + 1)), (3, .int (v_3 + 1))]) 3 [1, 2, 3, 0] dX6_linesOf_28 rfl rfl (by decide) rfl ?_
        refine x_goto (tgt := 4) dX6_linesOf_31 (by decide) ?_
        exact ih p_0 v_1 (v_2 + 1) (v_3 + 1) N kk0 h
set_option maxHeartbeats 4000000 in
set_option maxRecDepth 100000 in
theorem T_X6_linesOf {G : XG} {Y : XY} (hw : WT Y) {a0 : Nat} {a1 : Int32} {N : XN} (k100 : kc Y a0 = 16) {r9 : Int32} (h : f_X6_linesOf Y a0 a1 N = some r9) : Cl G yX6_linesOf cX6_linesOf 4 (some .int) (xR 2 0 0) [.ref a0, .int a1] (.inl (some (.int r9))) Y N Y N := by
  refine x_entry (by decide) (Nat.le_of_ble_eq_true rfl) rfl ?_
  rw [f_X6_linesOf] at h
  refine x_iconst (v := 0) dX6_linesOf_0 rfl ?_
  refine x_istore_n (L' := [(0, .ref a0), (1, .int a1), (2, .int 0)]) [1, 2, 0] dX6_linesOf_1 rfl (by decide) rfl ?_
  refine x_iconst (v := 0) dX6_linesOf_2 rfl ?_
  refine x_istore_n (L' := [(0, .ref a0), (1, .int a1), (2, .int 0), (3, .int 0)]) [1, 2, 3, 0] dX6_linesOf_3 rfl (by decide) rfl ?_
  exact T_X6_linesOf_4 (G := G) hw FU a0 a1 0 0 N k100 h
set_option maxHeartbeats 4000000 in
set_option maxRecDepth 100000 in
theorem T_X6_openOf_5 {G : XG} {Y : XY} (hw : WT Y) {r9 : Int32}: ∀ (D9 : Nat) (p_0 : Nat) (v_1 : Int32) (v_2 : Int32) (v_3 : Int32) (v_4 : Int32) (N : XN), kc Y p_0 = 16 → f_X6_openOf_5 Y D9 p_0 v_1 v_2 v_3 v_4 N = some r9 → Ex G yX6_openOf cX6_openOf 6 (some .int) (xR 1 0 0) (.inl (some (.int r9))) Y N 0 0 5 [(0, .ref p_0), (1, .int v_1), (2, .int v_2), (3, .int v_3), (4, .int v_4)] [] Y N := by
  intro D9
  induction D9 with
  | zero => intro p_0 v_1 v_2 v_3 v_4 N kk0 h; exact nomatch (show none = some _ from h)
  | succ D9 ih =>
    intro p_0 v_1 v_2 v_3 v_4 N kk0 h
    rw [f_X6_openOf_5] at h
    refine x_iload 4 dX6_openOf_5 rfl ?_
    refine x_aload_n 0 dX6_openOf_7 rfl rfl ?_
    refine x_geti dX6_openOf_8 vc_X6 xin6 fb_X6_5 fl_X6_53 xr_X6_5 kk0 ?_
    rcases x_if h with ⟨c1, h⟩ | ⟨c1, h⟩
    · refine x_icmp_ge_t (tgt := 59) dX6_openOf_11 (by decide) c1 ?_
      refine x_iload_n 3 dX6_openOf_59 rfl rfl ?_
      obtain rfl := x_so h
      exact x_iret dX6_openOf_60 rfl rfl rfl
    · refine x_icmp_ge_f (tgt := 59) dX6_openOf_11 (by decide) c1 ?_
      refine x_aload_n 0 dX6_openOf_14 rfl rfl ?_
      obtain ⟨g2, k3, n4⟩ := wt_X6_4 hw kk0
      refine x_getr dX6_openOf_15 vc_X6 xin6 fb_X6_4 fl_X6_25 xr_X6_4 kk0 g2 ?_
      refine x_iload 4 dX6_openOf_18 rfl ?_
      obtain ⟨c5, h⟩ := x_ck h
      obtain ⟨g6, k7⟩ := wt_6 hw k3 (xb_at n4 c5)
      refine x_aald (j := 2) dX6_openOf_20 (by decide) k3 (xb_at n4 c5) g6 ?_
      obtain ⟨p8, ep8, h⟩ := x_lt h
      refine x_nmr ep8 ?_
      have k9 := k7; rw [← ep8] at k9
      refine x_astore (L' := [(0, .ref p_0), (1, .int v_1), (2, .int v_2), (3, .int v_3), (4, .int v_4), (5, .ref p8)]) [1, 2, 3, 4, 5, 0] dX6_openOf_21 (by decide) rfl ?_
      refine x_aload 5 dX6_openOf_23 rfl ?_
      refine x_geti dX6_openOf_25 vc_X3 xin3 fb_X3_3 fl_X6_100 xr_X3_3 k9 ?_
      refine x_iconst (v := 1) dX6_openOf_28 rfl ?_
      rcases x_if h with ⟨c10, h⟩ | ⟨c10, h⟩
      · refine x_icmp_ne_f (tgt := 53) dX6_openOf_29 (by decide) c10 ?_
        refine x_aload 5 dX6_openOf_32 rfl ?_
        refine x_geti dX6_openOf_34 vc_X3 xin3 fb_X3_0 fl_X6_118 xr_X3_0 k9 ?_
        refine x_iload_n 1 dX6_openOf_37 rfl rfl ?_
        rcases x_if h with ⟨c11, h⟩ | ⟨c11, h⟩
        · refine x_icmp_ne_f (tgt := 53) dX6_openOf_38 (by decide) c11 ?_
          refine x_aload 5 dX6_openOf_41 rfl ?_
          refine x_geti dX6_openOf_43 vc_X3 xin3 fb_X3_4 fl_X6_121 xr_X3_4 k9 ?_
          refine x_iload_n 2 dX6_openOf_46 rfl rfl ?_
          rcases x_if h with ⟨c12, h⟩ | ⟨c12, h⟩
          · refine x_icmp_ne_f (tgt := 53) dX6_openOf_47 (by decide) c12 ?_
            refine x_iinc (L' := [(0, .ref p_0), (1, .int v_1), (2, .int v_2), (3, .int (v_3 + 1)), (4, .int v_4)]) 3 [1, 2, 3, 0, 4] dX6_openOf_50 rfl rfl (by decide) rfl ?_
            refine x_iinc (L' := [(0, .ref p_0), (1, .int v_1), (2, .int v_2), (3, .int (v_3 + 1)), (4, .int (v_4 + 1))]) 4 [1, 2, 3, 4, 0] dX6_openOf_53 rfl rfl (by decide) rfl ?_
            refine x_goto (tgt := 5) dX6_openOf_56 (by decide) ?_
            exact ih p_0 v_1 v_2 (v_3 + 1) (v_4 + 1) N kk0 h
          · refine x_icmp_ne_t (tgt := 53) dX6_openOf_47 (by decide) c12 ?_
            refine x_iinc (L' := [(0, .ref p_0), (1, .int v_1), (2, .int v_2), (3, .int v_3), (4, .int (v_4 + 1))]) 4 [1, 2, 3, 4, 0] dX6_openOf_53 rfl rfl (by decide) rfl ?_
            refine x_goto (tgt := 5) dX6_openOf_56 (by decide) ?_
            exact ih p_0 v_1 v_2 v_3 (v_4 + 1) N kk0 h
        · refine x_icmp_ne_t (tgt := 53) dX6_openOf_38 (by decide) c11 ?_
          refine x_iinc (L' := [(0, .ref p_0), (1, .int v_1), (2, .int v_2), (3, .int v_3), (4, .int (v_4 + 1))]) 4 [1, 2, 3, 4, 0] dX6_openOf_53 rfl rfl (by decide) rfl ?_
          refine x_goto (tgt := 5) dX6_openOf_56 (by decide) ?_
          exact ih p_0 v_1 v_2 v_3 (v_4 + 1) N kk0 h
      · refine x_icmp_ne_t (tgt := 53) dX6_openOf_29 (by decide) c10 ?_
        refine x_iinc (L' := [(0, .ref p_0), (1, .int v_1), (2, .int v_2), (3, .int v_3), (4, .int (v_4 + 1))]) 4 [1, 2, 3, 4, 0] dX6_openOf_53 rfl rfl (by decide) rfl ?_
        refine x_goto (tgt := 5) dX6_openOf_56 (by decide) ?_
        exact ih p_0 v_1 v_2 v_3 (v_4 + 1) N kk0 h
set_option maxHeartbeats 4000000 in
set_option maxRecDepth 100000 in
theorem T_X6_openOf {G : XG} {Y : XY} (hw : WT Y) {a0 : Nat} {a1 : Int32} {a2 : Int32} {N : XN} (k100 : kc Y a0 = 16) {r9 : Int32} (h : f_X6_openOf Y a0 a1 a2 N = some r9) : Cl G yX6_openOf cX6_openOf 6 (some .int) (xR 1 0 0) [.ref a0, .int a1, .int a2] (.inl (some (.int r9))) Y N Y N := by
  refine x_entry (by decide) (Nat.le_of_ble_eq_true rfl) rfl ?_
  rw [f_X6_openOf] at h
  refine x_iconst (v := 0) dX6_openOf_0 rfl ?_
  refine x_istore_n (L' := [(0, .ref a0), (1, .int a1), (2, .int a2), (3, .int 0)]) [1, 2, 3, 0] dX6_openOf_1 rfl (by decide) rfl ?_
  refine x_iconst (v := 0) dX6_openOf_2 rfl ?_
  refine x_istore (L' := [(0, .ref a0), (1, .int a1), (2, .int a2), (3, .int 0), (4, .int 0)]) [1, 2, 3, 4, 0] dX6_openOf_3 (by decide) rfl ?_
  exact T_X6_openOf_5 (G := G) hw FU a0 a1 a2 0 0 N k100 h
set_option maxHeartbeats 4000000 in
set_option maxRecDepth 100000 in
theorem T_X6_raisedInWindow_4 {G : XG} {Y : XY} (hw : WT Y) {r9 : Int32}: ∀ (D9 : Nat) (p_0 : Nat) (v_1 : Int32) (v_2 : Int32) (v_3 : Int32) (N : XN), kc Y p_0 = 16 → f_X6_raisedInWindow_4 Y D9 p_0 v_1 v_2 v_3 N = some r9 → Ex G yX6_raisedInWindow cX6_raisedInWindow 5 (some .int) (xR 1 0 0) (.inl (some (.int r9))) Y N 0 0 4 [(0, .ref p_0), (1, .int v_1), (2, .int v_2), (3, .int v_3)] [] Y N := by
  intro D9
  induction D9 with
  | zero => intro p_0 v_1 v_2 v_3 N kk0 h; exact nomatch (show none = some _ from h)
  | succ D9 ih =>
    intro p_0 v_1 v_2 v_3 N kk0 h
    rw [f_X6_raisedInWindow_4] at h
    refine x_iload_n 3 dX6_raisedInWindow_4 rfl rfl ?_
    refine x_aload_n 0 dX6_raisedInWindow_5 rfl rfl ?_
    refine x_geti dX6_raisedInWindow_6 vc_X6 xin6 fb_X6_5 fl_X6_53 xr_X6_5 kk0 ?_
    rcases x_if h with ⟨c1, h⟩ | ⟨c1, h⟩
    · refine x_icmp_ge_t (tgt := 63) dX6_raisedInWindow_9 (by decide) c1 ?_
      refine x_iload_n 2 dX6_raisedInWindow_63 rfl rfl ?_
      obtain rfl := x_so h
      exact x_iret dX6_raisedInWindow_64 rfl rfl rfl
    · refine x_icmp_ge_f (tgt := 63) dX6_raisedInWindow_9 (by decide) c1 ?_
      refine x_aload_n 0 dX6_raisedInWindow_12 rfl rfl ?_
      obtain ⟨g2, k3, n4⟩ := wt_X6_4 hw kk0
      refine x_getr dX6_raisedInWindow_13 vc_X6 xin6 fb_X6_4 fl_X6_25 xr_X6_4 kk0 g2 ?_
      refine x_iload_n 3 dX6_raisedInWindow_16 rfl rfl ?_
      obtain ⟨c5, h⟩ := x_ck h
      obtain ⟨g6, k7⟩ := wt_6 hw k3 (xb_at n4 c5)
      refine x_aald (j := 2) dX6_raisedInWindow_17 (by decide) k3 (xb_at n4 c5) g6 ?_
      obtain ⟨p8, ep8, h⟩ := x_lt h
      refine x_nmr ep8 ?_
      have k9 := k7; rw [← ep8] at k9
      refine x_astore (L' := [(0, .ref p_0), (1, .int v_1), (2, .int v_2), (3, .int v_3), (4, .ref p8)]) [1, 2, 3, 4, 0] dX6_raisedInWindow_18 (by decide) rfl ?_
      refine x_aload 4 dX6_raisedInWindow_20 rfl ?_
      refine x_geti dX6_raisedInWindow_22 vc_X3 xin3 fb_X3_0 fl_X6_118 xr_X3_0 k9 ?_
      refine x_iload_n 1 dX6_raisedInWindow_25 rfl rfl ?_
      rcases x_if h with ⟨c10, h⟩ | ⟨c10, h⟩
      · refine x_icmp_ne_f (tgt := 57) dX6_raisedInWindow_26 (by decide) c10 ?_
        refine x_aload 4 dX6_raisedInWindow_29 rfl ?_
        refine x_geti dX6_raisedInWindow_31 vc_X3 xin3 fb_X3_3 fl_X6_100 xr_X3_3 k9 ?_
        rcases x_if h with ⟨c11, h⟩ | ⟨c11, h⟩
        · refine x_if_eq_t (tgt := 57) dX6_raisedInWindow_34 (by decide) c11 ?_
          refine x_iinc (L' := [(0, .ref p_0), (1, .int v_1), (2, .int v_2), (3, .int (v_3 + 1))]) 3 [1, 2, 3, 0] dX6_raisedInWindow_57 rfl rfl (by decide) rfl ?_
          refine x_goto (tgt := 4) dX6_raisedInWindow_60 (by decide) ?_
          exact ih p_0 v_1 v_2 (v_3 + 1) N kk0 h
        · refine x_if_eq_f (tgt := 57) dX6_raisedInWindow_34 (by decide) c11 ?_
          refine x_aload 4 dX6_raisedInWindow_37 rfl ?_
          refine x_geti dX6_raisedInWindow_39 vc_X3 xin3 fb_X3_1 fl_X6_124 xr_X3_1 k9 ?_
          refine x_aload_n 0 dX6_raisedInWindow_42 rfl rfl ?_
          refine x_geti dX6_raisedInWindow_43 vc_X6 xin6 fb_X6_6 fl_X6_56 xr_X6_6 kk0 ?_
          refine x_aload_n 0 dX6_raisedInWindow_46 rfl rfl ?_
          refine x_geti dX6_raisedInWindow_47 vc_X6 xin6 fb_X6_9 fl_X6_65 xr_X6_9 kk0 ?_
          refine x_isub dX6_raisedInWindow_50 ?_
          rcases x_if h with ⟨c12, h⟩ | ⟨c12, h⟩
          · refine x_icmp_le_t (tgt := 57) dX6_raisedInWindow_51 (by decide) c12 ?_
            refine x_iinc (L' := [(0, .ref p_0), (1, .int v_1), (2, .int v_2), (3, .int (v_3 + 1))]) 3 [1, 2, 3, 0] dX6_raisedInWindow_57 rfl rfl (by decide) rfl ?_
            refine x_goto (tgt := 4) dX6_raisedInWindow_60 (by decide) ?_
            exact ih p_0 v_1 v_2 (v_3 + 1) N kk0 h
          · refine x_icmp_le_f (tgt := 57) dX6_raisedInWindow_51 (by decide) c12 ?_
            refine x_iinc (L' := [(0, .ref p_0), (1, .int v_1), (2, .int (v_2 + 1)), (3, .int v_3)]) 2 [1, 2, 0, 3] dX6_raisedInWindow_54 rfl rfl (by decide) rfl ?_
            refine x_iinc (L' := [(0, .ref p_0), (1, .int v_1), (2, .int (v_2 + 1)), (3, .int (v_3 + 1))]) 3 [1, 2, 3, 0] dX6_raisedInWindow_57 rfl rfl (by decide) rfl ?_
            refine x_goto (tgt := 4) dX6_raisedInWindow_60 (by decide) ?_
            exact ih p_0 v_1 (v_2 + 1) (v_3 + 1) N kk0 h
      · refine x_icmp_ne_t (tgt := 57) dX6_raisedInWindow_26 (by decide) c10 ?_
        refine x_iinc (L' := [(0, .ref p_0), (1, .int v_1), (2, .int v_2), (3, .int (v_3 + 1))]) 3 [1, 2, 3, 0] dX6_raisedInWindow_57 rfl rfl (by decide) rfl ?_
        refine x_goto (tgt := 4) dX6_raisedInWindow_60 (by decide) ?_
        exact ih p_0 v_1 v_2 (v_3 + 1) N kk0 h
set_option maxHeartbeats 4000000 in
set_option maxRecDepth 100000 in
theorem T_X6_raisedInWindow {G : XG} {Y : XY} (hw : WT Y) {a0 : Nat} {a1 : Int32} {N : XN} (k100 : kc Y a0 = 16) {r9 : Int32} (h : f_X6_raisedInWindow Y a0 a1 N = some r9) : Cl G yX6_raisedInWindow cX6_raisedInWindow 5 (some .int) (xR 1 0 0) [.ref a0, .int a1] (.inl (some (.int r9))) Y N Y N := by
  refine x_entry (by decide) (Nat.le_of_ble_eq_true rfl) rfl ?_
  rw [f_X6_raisedInWindow] at h
  refine x_iconst (v := 0) dX6_raisedInWindow_0 rfl ?_
  refine x_istore_n (L' := [(0, .ref a0), (1, .int a1), (2, .int 0)]) [1, 2, 0] dX6_raisedInWindow_1 rfl (by decide) rfl ?_
  refine x_iconst (v := 0) dX6_raisedInWindow_2 rfl ?_
  refine x_istore_n (L' := [(0, .ref a0), (1, .int a1), (2, .int 0), (3, .int 0)]) [1, 2, 3, 0] dX6_raisedInWindow_3 rfl (by decide) rfl ?_
  exact T_X6_raisedInWindow_4 (G := G) hw FU a0 a1 0 0 N k100 h
set_option maxHeartbeats 4000000 in
set_option maxRecDepth 100000 in
theorem T_X6_assign_27 {G : XG} {Y : XY} (hw : WT Y) {N9 : XN}: ∀ (D9 : Nat) (p_0 : Nat) (p_1 : Nat) (p_2 : Nat) (v_3 : Int32) (v_4 : Int32) (N : XN), kc Y p_0 = 16 → kc Y p_1 = 13 → kc Y p_2 = 12 → f_X6_assign_27 Y D9 p_0 p_1 p_2 v_3 v_4 N = some N9 → Ex G yX6_assign cX6_assign 6 none (xR 2 0 0) (.inl none) Y N9 0 0 27 [(0, .ref p_0), (1, .ref p_1), (2, .ref p_2), (3, .int v_3), (4, .int v_4)] [] Y N := by
  intro D9
  induction D9 with
  | zero => intro p_0 p_1 p_2 v_3 v_4 N kk0 kk1 kk2 h; exact nomatch (show none = some _ from h)
  | succ D9 ih =>
    intro p_0 p_1 p_2 v_3 v_4 N kk0 kk1 kk2 h
    rw [f_X6_assign_27] at h
    refine x_iload 4 dX6_assign_27 rfl ?_
    refine x_aload_n 2 dX6_assign_29 rfl rfl ?_
    refine x_geti dX6_assign_30 vc_X2 xin2 fb_X2_4 fl_X6_150 xr_X2_4 kk2 ?_
    rcases x_if h with ⟨c1, h⟩ | ⟨c1, h⟩
    · refine x_icmp_ge_t (tgt := 89) dX6_assign_33 (by decide) c1 ?_
      refine x_aload_n 0 dX6_assign_89 rfl rfl ?_
      refine x_aload_n 1 dX6_assign_90 rfl rfl ?_
      refine x_geti dX6_assign_91 vc_X3 xin3 fb_X3_4 fl_X6_121 xr_X3_4 kk1 ?_
      refine x_cv (b := p_0) (As := [.int (gi N p_1 4)]) (ci := 6) (d' := 1) (zz := yX6_hasHandler) dX6_assign_94 ml_X6_156 wi_X6_hasHandler wv_X6_hasHandler wn_X6 wc_X6_hasHandler hp_X6_hasHandler (by decide) (by decide) rfl (Nat.le_of_ble_eq_true rfl) ⟨Nat.zero_le _, Nat.zero_le _⟩ rfl kk0 (T_X6_hasHandler (G := G) hw kk0 rfl) ?_
      rcases x_if h with ⟨c2, h⟩ | ⟨c2, h⟩
      · refine x_if_eq_t (tgt := 118) dX6_assign_97 (by decide) c2 ?_
        refine x_iload_n 3 dX6_assign_118 rfl rfl ?_
        rcases x_if h with ⟨c3, h⟩ | ⟨c3, h⟩
        · refine x_if_lt_t (tgt := 137) dX6_assign_119 (by decide) c3 ?_
          refine x_aload_n 1 dX6_assign_137 rfl rfl ?_
          refine x_iload_n 3 dX6_assign_138 rfl rfl ?_
          refine x_puti dX6_assign_139 vc_X3 xin3 tyX3_ok nmX3 fb_X3_4 fl_X6_121 ff_X3_4 xr_X3_4 (nf_X3_4 _) (ft_X3_4 _) kk1 ?_
          obtain ⟨N4, eN4, h⟩ := x_lt h
          refine x_nmN eN4 ?_
          refine x_aload_n 1 dX6_assign_142 rfl rfl ?_
          refine x_aload_n 0 dX6_assign_143 rfl rfl ?_
          refine x_geti dX6_assign_144 vc_X6 xin6 fb_X6_6 fl_X6_56 xr_X6_6 kk0 ?_
          refine x_puti dX6_assign_147 vc_X3 xin3 tyX3_ok nmX3 fb_X3_6 fl_X6_162 ff_X3_6 xr_X3_6 (nf_X3_6 _) (ft_X3_6 _) kk1 ?_
          obtain ⟨N5, eN5, h⟩ := x_lt h
          refine x_nmN eN5 ?_
          obtain rfl := x_so h
          exact x_vret dX6_assign_150 rfl rfl rfl
        · refine x_if_lt_f (tgt := 137) dX6_assign_119 (by decide) c3 ?_
          refine x_aload_n 0 dX6_assign_122 rfl rfl ?_
          obtain ⟨g6, k7, n8⟩ := wt_X6_0 hw kk0
          refine x_getr dX6_assign_123 vc_X6 xin6 fb_X6_0 fl_X6_11 xr_X6_0 kk0 g6 ?_
          refine x_iload_n 3 dX6_assign_126 rfl rfl ?_
          obtain ⟨c9, h⟩ := x_ck h
          obtain ⟨g10, k11⟩ := wt_4 hw k7 (xb_at n8 c9)
          refine x_aald (j := 0) dX6_assign_127 (by decide) k7 (xb_at n8 c9) g10 ?_
          refine x_dup dX6_assign_128 rfl ?_
          refine x_geti dX6_assign_129 vc_X1 xin1 fb_X1_3 fl_X6_159 xr_X1_3 k11 ?_
          refine x_iconst (v := 1) dX6_assign_132 rfl ?_
          refine x_iadd dX6_assign_133 ?_
          refine x_puti dX6_assign_134 vc_X1 xin1 tyX1_ok nmX1 fb_X1_3 fl_X6_159 ff_X1_3 xr_X1_3 (nf_X1_3 _) (ft_X1_3 _) k11 ?_
          obtain ⟨N12, eN12, h⟩ := x_lt h
          refine x_nmN eN12 ?_
          refine x_aload_n 1 dX6_assign_137 rfl rfl ?_
          refine x_iload_n 3 dX6_assign_138 rfl rfl ?_
          refine x_puti dX6_assign_139 vc_X3 xin3 tyX3_ok nmX3 fb_X3_4 fl_X6_121 ff_X3_4 xr_X3_4 (nf_X3_4 _) (ft_X3_4 _) kk1 ?_
          obtain ⟨N13, eN13, h⟩ := x_lt h
          refine x_nmN eN13 ?_
          refine x_aload_n 1 dX6_assign_142 rfl rfl ?_
          refine x_aload_n 0 dX6_assign_143 rfl rfl ?_
          refine x_geti dX6_assign_144 vc_X6 xin6 fb_X6_6 fl_X6_56 xr_X6_6 kk0 ?_
          refine x_puti dX6_assign_147 vc_X3 xin3 tyX3_ok nmX3 fb_X3_6 fl_X6_162 ff_X3_6 xr_X3_6 (nf_X3_6 _) (ft_X3_6 _) kk1 ?_
          obtain ⟨N14, eN14, h⟩ := x_lt h
          refine x_nmN eN14 ?_
          obtain rfl := x_so h
          exact x_vret dX6_assign_150 rfl rfl rfl
      · refine x_if_eq_f (tgt := 118) dX6_assign_97 (by decide) c2 ?_
        refine x_aload_n 0 dX6_assign_100 rfl rfl ?_
        obtain ⟨g15, k16, n17⟩ := wt_X6_0 hw kk0
        refine x_getr dX6_assign_101 vc_X6 xin6 fb_X6_0 fl_X6_11 xr_X6_0 kk0 g15 ?_
        refine x_aload_n 1 dX6_assign_104 rfl rfl ?_
        refine x_geti dX6_assign_105 vc_X3 xin3 fb_X3_4 fl_X6_121 xr_X3_4 kk1 ?_
        obtain ⟨c18, h⟩ := x_ck h
        obtain ⟨g19, k20⟩ := wt_4 hw k16 (xb_at n17 c18)
        refine x_aald (j := 0) dX6_assign_108 (by decide) k16 (xb_at n17 c18) g19 ?_
        refine x_dup dX6_assign_109 rfl ?_
        refine x_geti dX6_assign_110 vc_X1 xin1 fb_X1_3 fl_X6_159 xr_X1_3 k20 ?_
        refine x_iconst (v := 1) dX6_assign_113 rfl ?_
        refine x_isub dX6_assign_114 ?_
        refine x_puti dX6_assign_115 vc_X1 xin1 tyX1_ok nmX1 fb_X1_3 fl_X6_159 ff_X1_3 xr_X1_3 (nf_X1_3 _) (ft_X1_3 _) k20 ?_
        obtain ⟨N21, eN21, h⟩ := x_lt h
        refine x_nmN eN21 ?_
        refine x_iload_n 3 dX6_assign_118 rfl rfl ?_
        rcases x_if h with ⟨c22, h⟩ | ⟨c22, h⟩
        · refine x_if_lt_t (tgt := 137) dX6_assign_119 (by decide) c22 ?_
          refine x_aload_n 1 dX6_assign_137 rfl rfl ?_
          refine x_iload_n 3 dX6_assign_138 rfl rfl ?_
          refine x_puti dX6_assign_139 vc_X3 xin3 tyX3_ok nmX3 fb_X3_4 fl_X6_121 ff_X3_4 xr_X3_4 (nf_X3_4 _) (ft_X3_4 _) kk1 ?_
          obtain ⟨N23, eN23, h⟩ := x_lt h
          refine x_nmN eN23 ?_
          refine x_aload_n 1 dX6_assign_142 rfl rfl ?_
          refine x_aload_n 0 dX6_assign_143 rfl rfl ?_
          refine x_geti dX6_assign_144 vc_X6 xin6 fb_X6_6 fl_X6_56 xr_X6_6 kk0 ?_
          refine x_puti dX6_assign_147 vc_X3 xin3 tyX3_ok nmX3 fb_X3_6 fl_X6_162 ff_X3_6 xr_X3_6 (nf_X3_6 _) (ft_X3_6 _) kk1 ?_
          obtain ⟨N24, eN24, h⟩ := x_lt h
          refine x_nmN eN24 ?_
          obtain rfl := x_so h
          exact x_vret dX6_assign_150 rfl rfl rfl
        · refine x_if_lt_f (tgt := 137) dX6_assign_119 (by decide) c22 ?_
          refine x_aload_n 0 dX6_assign_122 rfl rfl ?_
          refine x_getr dX6_assign_123 vc_X6 xin6 fb_X6_0 fl_X6_11 xr_X6_0 kk0 g15 ?_
          refine x_iload_n 3 dX6_assign_126 rfl rfl ?_
          obtain ⟨c25, h⟩ := x_ck h
          obtain ⟨g26, k27⟩ := wt_4 hw k16 (xb_at n17 c25)
          refine x_aald (j := 0) dX6_assign_127 (by decide) k16 (xb_at n17 c25) g26 ?_
          refine x_dup dX6_assign_128 rfl ?_
          refine x_geti dX6_assign_129 vc_X1 xin1 fb_X1_3 fl_X6_159 xr_X1_3 k27 ?_
          refine x_iconst (v := 1) dX6_assign_132 rfl ?_
          refine x_iadd dX6_assign_133 ?_
          refine x_puti dX6_assign_134 vc_X1 xin1 tyX1_ok nmX1 fb_X1_3 fl_X6_159 ff_X1_3 xr_X1_3 (nf_X1_3 _) (ft_X1_3 _) k27 ?_
          obtain ⟨N28, eN28, h⟩ := x_lt h
          refine x_nmN eN28 ?_
          refine x_aload_n 1 dX6_assign_137 rfl rfl ?_
          refine x_iload_n 3 dX6_assign_138 rfl rfl ?_
          refine x_puti dX6_assign_139 vc_X3 xin3 tyX3_ok nmX3 fb_X3_4 fl_X6_121 ff_X3_4 xr_X3_4 (nf_X3_4 _) (ft_X3_4 _) kk1 ?_
          obtain ⟨N29, eN29, h⟩ := x_lt h
          refine x_nmN eN29 ?_
          refine x_aload_n 1 dX6_assign_142 rfl rfl ?_
          refine x_aload_n 0 dX6_assign_143 rfl rfl ?_
          refine x_geti dX6_assign_144 vc_X6 xin6 fb_X6_6 fl_X6_56 xr_X6_6 kk0 ?_
          refine x_puti dX6_assign_147 vc_X3 xin3 tyX3_ok nmX3 fb_X3_6 fl_X6_162 ff_X3_6 xr_X3_6 (nf_X3_6 _) (ft_X3_6 _) kk1 ?_
          obtain ⟨N30, eN30, h⟩ := x_lt h
          refine x_nmN eN30 ?_
          obtain rfl := x_so h
          exact x_vret dX6_assign_150 rfl rfl rfl
    · refine x_icmp_ge_f (tgt := 89) dX6_assign_33 (by decide) c1 ?_
      refine x_aload_n 2 dX6_assign_36 rfl rfl ?_
      obtain ⟨g31, k32, n33⟩ := wt_X2_3 hw kk2
      refine x_getr dX6_assign_37 vc_X2 xin2 fb_X2_3 fl_X6_153 xr_X2_3 kk2 g31 ?_
      refine x_iload 4 dX6_assign_40 rfl ?_
      obtain ⟨c34, h⟩ := x_ck h
      refine x_iald dX6_assign_42 k32 (xb_at n33 c34) rfl ?_
      obtain ⟨v35, ev35, h⟩ := x_lt h
      refine x_nmi ev35 ?_
      refine x_istore (L' := [(0, .ref p_0), (1, .ref p_1), (2, .ref p_2), (3, .int v_3), (4, .int v_4), (5, .int v35)]) [1, 2, 3, 4, 5, 0] dX6_assign_43 (by decide) rfl ?_
      refine x_aload_n 0 dX6_assign_45 rfl rfl ?_
      refine x_iload 5 dX6_assign_46 rfl ?_
      refine x_cv (b := p_0) (As := [.int v35]) (ci := 6) (d' := 1) (zz := yX6_hasHandler) dX6_assign_48 ml_X6_156 wi_X6_hasHandler wv_X6_hasHandler wn_X6 wc_X6_hasHandler hp_X6_hasHandler (by decide) (by decide) rfl (Nat.le_of_ble_eq_true rfl) ⟨Nat.zero_le _, Nat.zero_le _⟩ rfl kk0 (T_X6_hasHandler (G := G) hw kk0 rfl) ?_
      rcases x_if h with ⟨c36, h⟩ | ⟨c36, h⟩
      · refine x_if_eq_t (tgt := 83) dX6_assign_51 (by decide) c36 ?_
        refine x_iinc (L' := [(0, .ref p_0), (1, .ref p_1), (2, .ref p_2), (3, .int v_3), (4, .int (v_4 + 1))]) 4 [1, 2, 3, 4, 0] dX6_assign_83 rfl rfl (by decide) rfl ?_
        refine x_goto (tgt := 27) dX6_assign_86 (by decide) ?_
        exact ih p_0 p_1 p_2 v_3 (v_4 + 1) N kk0 kk1 kk2 h
      · refine x_if_eq_f (tgt := 83) dX6_assign_51 (by decide) c36 ?_
        refine x_iload_n 3 dX6_assign_54 rfl rfl ?_
        rcases x_if h with ⟨c37, h⟩ | ⟨c37, h⟩
        · refine x_if_lt_t (tgt := 80) dX6_assign_55 (by decide) c37 ?_
          refine x_iload 5 dX6_assign_80 rfl ?_
          refine x_istore_n (L' := [(0, .ref p_0), (1, .ref p_1), (2, .ref p_2), (3, .int v35), (4, .int v_4)]) [1, 2, 3, 0, 4] dX6_assign_82 rfl (by decide) rfl ?_
          refine x_iinc (L' := [(0, .ref p_0), (1, .ref p_1), (2, .ref p_2), (3, .int v35), (4, .int (v_4 + 1))]) 4 [1, 2, 3, 4, 0] dX6_assign_83 rfl rfl (by decide) rfl ?_
          refine x_goto (tgt := 27) dX6_assign_86 (by decide) ?_
          exact ih p_0 p_1 p_2 v35 (v_4 + 1) N kk0 kk1 kk2 h
        · refine x_if_lt_f (tgt := 80) dX6_assign_55 (by decide) c37 ?_
          refine x_aload_n 0 dX6_assign_58 rfl rfl ?_
          obtain ⟨g38, k39, n40⟩ := wt_X6_0 hw kk0
          refine x_getr dX6_assign_59 vc_X6 xin6 fb_X6_0 fl_X6_11 xr_X6_0 kk0 g38 ?_
          refine x_iload 5 dX6_assign_62 rfl ?_
          obtain ⟨c41, h⟩ := x_ck h
          obtain ⟨g42, k43⟩ := wt_4 hw k39 (xb_at n40 c41)
          refine x_aald (j := 0) dX6_assign_64 (by decide) k39 (xb_at n40 c41) g42 ?_
          refine x_geti dX6_assign_65 vc_X1 xin1 fb_X1_3 fl_X6_159 xr_X1_3 k43 ?_
          refine x_aload_n 0 dX6_assign_68 rfl rfl ?_
          refine x_getr dX6_assign_69 vc_X6 xin6 fb_X6_0 fl_X6_11 xr_X6_0 kk0 g38 ?_
          refine x_iload_n 3 dX6_assign_72 rfl rfl ?_
          obtain ⟨c44, h⟩ := x_ck h
          obtain ⟨g45, k46⟩ := wt_4 hw k39 (xb_at n40 c44)
          refine x_aald (j := 0) dX6_assign_73 (by decide) k39 (xb_at n40 c44) g45 ?_
          refine x_geti dX6_assign_74 vc_X1 xin1 fb_X1_3 fl_X6_159 xr_X1_3 k46 ?_
          rcases x_if h with ⟨c47, h⟩ | ⟨c47, h⟩
          · refine x_icmp_ge_t (tgt := 83) dX6_assign_77 (by decide) c47 ?_
            refine x_iinc (L' := [(0, .ref p_0), (1, .ref p_1), (2, .ref p_2), (3, .int v_3), (4, .int (v_4 + 1))]) 4 [1, 2, 3, 4, 0] dX6_assign_83 rfl rfl (by decide) rfl ?_
            refine x_goto (tgt := 27) dX6_assign_86 (by decide) ?_
            exact ih p_0 p_1 p_2 v_3 (v_4 + 1) N kk0 kk1 kk2 h
          · refine x_icmp_ge_f (tgt := 83) dX6_assign_77 (by decide) c47 ?_
            refine x_iload 5 dX6_assign_80 rfl ?_
            refine x_istore_n (L' := [(0, .ref p_0), (1, .ref p_1), (2, .ref p_2), (3, .int v35), (4, .int v_4)]) [1, 2, 3, 0, 4] dX6_assign_82 rfl (by decide) rfl ?_
            refine x_iinc (L' := [(0, .ref p_0), (1, .ref p_1), (2, .ref p_2), (3, .int v35), (4, .int (v_4 + 1))]) 4 [1, 2, 3, 4, 0] dX6_assign_83 rfl rfl (by decide) rfl ?_
            refine x_goto (tgt := 27) dX6_assign_86 (by decide) ?_
            exact ih p_0 p_1 p_2 v35 (v_4 + 1) N kk0 kk1 kk2 h
set_option maxHeartbeats 4000000 in
set_option maxRecDepth 100000 in
theorem T_X6_assign {G : XG} {Y : XY} (hw : WT Y) {a0 : Nat} {a1 : Nat} {N : XN} (k100 : kc Y a0 = 16) (k101 : kc Y a1 = 13) {N9 : XN} (h : f_X6_assign Y a0 a1 N = some N9) : Cl G yX6_assign cX6_assign 6 none (xR 2 0 0) [.ref a0, .ref a1] (.inl none) Y N Y N9 := by
  refine x_entry (by decide) (Nat.le_of_ble_eq_true rfl) rfl ?_
  rw [f_X6_assign] at h
  refine x_aload_n 0 dX6_assign_0 rfl rfl ?_
  refine x_aload_n 1 dX6_assign_1 rfl rfl ?_
  refine x_geti dX6_assign_2 vc_X3 xin3 fb_X3_0 fl_X6_118 xr_X3_0 k101 ?_
  refine x_cv (b := a0) (As := [.int (gi N a1 0)]) (ci := 6) (d' := 1) (zz := yX6_hasLine) dX6_assign_5 ml_X6_125 wi_X6_hasLine wv_X6_hasLine wn_X6 wc_X6_hasLine hp_X6_hasLine (by decide) (by decide) rfl (Nat.le_of_ble_eq_true rfl) ⟨Nat.zero_le _, Nat.zero_le _⟩ rfl k100 (T_X6_hasLine (G := G) hw k100 rfl) ?_
  rcases x_if h with ⟨c1, h⟩ | ⟨c1, h⟩
  · refine x_if_ne_f (tgt := 12) dX6_assign_8 (by decide) c1 ?_
    obtain rfl := x_so h
    exact x_vret dX6_assign_11 rfl rfl rfl
  · refine x_if_ne_t (tgt := 12) dX6_assign_8 (by decide) c1 ?_
    refine x_aload_n 0 dX6_assign_12 rfl rfl ?_
    obtain ⟨g2, k3, n4⟩ := wt_X6_2 hw k100
    refine x_getr dX6_assign_13 vc_X6 xin6 fb_X6_2 fl_X6_19 xr_X6_2 k100 g2 ?_
    refine x_aload_n 1 dX6_assign_16 rfl rfl ?_
    refine x_geti dX6_assign_17 vc_X3 xin3 fb_X3_0 fl_X6_118 xr_X3_0 k101 ?_
    obtain ⟨c5, h⟩ := x_ck h
    obtain ⟨g6, k7⟩ := wt_5 hw k3 (xb_at n4 c5)
    refine x_aald (j := 1) dX6_assign_20 (by decide) k3 (xb_at n4 c5) g6 ?_
    obtain ⟨p8, ep8, h⟩ := x_lt h
    refine x_nmr ep8 ?_
    have k9 := k7; rw [← ep8] at k9
    refine x_astore_n (L' := [(0, .ref a0), (1, .ref a1), (2, .ref p8)]) [1, 2, 0] dX6_assign_21 rfl (by decide) rfl ?_
    refine x_iconst (v := (-1)) dX6_assign_22 rfl ?_
    refine x_istore_n (L' := [(0, .ref a0), (1, .ref a1), (2, .ref p8), (3, .int (-1))]) [1, 2, 3, 0] dX6_assign_23 rfl (by decide) rfl ?_
    refine x_iconst (v := 0) dX6_assign_24 rfl ?_
    refine x_istore (L' := [(0, .ref a0), (1, .ref a1), (2, .ref p8), (3, .int (-1)), (4, .int 0)]) [1, 2, 3, 4, 0] dX6_assign_25 (by decide) rfl ?_
    exact T_X6_assign_27 (G := G) hw FU a0 a1 p8 (-1) 0 N k100 k101 k9 h
set_option maxHeartbeats 4000000 in
set_option maxRecDepth 100000 in
theorem T_X6_openOrRefuse {G : XG} {Y : XY} (hw : WT Y) {a0 : Nat} {a1 : Nat} {N : XN} (k100 : kc Y a0 = 16) (k101 : kc Y a1 = 13) {N9 : XN} (h : f_X6_openOrRefuse Y a0 a1 N = some N9) : Cl G yX6_openOrRefuse cX6_openOrRefuse 3 none (xR 3 0 0) [.ref a0, .ref a1] (.inl none) Y N Y N9 := by
  refine x_entry (by decide) (Nat.le_of_ble_eq_true rfl) rfl ?_
  rw [f_X6_openOrRefuse] at h
  refine x_aload_n 0 dX6_openOrRefuse_0 rfl rfl ?_
  refine x_aload_n 1 dX6_openOrRefuse_1 rfl rfl ?_
  refine x_geti dX6_openOrRefuse_2 vc_X3 xin3 fb_X3_0 fl_X6_118 xr_X3_0 k101 ?_
  refine x_cv (b := a0) (As := [.int (gi N a1 0)]) (ci := 6) (d' := 1) (zz := yX6_hasLine) dX6_openOrRefuse_5 ml_X6_125 wi_X6_hasLine wv_X6_hasLine wn_X6 wc_X6_hasLine hp_X6_hasLine (by decide) (by decide) rfl (Nat.le_of_ble_eq_true rfl) ⟨Nat.zero_le _, Nat.zero_le _⟩ rfl k100 (T_X6_hasLine (G := G) hw k100 rfl) ?_
  rcases x_if h with ⟨c1, h⟩ | ⟨c1, h⟩
  · refine x_if_ne_f (tgt := 12) dX6_openOrRefuse_8 (by decide) c1 ?_
    obtain rfl := x_so h
    exact x_vret dX6_openOrRefuse_11 rfl rfl rfl
  · refine x_if_ne_t (tgt := 12) dX6_openOrRefuse_8 (by decide) c1 ?_
    refine x_aload_n 0 dX6_openOrRefuse_12 rfl rfl ?_
    obtain ⟨g2, k3, n4⟩ := wt_X6_2 hw k100
    refine x_getr dX6_openOrRefuse_13 vc_X6 xin6 fb_X6_2 fl_X6_19 xr_X6_2 k100 g2 ?_
    refine x_aload_n 1 dX6_openOrRefuse_16 rfl rfl ?_
    refine x_geti dX6_openOrRefuse_17 vc_X3 xin3 fb_X3_0 fl_X6_118 xr_X3_0 k101 ?_
    obtain ⟨c5, h⟩ := x_ck h
    obtain ⟨g6, k7⟩ := wt_5 hw k3 (xb_at n4 c5)
    refine x_aald (j := 1) dX6_openOrRefuse_20 (by decide) k3 (xb_at n4 c5) g6 ?_
    obtain ⟨p8, ep8, h⟩ := x_lt h
    refine x_nmr ep8 ?_
    have k9 := k7; rw [← ep8] at k9
    refine x_astore_n (L' := [(0, .ref a0), (1, .ref a1), (2, .ref p8)]) [1, 2, 0] dX6_openOrRefuse_21 rfl (by decide) rfl ?_
    refine x_aload_n 0 dX6_openOrRefuse_22 rfl rfl ?_
    refine x_aload_n 1 dX6_openOrRefuse_23 rfl rfl ?_
    refine x_geti dX6_openOrRefuse_24 vc_X3 xin3 fb_X3_0 fl_X6_118 xr_X3_0 k101 ?_
    obtain ⟨r11, q10, h⟩ := x_bd1 h
    refine x_cv (b := a0) (As := [.int (gi N a1 0)]) (ci := 6) (d' := 1) (zz := yX6_raisedInWindow) dX6_openOrRefuse_27 ml_X6_129 wi_X6_raisedInWindow wv_X6_raisedInWindow wn_X6 wc_X6_raisedInWindow hp_X6_raisedInWindow (by decide) (by decide) rfl (Nat.le_of_ble_eq_true rfl) ⟨Nat.zero_le _, Nat.zero_le _⟩ rfl k100 (T_X6_raisedInWindow (G := G) hw k100 q10) ?_
    refine x_iconst (v := 1) dX6_openOrRefuse_30 rfl ?_
    refine x_iadd dX6_openOrRefuse_31 ?_
    refine x_aload_n 2 dX6_openOrRefuse_32 rfl rfl ?_
    refine x_geti dX6_openOrRefuse_33 vc_X2 xin2 fb_X2_1 fl_X6_132 xr_X2_1 k9 ?_
    rcases x_if h with ⟨c12, h⟩ | ⟨c12, h⟩
    · refine x_icmp_le_t (tgt := 72) dX6_openOrRefuse_36 (by decide) c12 ?_
      refine x_aload_n 1 dX6_openOrRefuse_72 rfl rfl ?_
      refine x_iconst (v := 1) dX6_openOrRefuse_73 rfl ?_
      refine x_puti dX6_openOrRefuse_74 vc_X3 xin3 tyX3_ok nmX3 fb_X3_3 fl_X6_100 ff_X3_3 xr_X3_3 (nf_X3_3 _) (ft_X3_3 _) k101 ?_
      obtain ⟨N13, eN13, h⟩ := x_lt h
      refine x_nmN eN13 ?_
      refine x_aload_n 1 dX6_openOrRefuse_77 rfl rfl ?_
      refine x_aload_n 1 dX6_openOrRefuse_78 rfl rfl ?_
      refine x_geti dX6_openOrRefuse_79 vc_X3 xin3 fb_X3_2 fl_X6_141 xr_X3_2 k101 ?_
      refine x_puti dX6_openOrRefuse_82 vc_X3 xin3 tyX3_ok nmX3 fb_X3_5 fl_X6_144 ff_X3_5 xr_X3_5 (nf_X3_5 _) (ft_X3_5 _) k101 ?_
      obtain ⟨N14, eN14, h⟩ := x_lt h
      refine x_nmN eN14 ?_
      refine x_aload_n 0 dX6_openOrRefuse_85 rfl rfl ?_
      refine x_aload_n 1 dX6_openOrRefuse_86 rfl rfl ?_
      obtain ⟨N16, q15, h⟩ := x_bd1 h
      refine x_cv (b := a0) (As := [.ref a1]) (ci := 6) (d' := 2) (zz := yX6_assign) dX6_openOrRefuse_87 ml_X6_147 wi_X6_assign wv_X6_assign wn_X6 wc_X6_assign hp_X6_assign (by decide) (by decide) rfl (Nat.le_of_ble_eq_true rfl) ⟨Nat.zero_le _, Nat.zero_le _⟩ rfl k100 (T_X6_assign (G := G) hw k100 k101 q15) ?_
      obtain rfl := x_so h
      exact x_vret dX6_openOrRefuse_90 rfl rfl rfl
    · refine x_icmp_le_f (tgt := 72) dX6_openOrRefuse_36 (by decide) c12 ?_
      refine x_aload_n 1 dX6_openOrRefuse_39 rfl rfl ?_
      refine x_iconst (v := 3) dX6_openOrRefuse_40 rfl ?_
      refine x_puti dX6_openOrRefuse_41 vc_X3 xin3 tyX3_ok nmX3 fb_X3_3 fl_X6_100 ff_X3_3 xr_X3_3 (nf_X3_3 _) (ft_X3_3 _) k101 ?_
      obtain ⟨N17, eN17, h⟩ := x_lt h
      refine x_nmN eN17 ?_
      refine x_aload_n 1 dX6_openOrRefuse_44 rfl rfl ?_
      refine x_aload_n 0 dX6_openOrRefuse_45 rfl rfl ?_
      refine x_geti dX6_openOrRefuse_46 vc_X6 xin6 fb_X6_6 fl_X6_56 xr_X6_6 k100 ?_
      refine x_puti dX6_openOrRefuse_49 vc_X3 xin3 tyX3_ok nmX3 fb_X3_7 fl_X6_135 ff_X3_7 xr_X3_7 (nf_X3_7 _) (ft_X3_7 _) k101 ?_
      obtain ⟨N18, eN18, h⟩ := x_lt h
      refine x_nmN eN18 ?_
      refine x_aload_n 0 dX6_openOrRefuse_52 rfl rfl ?_
      refine x_dup dX6_openOrRefuse_53 rfl ?_
      refine x_geti dX6_openOrRefuse_54 vc_X6 xin6 fb_X6_7 fl_X6_59 xr_X6_7 k100 ?_
      refine x_aload_n 2 dX6_openOrRefuse_57 rfl rfl ?_
      refine x_aload_n 0 dX6_openOrRefuse_58 rfl rfl ?_
      refine x_geti dX6_openOrRefuse_59 vc_X6 xin6 fb_X6_10 fl_X6_68 xr_X6_10 k100 ?_
      obtain ⟨r20, N21, q19, h⟩ := x_bd2 h
      refine x_cv (b := p8) (As := [.int (gi N18 a0 10)]) (ci := 2) (d' := 1) (zz := yX2_payAtMost) dX6_openOrRefuse_62 ml_X6_138 wi_X2_payAtMost wv_X2_payAtMost wn_X2 wc_X2_payAtMost hp_X2_payAtMost (by decide) (by decide) rfl (Nat.le_of_ble_eq_true rfl) ⟨Nat.zero_le _, Nat.zero_le _⟩ rfl k9 (T_X2_payAtMost (G := G) hw k9 q19) ?_
      refine x_iadd dX6_openOrRefuse_65 ?_
      refine x_puti dX6_openOrRefuse_66 vc_X6 xin6 tyX6_ok nmX6 fb_X6_7 fl_X6_59 ff_X6_7 xr_X6_7 (nf_X6_7 _) (ft_X6_7 _) k100 ?_
      obtain ⟨N22, eN22, h⟩ := x_lt h
      refine x_nmN eN22 ?_
      refine x_goto (tgt := 90) dX6_openOrRefuse_69 (by decide) ?_
      obtain rfl := x_so h
      exact x_vret dX6_openOrRefuse_90 rfl rfl rfl
set_option maxHeartbeats 4000000 in
set_option maxRecDepth 100000 in
theorem T_X6_assignThoseOf_5 {G : XG} {Y : XY} (hw : WT Y) {r9 : Int32} {N9 : XN}: ∀ (D9 : Nat) (p_0 : Nat) (v_1 : Int32) (v_2 : Int32) (v_3 : Int32) (v_4 : Int32) (N : XN), kc Y p_0 = 16 → f_X6_assignThoseOf_5 Y D9 p_0 v_1 v_2 v_3 v_4 N = some (r9, N9) → Ex G yX6_assignThoseOf cX6_assignThoseOf 6 (some .int) (xR 3 0 0) (.inl (some (.int r9))) Y N9 0 0 5 [(0, .ref p_0), (1, .int v_1), (2, .int v_2), (3, .int v_3), (4, .int v_4)] [] Y N := by
  intro D9
  induction D9 with
  | zero => intro p_0 v_1 v_2 v_3 v_4 N kk0 h; exact nomatch (show none = some _ from h)
  | succ D9 ih =>
    intro p_0 v_1 v_2 v_3 v_4 N kk0 h
    rw [f_X6_assignThoseOf_5] at h
    refine x_iload 4 dX6_assignThoseOf_5 rfl ?_
    refine x_aload_n 0 dX6_assignThoseOf_7 rfl rfl ?_
    refine x_geti dX6_assignThoseOf_8 vc_X6 xin6 fb_X6_5 fl_X6_53 xr_X6_5 kk0 ?_
    rcases x_if h with ⟨c1, h⟩ | ⟨c1, h⟩
    · refine x_icmp_ge_t (tgt := 65) dX6_assignThoseOf_11 (by decide) c1 ?_
      refine x_iload_n 3 dX6_assignThoseOf_65 rfl rfl ?_
      obtain ⟨rfl, rfl⟩ := Prod.mk.inj (x_so h)
      exact x_iret dX6_assignThoseOf_66 rfl rfl rfl
    · refine x_icmp_ge_f (tgt := 65) dX6_assignThoseOf_11 (by decide) c1 ?_
      refine x_aload_n 0 dX6_assignThoseOf_14 rfl rfl ?_
      obtain ⟨g2, k3, n4⟩ := wt_X6_4 hw kk0
      refine x_getr dX6_assignThoseOf_15 vc_X6 xin6 fb_X6_4 fl_X6_25 xr_X6_4 kk0 g2 ?_
      refine x_iload 4 dX6_assignThoseOf_18 rfl ?_
      obtain ⟨c5, h⟩ := x_ck h
      obtain ⟨g6, k7⟩ := wt_6 hw k3 (xb_at n4 c5)
      refine x_aald (j := 2) dX6_assignThoseOf_20 (by decide) k3 (xb_at n4 c5) g6 ?_
      obtain ⟨p8, ep8, h⟩ := x_lt h
      refine x_nmr ep8 ?_
      have k9 := k7; rw [← ep8] at k9
      refine x_astore (L' := [(0, .ref p_0), (1, .int v_1), (2, .int v_2), (3, .int v_3), (4, .int v_4), (5, .ref p8)]) [1, 2, 3, 4, 5, 0] dX6_assignThoseOf_21 (by decide) rfl ?_
      refine x_aload 5 dX6_assignThoseOf_23 rfl ?_
      refine x_geti dX6_assignThoseOf_25 vc_X3 xin3 fb_X3_3 fl_X6_100 xr_X3_3 k9 ?_
      refine x_iconst (v := 1) dX6_assignThoseOf_28 rfl ?_
      rcases x_if h with ⟨c10, h⟩ | ⟨c10, h⟩
      · refine x_icmp_ne_f (tgt := 59) dX6_assignThoseOf_29 (by decide) c10 ?_
        refine x_aload 5 dX6_assignThoseOf_32 rfl ?_
        refine x_geti dX6_assignThoseOf_34 vc_X3 xin3 fb_X3_0 fl_X6_118 xr_X3_0 k9 ?_
        refine x_iload_n 1 dX6_assignThoseOf_37 rfl rfl ?_
        rcases x_if h with ⟨c11, h⟩ | ⟨c11, h⟩
        · refine x_icmp_ne_f (tgt := 59) dX6_assignThoseOf_38 (by decide) c11 ?_
          refine x_aload 5 dX6_assignThoseOf_41 rfl ?_
          refine x_geti dX6_assignThoseOf_43 vc_X3 xin3 fb_X3_4 fl_X6_121 xr_X3_4 k9 ?_
          refine x_iload_n 2 dX6_assignThoseOf_46 rfl rfl ?_
          rcases x_if h with ⟨c12, h⟩ | ⟨c12, h⟩
          · refine x_icmp_ne_f (tgt := 59) dX6_assignThoseOf_47 (by decide) c12 ?_
            refine x_aload_n 0 dX6_assignThoseOf_50 rfl rfl ?_
            refine x_aload 5 dX6_assignThoseOf_51 rfl ?_
            obtain ⟨N14, q13, h⟩ := x_bd1 h
            refine x_cv (b := p_0) (As := [.ref p8]) (ci := 6) (d' := 2) (zz := yX6_assign) dX6_assignThoseOf_53 ml_X6_147 wi_X6_assign wv_X6_assign wn_X6 wc_X6_assign hp_X6_assign (by decide) (by decide) rfl (Nat.le_of_ble_eq_true rfl) ⟨Nat.zero_le _, Nat.zero_le _⟩ rfl kk0 (T_X6_assign (G := G) hw kk0 k9 q13) ?_
            refine x_iinc (L' := [(0, .ref p_0), (1, .int v_1), (2, .int v_2), (3, .int (v_3 + 1)), (4, .int v_4)]) 3 [1, 2, 3, 0, 4] dX6_assignThoseOf_56 rfl rfl (by decide) rfl ?_
            refine x_iinc (L' := [(0, .ref p_0), (1, .int v_1), (2, .int v_2), (3, .int (v_3 + 1)), (4, .int (v_4 + 1))]) 4 [1, 2, 3, 4, 0] dX6_assignThoseOf_59 rfl rfl (by decide) rfl ?_
            refine x_goto (tgt := 5) dX6_assignThoseOf_62 (by decide) ?_
            exact ih p_0 v_1 v_2 (v_3 + 1) (v_4 + 1) N14 kk0 h
          · refine x_icmp_ne_t (tgt := 59) dX6_assignThoseOf_47 (by decide) c12 ?_
            refine x_iinc (L' := [(0, .ref p_0), (1, .int v_1), (2, .int v_2), (3, .int v_3), (4, .int (v_4 + 1))]) 4 [1, 2, 3, 4, 0] dX6_assignThoseOf_59 rfl rfl (by decide) rfl ?_
            refine x_goto (tgt := 5) dX6_assignThoseOf_62 (by decide) ?_
            exact ih p_0 v_1 v_2 v_3 (v_4 + 1) N kk0 h
        · refine x_icmp_ne_t (tgt := 59) dX6_assignThoseOf_38 (by decide) c11 ?_
          refine x_iinc (L' := [(0, .ref p_0), (1, .int v_1), (2, .int v_2), (3, .int v_3), (4, .int (v_4 + 1))]) 4 [1, 2, 3, 4, 0] dX6_assignThoseOf_59 rfl rfl (by decide) rfl ?_
          refine x_goto (tgt := 5) dX6_assignThoseOf_62 (by decide) ?_
          exact ih p_0 v_1 v_2 v_3 (v_4 + 1) N kk0 h
      · refine x_icmp_ne_t (tgt := 59) dX6_assignThoseOf_29 (by decide) c10 ?_
        refine x_iinc (L' := [(0, .ref p_0), (1, .int v_1), (2, .int v_2), (3, .int v_3), (4, .int (v_4 + 1))]) 4 [1, 2, 3, 4, 0] dX6_assignThoseOf_59 rfl rfl (by decide) rfl ?_
        refine x_goto (tgt := 5) dX6_assignThoseOf_62 (by decide) ?_
        exact ih p_0 v_1 v_2 v_3 (v_4 + 1) N kk0 h
set_option maxHeartbeats 4000000 in
set_option maxRecDepth 100000 in
theorem T_X6_assignThoseOf {G : XG} {Y : XY} (hw : WT Y) {a0 : Nat} {a1 : Int32} {a2 : Int32} {N : XN} (k100 : kc Y a0 = 16) {r9 : Int32} {N9 : XN} (h : f_X6_assignThoseOf Y a0 a1 a2 N = some (r9, N9)) : Cl G yX6_assignThoseOf cX6_assignThoseOf 6 (some .int) (xR 3 0 0) [.ref a0, .int a1, .int a2] (.inl (some (.int r9))) Y N Y N9 := by
  refine x_entry (by decide) (Nat.le_of_ble_eq_true rfl) rfl ?_
  rw [f_X6_assignThoseOf] at h
  refine x_iconst (v := 0) dX6_assignThoseOf_0 rfl ?_
  refine x_istore_n (L' := [(0, .ref a0), (1, .int a1), (2, .int a2), (3, .int 0)]) [1, 2, 3, 0] dX6_assignThoseOf_1 rfl (by decide) rfl ?_
  refine x_iconst (v := 0) dX6_assignThoseOf_2 rfl ?_
  refine x_istore (L' := [(0, .ref a0), (1, .int a1), (2, .int a2), (3, .int 0), (4, .int 0)]) [1, 2, 3, 4, 0] dX6_assignThoseOf_3 (by decide) rfl ?_
  exact T_X6_assignThoseOf_5 (G := G) hw FU a0 a1 a2 0 0 N k100 h
set_option maxHeartbeats 4000000 in
set_option maxRecDepth 100000 in
theorem T_X6_mayLease {G : XG} {Y : XY} (hw : WT Y) {a0 : Nat} {a1 : Int32} {a2 : Int32} {N : XN} (k100 : kc Y a0 = 16) {r9 : Int32} (h : f_X6_mayLease Y a0 a1 a2 N = some r9) : Cl G yX6_mayLease cX6_mayLease 3 (some .boolean) (xR 2 0 0) [.ref a0, .int a1, .int a2] (.inl (some (.int r9))) Y N Y N := by
  refine x_entry (by decide) (Nat.le_of_ble_eq_true rfl) rfl ?_
  rw [f_X6_mayLease] at h
  refine x_aload_n 0 dX6_mayLease_0 rfl rfl ?_
  obtain ⟨g1, k2, n3⟩ := wt_X6_0 hw k100
  refine x_getr dX6_mayLease_1 vc_X6 xin6 fb_X6_0 fl_X6_11 xr_X6_0 k100 g1 ?_
  refine x_iload_n 1 dX6_mayLease_4 rfl rfl ?_
  obtain ⟨c4, h⟩ := x_ck h
  obtain ⟨g5, k6⟩ := wt_4 hw k2 (xb_at n3 c4)
  refine x_aald (j := 0) dX6_mayLease_5 (by decide) k2 (xb_at n3 c4) g5 ?_
  refine x_geti dX6_mayLease_6 vc_X1 xin1 fb_X1_2 fl_X6_103 xr_X1_2 k6 ?_
  rcases x_if h with ⟨c7, h⟩ | ⟨c7, h⟩
  · refine x_if_ne_f (tgt := 42) dX6_mayLease_9 (by decide) c7 ?_
    refine x_aload_n 0 dX6_mayLease_12 rfl rfl ?_
    obtain ⟨g8, k9, n10⟩ := wt_X6_2 hw k100
    refine x_getr dX6_mayLease_13 vc_X6 xin6 fb_X6_2 fl_X6_19 xr_X6_2 k100 g8 ?_
    refine x_iload_n 2 dX6_mayLease_16 rfl rfl ?_
    obtain ⟨c11, h⟩ := x_ck h
    obtain ⟨g12, k13⟩ := wt_5 hw k9 (xb_at n10 c11)
    refine x_aald (j := 1) dX6_mayLease_17 (by decide) k9 (xb_at n10 c11) g12 ?_
    refine x_iload_n 1 dX6_mayLease_18 rfl rfl ?_
    obtain ⟨r15, q14, h⟩ := x_bd1 h
    refine x_cv (b := (gp Y (gp Y a0 2) a2.toNatClampNeg)) (As := [.int a1]) (ci := 2) (d' := 1) (zz := yX2_placeOf) dX6_mayLease_19 ml_X6_114 wi_X2_placeOf wv_X2_placeOf wn_X2 wc_X2_placeOf hp_X2_placeOf (by decide) (by decide) rfl (Nat.le_of_ble_eq_true rfl) ⟨Nat.zero_le _, Nat.zero_le _⟩ rfl k13 (T_X2_placeOf (G := G) hw k13 q14) ?_
    rcases x_if h with ⟨c16, h⟩ | ⟨c16, h⟩
    · refine x_if_ge_t (tgt := 42) dX6_mayLease_22 (by decide) c16 ?_
      refine x_iconst (v := 0) dX6_mayLease_42 rfl ?_
      obtain rfl := x_so h
      exact x_zret dX6_mayLease_43 rfl (by decide) rfl rfl
    · refine x_if_ge_f (tgt := 42) dX6_mayLease_22 (by decide) c16 ?_
      refine x_aload_n 0 dX6_mayLease_25 rfl rfl ?_
      refine x_getr dX6_mayLease_26 vc_X6 xin6 fb_X6_2 fl_X6_19 xr_X6_2 k100 g8 ?_
      refine x_iload_n 2 dX6_mayLease_29 rfl rfl ?_
      obtain ⟨c17, h⟩ := x_ck h
      refine x_aald (j := 1) dX6_mayLease_30 (by decide) k9 (xb_at n10 c17) g12 ?_
      refine x_geti dX6_mayLease_31 vc_X2 xin2 fb_X2_4 fl_X6_150 xr_X2_4 k13 ?_
      refine x_iconst (v := 3) dX6_mayLease_34 rfl ?_
      rcases x_if h with ⟨c18, h⟩ | ⟨c18, h⟩
      · refine x_icmp_ge_t (tgt := 42) dX6_mayLease_35 (by decide) c18 ?_
        refine x_iconst (v := 0) dX6_mayLease_42 rfl ?_
        obtain rfl := x_so h
        exact x_zret dX6_mayLease_43 rfl (by decide) rfl rfl
      · refine x_icmp_ge_f (tgt := 42) dX6_mayLease_35 (by decide) c18 ?_
        refine x_iconst (v := 1) dX6_mayLease_38 rfl ?_
        refine x_goto (tgt := 43) dX6_mayLease_39 (by decide) ?_
        obtain rfl := x_so h
        exact x_zret dX6_mayLease_43 rfl (by decide) rfl rfl
  · refine x_if_ne_t (tgt := 42) dX6_mayLease_9 (by decide) c7 ?_
    refine x_iconst (v := 0) dX6_mayLease_42 rfl ?_
    obtain rfl := x_so h
    exact x_zret dX6_mayLease_43 rfl (by decide) rfl rfl
set_option maxHeartbeats 4000000 in
set_option maxRecDepth 100000 in
theorem T_X6_letLease {G : XG} {Y : XY} (hw : WT Y) {a0 : Nat} {a1 : Int32} {a2 : Int32} {N : XN} (k100 : kc Y a0 = 16) {r9 : Int32} {N9 : XN} (h : f_X6_letLease Y a0 a1 a2 N = some (r9, N9)) : Cl G yX6_letLease cX6_letLease 3 (some .int) (xR 4 0 0) [.ref a0, .int a1, .int a2] (.inl (some (.int r9))) Y N Y N9 := by
  refine x_entry (by decide) (Nat.le_of_ble_eq_true rfl) rfl ?_
  rw [f_X6_letLease] at h
  refine x_aload_n 0 dX6_letLease_0 rfl rfl ?_
  obtain ⟨g1, k2, n3⟩ := wt_X6_2 hw k100
  refine x_getr dX6_letLease_1 vc_X6 xin6 fb_X6_2 fl_X6_19 xr_X6_2 k100 g1 ?_
  refine x_iload_n 2 dX6_letLease_4 rfl rfl ?_
  obtain ⟨c4, h⟩ := x_ck h
  obtain ⟨g5, k6⟩ := wt_5 hw k2 (xb_at n3 c4)
  refine x_aald (j := 1) dX6_letLease_5 (by decide) k2 (xb_at n3 c4) g5 ?_
  refine x_iload_n 1 dX6_letLease_6 rfl rfl ?_
  obtain ⟨N8, q7, h⟩ := x_bd1 h
  refine x_cv (b := (gp Y (gp Y a0 2) a2.toNatClampNeg)) (As := [.int a1]) (ci := 2) (d' := 1) (zz := yX2_addTenant) dX6_letLease_7 ml_X6_165 wi_X2_addTenant wv_X2_addTenant wn_X2 wc_X2_addTenant hp_X2_addTenant (by decide) (by decide) rfl (Nat.le_of_ble_eq_true rfl) ⟨Nat.zero_le _, Nat.zero_le _⟩ rfl k6 (T_X2_addTenant (G := G) hw k6 q7) ?_
  refine x_aload_n 0 dX6_letLease_10 rfl rfl ?_
  refine x_iload_n 2 dX6_letLease_11 rfl rfl ?_
  refine x_iconst (v := (-1)) dX6_letLease_12 rfl ?_
  obtain ⟨r10, N11, q9, h⟩ := x_bd2 h
  refine x_cv (b := a0) (As := [.int a2, .int (-1)]) (ci := 6) (d' := 3) (zz := yX6_assignThoseOf) dX6_letLease_13 ml_X6_169 wi_X6_assignThoseOf wv_X6_assignThoseOf wn_X6 wc_X6_assignThoseOf hp_X6_assignThoseOf (by decide) (by decide) rfl (Nat.le_of_ble_eq_true rfl) ⟨Nat.zero_le _, Nat.zero_le _⟩ rfl k100 (T_X6_assignThoseOf (G := G) hw k100 q9) ?_
  obtain ⟨rfl, rfl⟩ := Prod.mk.inj (x_so h)
  exact x_iret dX6_letLease_16 rfl rfl rfl
set_option maxHeartbeats 4000000 in
set_option maxRecDepth 100000 in
theorem T_X6_letRelease {G : XG} {Y : XY} (hw : WT Y) {a0 : Nat} {a1 : Int32} {a2 : Int32} {N : XN} (k100 : kc Y a0 = 16) {r9 : Int32} {N9 : XN} (h : f_X6_letRelease Y a0 a1 a2 N = some (r9, N9)) : Cl G yX6_letRelease cX6_letRelease 3 (some .int) (xR 4 0 0) [.ref a0, .int a1, .int a2] (.inl (some (.int r9))) Y N Y N9 := by
  refine x_entry (by decide) (Nat.le_of_ble_eq_true rfl) rfl ?_
  rw [f_X6_letRelease] at h
  refine x_aload_n 0 dX6_letRelease_0 rfl rfl ?_
  obtain ⟨g1, k2, n3⟩ := wt_X6_2 hw k100
  refine x_getr dX6_letRelease_1 vc_X6 xin6 fb_X6_2 fl_X6_19 xr_X6_2 k100 g1 ?_
  refine x_iload_n 2 dX6_letRelease_4 rfl rfl ?_
  obtain ⟨c4, h⟩ := x_ck h
  obtain ⟨g5, k6⟩ := wt_5 hw k2 (xb_at n3 c4)
  refine x_aald (j := 1) dX6_letRelease_5 (by decide) k2 (xb_at n3 c4) g5 ?_
  refine x_iload_n 1 dX6_letRelease_6 rfl rfl ?_
  obtain ⟨N8, q7, h⟩ := x_bd1 h
  refine x_cv (b := (gp Y (gp Y a0 2) a2.toNatClampNeg)) (As := [.int a1]) (ci := 2) (d' := 1) (zz := yX2_removeTenant) dX6_letRelease_7 ml_X6_173 wi_X2_removeTenant wv_X2_removeTenant wn_X2 wc_X2_removeTenant hp_X2_removeTenant (by decide) (by decide) rfl (Nat.le_of_ble_eq_true rfl) ⟨Nat.zero_le _, Nat.zero_le _⟩ rfl k6 (T_X2_removeTenant (G := G) hw k6 q7) ?_
  refine x_aload_n 0 dX6_letRelease_10 rfl rfl ?_
  refine x_iload_n 2 dX6_letRelease_11 rfl rfl ?_
  refine x_iload_n 1 dX6_letRelease_12 rfl rfl ?_
  obtain ⟨r10, N11, q9, h⟩ := x_bd2 h
  refine x_cv (b := a0) (As := [.int a2, .int a1]) (ci := 6) (d' := 3) (zz := yX6_assignThoseOf) dX6_letRelease_13 ml_X6_169 wi_X6_assignThoseOf wv_X6_assignThoseOf wn_X6 wc_X6_assignThoseOf hp_X6_assignThoseOf (by decide) (by decide) rfl (Nat.le_of_ble_eq_true rfl) ⟨Nat.zero_le _, Nat.zero_le _⟩ rfl k100 (T_X6_assignThoseOf (G := G) hw k100 q9) ?_
  obtain ⟨rfl, rfl⟩ := Prod.mk.inj (x_so h)
  exact x_iret dX6_letRelease_16 rfl rfl rfl
set_option maxHeartbeats 4000000 in
set_option maxRecDepth 100000 in
theorem T_X6_answer {G : XG} {Y : XY} (hw : WT Y) {a0 : Nat} {a1 : Nat} {N : XN} (k100 : kc Y a0 = 16) (k101 : kc Y a1 = 13) {N9 : XN} (h : f_X6_answer Y a0 a1 N = some N9) : Cl G yX6_answer cX6_answer 4 none (xR 2 0 0) [.ref a0, .ref a1] (.inl none) Y N Y N9 := by
  refine x_entry (by decide) (Nat.le_of_ble_eq_true rfl) rfl ?_
  rw [f_X6_answer] at h
  refine x_aload_n 0 dX6_answer_0 rfl rfl ?_
  refine x_aload_n 1 dX6_answer_1 rfl rfl ?_
  refine x_geti dX6_answer_2 vc_X3 xin3 fb_X3_4 fl_X6_121 xr_X3_4 k101 ?_
  refine x_cv (b := a0) (As := [.int (gi N a1 4)]) (ci := 6) (d' := 1) (zz := yX6_hasHandler) dX6_answer_5 ml_X6_156 wi_X6_hasHandler wv_X6_hasHandler wn_X6 wc_X6_hasHandler hp_X6_hasHandler (by decide) (by decide) rfl (Nat.le_of_ble_eq_true rfl) ⟨Nat.zero_le _, Nat.zero_le _⟩ rfl k100 (T_X6_hasHandler (G := G) hw k100 rfl) ?_
  rcases x_if h with ⟨c1, h⟩ | ⟨c1, h⟩
  · refine x_if_eq_t (tgt := 22) dX6_answer_8 (by decide) c1 ?_
    obtain rfl := x_so h
    exact x_vret dX6_answer_22 rfl rfl rfl
  · refine x_if_eq_f (tgt := 22) dX6_answer_8 (by decide) c1 ?_
    refine x_aload_n 0 dX6_answer_11 rfl rfl ?_
    refine x_aload_n 1 dX6_answer_12 rfl rfl ?_
    refine x_geti dX6_answer_13 vc_X3 xin3 fb_X3_0 fl_X6_118 xr_X3_0 k101 ?_
    refine x_cv (b := a0) (As := [.int (gi N a1 0)]) (ci := 6) (d' := 1) (zz := yX6_hasLine) dX6_answer_16 ml_X6_125 wi_X6_hasLine wv_X6_hasLine wn_X6 wc_X6_hasLine hp_X6_hasLine (by decide) (by decide) rfl (Nat.le_of_ble_eq_true rfl) ⟨Nat.zero_le _, Nat.zero_le _⟩ rfl k100 (T_X6_hasLine (G := G) hw k100 rfl) ?_
    rcases x_if h with ⟨c2, h⟩ | ⟨c2, h⟩
    · refine x_if_ne_f (tgt := 23) dX6_answer_19 (by decide) c2 ?_
      obtain rfl := x_so h
      exact x_vret dX6_answer_22 rfl rfl rfl
    · refine x_if_ne_t (tgt := 23) dX6_answer_19 (by decide) c2 ?_
      refine x_aload_n 0 dX6_answer_23 rfl rfl ?_
      obtain ⟨g3, k4, n5⟩ := wt_X6_0 hw k100
      refine x_getr dX6_answer_24 vc_X6 xin6 fb_X6_0 fl_X6_11 xr_X6_0 k100 g3 ?_
      refine x_aload_n 1 dX6_answer_27 rfl rfl ?_
      refine x_geti dX6_answer_28 vc_X3 xin3 fb_X3_4 fl_X6_121 xr_X3_4 k101 ?_
      obtain ⟨c6, h⟩ := x_ck h
      obtain ⟨g7, k8⟩ := wt_4 hw k4 (xb_at n5 c6)
      refine x_aald (j := 0) dX6_answer_31 (by decide) k4 (xb_at n5 c6) g7 ?_
      obtain ⟨p9, ep9, h⟩ := x_lt h
      refine x_nmr ep9 ?_
      have k10 := k8; rw [← ep9] at k10
      refine x_astore_n (L' := [(0, .ref a0), (1, .ref a1), (2, .ref p9)]) [1, 2, 0] dX6_answer_32 rfl (by decide) rfl ?_
      refine x_aload_n 2 dX6_answer_33 rfl rfl ?_
      refine x_dup dX6_answer_34 rfl ?_
      refine x_geti dX6_answer_35 vc_X1 xin1 fb_X1_3 fl_X6_159 xr_X1_3 k10 ?_
      refine x_iconst (v := 1) dX6_answer_38 rfl ?_
      refine x_isub dX6_answer_39 ?_
      refine x_puti dX6_answer_40 vc_X1 xin1 tyX1_ok nmX1 fb_X1_3 fl_X6_159 ff_X1_3 xr_X1_3 (nf_X1_3 _) (ft_X1_3 _) k10 ?_
      obtain ⟨N11, eN11, h⟩ := x_lt h
      refine x_nmN eN11 ?_
      refine x_aload_n 1 dX6_answer_43 rfl rfl ?_
      refine x_iconst (v := (-1)) dX6_answer_44 rfl ?_
      refine x_puti dX6_answer_45 vc_X3 xin3 tyX3_ok nmX3 fb_X3_4 fl_X6_121 ff_X3_4 xr_X3_4 (nf_X3_4 _) (ft_X3_4 _) k101 ?_
      obtain ⟨N12, eN12, h⟩ := x_lt h
      refine x_nmN eN12 ?_
      refine x_aload_n 1 dX6_answer_48 rfl rfl ?_
      refine x_iconst (v := 2) dX6_answer_49 rfl ?_
      refine x_puti dX6_answer_50 vc_X3 xin3 tyX3_ok nmX3 fb_X3_3 fl_X6_100 ff_X3_3 xr_X3_3 (nf_X3_3 _) (ft_X3_3 _) k101 ?_
      obtain ⟨N13, eN13, h⟩ := x_lt h
      refine x_nmN eN13 ?_
      refine x_aload_n 1 dX6_answer_53 rfl rfl ?_
      refine x_aload_n 0 dX6_answer_54 rfl rfl ?_
      refine x_geti dX6_answer_55 vc_X6 xin6 fb_X6_6 fl_X6_56 xr_X6_6 k100 ?_
      refine x_puti dX6_answer_58 vc_X3 xin3 tyX3_ok nmX3 fb_X3_7 fl_X6_135 ff_X3_7 xr_X3_7 (nf_X3_7 _) (ft_X3_7 _) k101 ?_
      obtain ⟨N14, eN14, h⟩ := x_lt h
      refine x_nmN eN14 ?_
      refine x_aload_n 0 dX6_answer_61 rfl rfl ?_
      obtain ⟨g15, k16, n17⟩ := wt_X6_2 hw k100
      refine x_getr dX6_answer_62 vc_X6 xin6 fb_X6_2 fl_X6_19 xr_X6_2 k100 g15 ?_
      refine x_aload_n 1 dX6_answer_65 rfl rfl ?_
      refine x_geti dX6_answer_66 vc_X3 xin3 fb_X3_0 fl_X6_118 xr_X3_0 k101 ?_
      obtain ⟨c18, h⟩ := x_ck h
      obtain ⟨g19, k20⟩ := wt_5 hw k16 (xb_at n17 c18)
      refine x_aald (j := 1) dX6_answer_69 (by decide) k16 (xb_at n17 c18) g19 ?_
      refine x_aload_n 0 dX6_answer_70 rfl rfl ?_
      refine x_geti dX6_answer_71 vc_X6 xin6 fb_X6_12 fl_X6_74 xr_X6_12 k100 ?_
      refine x_aload_n 1 dX6_answer_74 rfl rfl ?_
      refine x_geti dX6_answer_75 vc_X3 xin3 fb_X3_2 fl_X6_141 xr_X3_2 k101 ?_
      refine x_imul dX6_answer_78 ?_
      obtain ⟨r22, N23, q21, h⟩ := x_bd2 h
      refine x_cv (b := (gp Y (gp Y a0 2) (gi N14 a1 0).toNatClampNeg)) (As := [.int ((gi N14 a0 12) * (gi N14 a1 2))]) (ci := 2) (d' := 1) (zz := yX2_payAtMost) dX6_answer_79 ml_X6_138 wi_X2_payAtMost wv_X2_payAtMost wn_X2 wc_X2_payAtMost hp_X2_payAtMost (by decide) (by decide) rfl (Nat.le_of_ble_eq_true rfl) ⟨Nat.zero_le _, Nat.zero_le _⟩ rfl k20 (T_X2_payAtMost (G := G) hw k20 q21) ?_
      refine x_istore_n (L' := [(2, .ref p9), (3, .int r22)]) [3, 0] dX6_answer_82 rfl (by decide) rfl ?_
      refine x_aload_n 0 dX6_answer_83 rfl rfl ?_
      refine x_dup dX6_answer_84 rfl ?_
      refine x_geti dX6_answer_85 vc_X1 xin1 fb_X1_0 fl_X6_107 xr_X1_0 k10 ?_
      refine x_iload_n 1 dX6_answer_88 rfl rfl ?_
      refine x_iadd dX6_answer_89 ?_
      refine x_puti dX6_answer_90 vc_X1 xin1 tyX1_ok nmX1 fb_X1_0 fl_X6_107 ff_X1_0 xr_X1_0 (nf_X1_0 _) (ft_X1_0 _) k10 ?_
      obtain ⟨N24, eN24, h⟩ := x_lt h
      refine x_nmN eN24 ?_
      refine x_aload_n 0 dX6_answer_93 rfl rfl ?_
      refine x_dup dX6_answer_94 rfl ?_
      refine x_geti dX6_answer_95 vc_X1 xin1 fb_X1_6 fl_X6_201 xr_X1_6 k10 ?_
      refine x_iload_n 1 dX6_answer_98 rfl rfl ?_
      refine x_iadd dX6_answer_99 ?_
      refine x_puti dX6_answer_100 vc_X1 xin1 tyX1_ok nmX1 fb_X1_6 fl_X6_201 ff_X1_6 xr_X1_6 (nf_X1_6 _) (ft_X1_6 _) k10 ?_
      obtain ⟨N25, eN25, h⟩ := x_lt h
      refine x_nmN eN25 ?_
      obtain rfl := x_so h
      exact x_vret dX6_answer_103 rfl rfl rfl
set_option maxHeartbeats 4000000 in
set_option maxRecDepth 100000 in
theorem T_X6_doWork_12 {G : XG} {Y : XY} (hw : WT Y) {N9 : XN}: ∀ (D9 : Nat) (p_0 : Nat) (v_1 : Int32) (v_2 : Int32) (v_3 : Int32) (N : XN), kc Y p_0 = 16 → f_X6_doWork_12 Y D9 p_0 v_1 v_2 v_3 N = some N9 → Ex G yX6_doWork cX6_doWork 6 none (xR 3 0 0) (.inl none) Y N9 0 0 12 [(0, .ref p_0), (1, .int v_1), (2, .int v_2), (3, .int v_3)] [] Y N := by
  intro D9
  induction D9 with
  | zero => intro p_0 v_1 v_2 v_3 N kk0 h; exact nomatch (show none = some _ from h)
  | succ D9 ih =>
    intro p_0 v_1 v_2 v_3 N kk0 h
    rw [f_X6_doWork_12] at h
    refine x_iload_n 3 dX6_doWork_12 rfl rfl ?_
    refine x_aload_n 0 dX6_doWork_13 rfl rfl ?_
    refine x_geti dX6_doWork_14 vc_X6 xin6 fb_X6_5 fl_X6_53 xr_X6_5 kk0 ?_
    rcases x_if h with ⟨c1, h⟩ | ⟨c1, h⟩
    · refine x_icmp_ge_t (tgt := 116) dX6_doWork_17 (by decide) c1 ?_
      obtain rfl := x_so h
      exact x_vret dX6_doWork_116 rfl rfl rfl
    · refine x_icmp_ge_f (tgt := 116) dX6_doWork_17 (by decide) c1 ?_
      refine x_iload_n 2 dX6_doWork_20 rfl rfl ?_
      rcases x_if h with ⟨c2, h⟩ | ⟨c2, h⟩
      · refine x_if_le_t (tgt := 116) dX6_doWork_21 (by decide) c2 ?_
        obtain rfl := x_so h
        exact x_vret dX6_doWork_116 rfl rfl rfl
      · refine x_if_le_f (tgt := 116) dX6_doWork_21 (by decide) c2 ?_
        refine x_aload_n 0 dX6_doWork_24 rfl rfl ?_
        obtain ⟨g3, k4, n5⟩ := wt_X6_4 hw kk0
        refine x_getr dX6_doWork_25 vc_X6 xin6 fb_X6_4 fl_X6_25 xr_X6_4 kk0 g3 ?_
        refine x_iload_n 3 dX6_doWork_28 rfl rfl ?_
        obtain ⟨c6, h⟩ := x_ck h
        obtain ⟨g7, k8⟩ := wt_6 hw k4 (xb_at n5 c6)
        refine x_aald (j := 2) dX6_doWork_29 (by decide) k4 (xb_at n5 c6) g7 ?_
        obtain ⟨p9, ep9, h⟩ := x_lt h
        refine x_nmr ep9 ?_
        have k10 := k8; rw [← ep9] at k10
        refine x_astore (L' := [(0, .ref p_0), (1, .int v_1), (2, .int v_2), (3, .int v_3), (4, .ref p9)]) [1, 2, 3, 4, 0] dX6_doWork_30 (by decide) rfl ?_
        refine x_aload 4 dX6_doWork_32 rfl ?_
        refine x_geti dX6_doWork_34 vc_X3 xin3 fb_X3_3 fl_X6_100 xr_X3_3 k10 ?_
        refine x_iconst (v := 1) dX6_doWork_37 rfl ?_
        rcases x_if h with ⟨c11, h⟩ | ⟨c11, h⟩
        · refine x_icmp_ne_f (tgt := 110) dX6_doWork_38 (by decide) c11 ?_
          refine x_aload 4 dX6_doWork_41 rfl ?_
          refine x_geti dX6_doWork_43 vc_X3 xin3 fb_X3_4 fl_X6_121 xr_X3_4 k10 ?_
          refine x_iload_n 1 dX6_doWork_46 rfl rfl ?_
          rcases x_if h with ⟨c12, h⟩ | ⟨c12, h⟩
          · refine x_icmp_ne_f (tgt := 110) dX6_doWork_47 (by decide) c12 ?_
            refine x_aload 4 dX6_doWork_50 rfl ?_
            refine x_geti dX6_doWork_52 vc_X3 xin3 fb_X3_5 fl_X6_144 xr_X3_5 k10 ?_
            refine x_iload_n 2 dX6_doWork_55 rfl rfl ?_
            rcases x_if h with ⟨c13, h⟩ | ⟨c13, h⟩
            · refine x_icmp_ge_t (tgt := 67) dX6_doWork_56 (by decide) c13 ?_
              refine x_iload_n 2 dX6_doWork_67 rfl rfl ?_
              refine x_istore (L' := [(0, .ref p_0), (1, .int v_1), (2, .int v_2), (3, .int v_3), (4, .ref p9), (5, .int v_2)]) [1, 2, 3, 4, 5, 0] dX6_doWork_68 (by decide) rfl ?_
              refine x_iload_n 2 dX6_doWork_70 rfl rfl ?_
              refine x_iload 5 dX6_doWork_71 rfl ?_
              refine x_isub dX6_doWork_73 ?_
              refine x_istore_n (L' := [(0, .ref p_0), (1, .int v_1), (2, .int (v_2 - v_2)), (3, .int v_3), (4, .ref p9), (5, .int v_2)]) [1, 2, 0, 3, 4, 5] dX6_doWork_74 rfl (by decide) rfl ?_
              refine x_aload 4 dX6_doWork_75 rfl ?_
              refine x_dup dX6_doWork_77 rfl ?_
              refine x_geti dX6_doWork_78 vc_X3 xin3 fb_X3_5 fl_X6_144 xr_X3_5 k10 ?_
              refine x_iload 5 dX6_doWork_81 rfl ?_
              refine x_isub dX6_doWork_83 ?_
              refine x_puti dX6_doWork_84 vc_X3 xin3 tyX3_ok nmX3 fb_X3_5 fl_X6_144 ff_X3_5 xr_X3_5 (nf_X3_5 _) (ft_X3_5 _) k10 ?_
              obtain ⟨N14, eN14, h⟩ := x_lt h
              refine x_nmN eN14 ?_
              refine x_aload 4 dX6_doWork_87 rfl ?_
              refine x_aload_n 0 dX6_doWork_89 rfl rfl ?_
              refine x_geti dX6_doWork_90 vc_X6 xin6 fb_X6_6 fl_X6_56 xr_X6_6 kk0 ?_
              refine x_puti dX6_doWork_93 vc_X3 xin3 tyX3_ok nmX3 fb_X3_6 fl_X6_162 ff_X3_6 xr_X3_6 (nf_X3_6 _) (ft_X3_6 _) k10 ?_
              obtain ⟨N15, eN15, h⟩ := x_lt h
              refine x_nmN eN15 ?_
              refine x_aload 4 dX6_doWork_96 rfl ?_
              refine x_geti dX6_doWork_98 vc_X3 xin3 fb_X3_5 fl_X6_144 xr_X3_5 k10 ?_
              rcases x_if h with ⟨c16, h⟩ | ⟨c16, h⟩
              · refine x_if_ne_f (tgt := 110) dX6_doWork_101 (by decide) c16 ?_
                refine x_aload_n 0 dX6_doWork_104 rfl rfl ?_
                refine x_aload 4 dX6_doWork_105 rfl ?_
                obtain ⟨N18, q17, h⟩ := x_bd1 h
                refine x_cv (b := p_0) (As := [.ref p9]) (ci := 6) (d' := 2) (zz := yX6_answer) dX6_doWork_107 ml_X6_198 wi_X6_answer wv_X6_answer wn_X6 wc_X6_answer hp_X6_answer (by decide) (by decide) rfl (Nat.le_of_ble_eq_true rfl) ⟨Nat.zero_le _, Nat.zero_le _⟩ rfl kk0 (T_X6_answer (G := G) hw kk0 k10 q17) ?_
                refine x_iinc (L' := [(0, .ref p_0), (1, .int v_1), (2, .int (v_2 - v_2)), (3, .int (v_3 + 1))]) 3 [1, 2, 3, 0] dX6_doWork_110 rfl rfl (by decide) rfl ?_
                refine x_goto (tgt := 12) dX6_doWork_113 (by decide) ?_
                exact ih p_0 v_1 (v_2 - v_2) (v_3 + 1) N18 kk0 h
              · refine x_if_ne_t (tgt := 110) dX6_doWork_101 (by decide) c16 ?_
                refine x_iinc (L' := [(0, .ref p_0), (1, .int v_1), (2, .int (v_2 - v_2)), (3, .int (v_3 + 1))]) 3 [1, 2, 3, 0] dX6_doWork_110 rfl rfl (by decide) rfl ?_
                refine x_goto (tgt := 12) dX6_doWork_113 (by decide) ?_
                exact ih p_0 v_1 (v_2 - v_2) (v_3 + 1) N15 kk0 h
            · refine x_icmp_ge_f (tgt := 67) dX6_doWork_56 (by decide) c13 ?_
              refine x_aload 4 dX6_doWork_59 rfl ?_
              refine x_geti dX6_doWork_61 vc_X3 xin3 fb_X3_5 fl_X6_144 xr_X3_5 k10 ?_
              refine x_goto (tgt := 68) dX6_doWork_64 (by decide) ?_
              refine x_istore (L' := [(0, .ref p_0), (1, .int v_1), (2, .int v_2), (3, .int v_3), (4, .ref p9), (5, .int (gi N p9 5))]) [1, 2, 3, 4, 5, 0] dX6_doWork_68 (by decide) rfl ?_
              refine x_iload_n 2 dX6_doWork_70 rfl rfl ?_
              refine x_iload 5 dX6_doWork_71 rfl ?_
              refine x_isub dX6_doWork_73 ?_
              refine x_istore_n (L' := [(0, .ref p_0), (1, .int v_1), (2, .int (v_2 - (gi N p9 5))), (3, .int v_3), (4, .ref p9), (5, .int (gi N p9 5))]) [1, 2, 0, 3, 4, 5] dX6_doWork_74 rfl (by decide) rfl ?_
              refine x_aload 4 dX6_doWork_75 rfl ?_
              refine x_dup dX6_doWork_77 rfl ?_
              refine x_geti dX6_doWork_78 vc_X3 xin3 fb_X3_5 fl_X6_144 xr_X3_5 k10 ?_
              refine x_iload 5 dX6_doWork_81 rfl ?_
              refine x_isub dX6_doWork_83 ?_
              refine x_puti dX6_doWork_84 vc_X3 xin3 tyX3_ok nmX3 fb_X3_5 fl_X6_144 ff_X3_5 xr_X3_5 (nf_X3_5 _) (ft_X3_5 _) k10 ?_
              obtain ⟨N19, eN19, h⟩ := x_lt h
              refine x_nmN eN19 ?_
              refine x_aload 4 dX6_doWork_87 rfl ?_
              refine x_aload_n 0 dX6_doWork_89 rfl rfl ?_
              refine x_geti dX6_doWork_90 vc_X6 xin6 fb_X6_6 fl_X6_56 xr_X6_6 kk0 ?_
              refine x_puti dX6_doWork_93 vc_X3 xin3 tyX3_ok nmX3 fb_X3_6 fl_X6_162 ff_X3_6 xr_X3_6 (nf_X3_6 _) (ft_X3_6 _) k10 ?_
              obtain ⟨N20, eN20, h⟩ := x_lt h
              refine x_nmN eN20 ?_
              refine x_aload 4 dX6_doWork_96 rfl ?_
              refine x_geti dX6_doWork_98 vc_X3 xin3 fb_X3_5 fl_X6_144 xr_X3_5 k10 ?_
              rcases x_if h with ⟨c21, h⟩ | ⟨c21, h⟩
              · refine x_if_ne_f (tgt := 110) dX6_doWork_101 (by decide) c21 ?_
                refine x_aload_n 0 dX6_doWork_104 rfl rfl ?_
                refine x_aload 4 dX6_doWork_105 rfl ?_
                obtain ⟨N23, q22, h⟩ := x_bd1 h
                refine x_cv (b := p_0) (As := [.ref p9]) (ci := 6) (d' := 2) (zz := yX6_answer) dX6_doWork_107 ml_X6_198 wi_X6_answer wv_X6_answer wn_X6 wc_X6_answer hp_X6_answer (by decide) (by decide) rfl (Nat.le_of_ble_eq_true rfl) ⟨Nat.zero_le _, Nat.zero_le _⟩ rfl kk0 (T_X6_answer (G := G) hw kk0 k10 q22) ?_
                refine x_iinc (L' := [(0, .ref p_0), (1, .int v_1), (2, .int (v_2 - (gi N p9 5))), (3, .int (v_3 + 1))]) 3 [1, 2, 3, 0] dX6_doWork_110 rfl rfl (by decide) rfl ?_
                refine x_goto (tgt := 12) dX6_doWork_113 (by decide) ?_
                exact ih p_0 v_1 (v_2 - (gi N p9 5)) (v_3 + 1) N23 kk0 h
              · refine x_if_ne_t (tgt := 110) dX6_doWork_101 (by decide) c21 ?_
                refine x_iinc (L' := [(0, .ref p_0), (1, .int v_1), (2, .int (v_2 - (gi N p9 5))), (3, .int (v_3 + 1))]) 3 [1, 2, 3, 0] dX6_doWork_110 rfl rfl (by decide) rfl ?_
                refine x_goto (tgt := 12) dX6_doWork_113 (by decide) ?_
                exact ih p_0 v_1 (v_2 - (gi N p9 5)) (v_3 + 1) N20 kk0 h
          · refine x_icmp_ne_t (tgt := 110) dX6_doWork_47 (by decide) c12 ?_
            refine x_iinc (L' := [(0, .ref p_0), (1, .int v_1), (2, .int v_2), (3, .int (v_3 + 1))]) 3 [1, 2, 3, 0] dX6_doWork_110 rfl rfl (by decide) rfl ?_
            refine x_goto (tgt := 12) dX6_doWork_113 (by decide) ?_
            exact ih p_0 v_1 v_2 (v_3 + 1) N kk0 h
        · refine x_icmp_ne_t (tgt := 110) dX6_doWork_38 (by decide) c11 ?_
          refine x_iinc (L' := [(0, .ref p_0), (1, .int v_1), (2, .int v_2), (3, .int (v_3 + 1))]) 3 [1, 2, 3, 0] dX6_doWork_110 rfl rfl (by decide) rfl ?_
          refine x_goto (tgt := 12) dX6_doWork_113 (by decide) ?_
          exact ih p_0 v_1 v_2 (v_3 + 1) N kk0 h
set_option maxHeartbeats 4000000 in
set_option maxRecDepth 100000 in
theorem T_X6_doWork {G : XG} {Y : XY} (hw : WT Y) {a0 : Nat} {a1 : Int32} {N : XN} (k100 : kc Y a0 = 16) {N9 : XN} (h : f_X6_doWork Y a0 a1 N = some N9) : Cl G yX6_doWork cX6_doWork 6 none (xR 3 0 0) [.ref a0, .int a1] (.inl none) Y N Y N9 := by
  refine x_entry (by decide) (Nat.le_of_ble_eq_true rfl) rfl ?_
  rw [f_X6_doWork] at h
  refine x_aload_n 0 dX6_doWork_0 rfl rfl ?_
  obtain ⟨g1, k2, n3⟩ := wt_X6_0 hw k100
  refine x_getr dX6_doWork_1 vc_X6 xin6 fb_X6_0 fl_X6_11 xr_X6_0 k100 g1 ?_
  refine x_iload_n 1 dX6_doWork_4 rfl rfl ?_
  obtain ⟨c4, h⟩ := x_ck h
  obtain ⟨g5, k6⟩ := wt_4 hw k2 (xb_at n3 c4)
  refine x_aald (j := 0) dX6_doWork_5 (by decide) k2 (xb_at n3 c4) g5 ?_
  refine x_geti dX6_doWork_6 vc_X1 xin1 fb_X1_1 fl_X6_195 xr_X1_1 k6 ?_
  obtain ⟨v7, ev7, h⟩ := x_lt h
  refine x_nmi ev7 ?_
  refine x_istore_n (L' := [(0, .ref a0), (1, .int a1), (2, .int v7)]) [1, 2, 0] dX6_doWork_9 rfl (by decide) rfl ?_
  refine x_iconst (v := 0) dX6_doWork_10 rfl ?_
  refine x_istore_n (L' := [(0, .ref a0), (1, .int a1), (2, .int v7), (3, .int 0)]) [1, 2, 3, 0] dX6_doWork_11 rfl (by decide) rfl ?_
  exact T_X6_doWork_12 (G := G) hw FU a0 a1 v7 0 N k100 h
set_option maxHeartbeats 4000000 in
set_option maxRecDepth 100000 in
theorem T_X6_goBankrupt_38 {G : XG} {Y : XY} (hw : WT Y) {N9 : XN}: ∀ (D9 : Nat) (p_0 : Nat) (v_1 : Int32) (v_2 : Int32) (N : XN), kc Y p_0 = 16 → f_X6_goBankrupt_38 Y D9 p_0 v_1 v_2 N = some N9 → Ex G yX6_goBankrupt cX6_goBankrupt 3 none (xR 3 0 0) (.inl none) Y N9 0 0 38 [(0, .ref p_0), (1, .int v_1), (2, .int v_2)] [] Y N := by
  intro D9
  induction D9 with
  | zero => intro p_0 v_1 v_2 N kk0 h; exact nomatch (show none = some _ from h)
  | succ D9 ih =>
    intro p_0 v_1 v_2 N kk0 h
    rw [f_X6_goBankrupt_38] at h
    refine x_iload_n 2 dX6_goBankrupt_38 rfl rfl ?_
    refine x_aload_n 0 dX6_goBankrupt_39 rfl rfl ?_
    refine x_geti dX6_goBankrupt_40 vc_X6 xin6 fb_X6_5 fl_X6_53 xr_X6_5 kk0 ?_
    rcases x_if h with ⟨c1, h⟩ | ⟨c1, h⟩
    · refine x_icmp_ge_t (tgt := 88) dX6_goBankrupt_43 (by decide) c1 ?_
      obtain rfl := x_so h
      exact x_vret dX6_goBankrupt_88 rfl rfl rfl
    · refine x_icmp_ge_f (tgt := 88) dX6_goBankrupt_43 (by decide) c1 ?_
      refine x_aload_n 0 dX6_goBankrupt_46 rfl rfl ?_
      obtain ⟨g2, k3, n4⟩ := wt_X6_4 hw kk0
      refine x_getr dX6_goBankrupt_47 vc_X6 xin6 fb_X6_4 fl_X6_25 xr_X6_4 kk0 g2 ?_
      refine x_iload_n 2 dX6_goBankrupt_50 rfl rfl ?_
      obtain ⟨c5, h⟩ := x_ck h
      obtain ⟨g6, k7⟩ := wt_6 hw k3 (xb_at n4 c5)
      refine x_aald (j := 2) dX6_goBankrupt_51 (by decide) k3 (xb_at n4 c5) g6 ?_
      refine x_geti dX6_goBankrupt_52 vc_X3 xin3 fb_X3_3 fl_X6_100 xr_X3_3 k7 ?_
      refine x_iconst (v := 1) dX6_goBankrupt_55 rfl ?_
      rcases x_if h with ⟨c8, h⟩ | ⟨c8, h⟩
      · refine x_icmp_ne_f (tgt := 82) dX6_goBankrupt_56 (by decide) c8 ?_
        refine x_aload_n 0 dX6_goBankrupt_59 rfl rfl ?_
        refine x_getr dX6_goBankrupt_60 vc_X6 xin6 fb_X6_4 fl_X6_25 xr_X6_4 kk0 g2 ?_
        refine x_iload_n 2 dX6_goBankrupt_63 rfl rfl ?_
        obtain ⟨c9, h⟩ := x_ck h
        refine x_aald (j := 2) dX6_goBankrupt_64 (by decide) k3 (xb_at n4 c9) g6 ?_
        refine x_geti dX6_goBankrupt_65 vc_X3 xin3 fb_X3_4 fl_X6_121 xr_X3_4 k7 ?_
        refine x_iload_n 1 dX6_goBankrupt_68 rfl rfl ?_
        rcases x_if h with ⟨c10, h⟩ | ⟨c10, h⟩
        · refine x_icmp_ne_f (tgt := 82) dX6_goBankrupt_69 (by decide) c10 ?_
          refine x_aload_n 0 dX6_goBankrupt_72 rfl rfl ?_
          refine x_aload_n 0 dX6_goBankrupt_73 rfl rfl ?_
          refine x_getr dX6_goBankrupt_74 vc_X6 xin6 fb_X6_4 fl_X6_25 xr_X6_4 kk0 g2 ?_
          refine x_iload_n 2 dX6_goBankrupt_77 rfl rfl ?_
          obtain ⟨c11, h⟩ := x_ck h
          refine x_aald (j := 2) dX6_goBankrupt_78 (by decide) k3 (xb_at n4 c11) g6 ?_
          obtain ⟨N13, q12, h⟩ := x_bd1 h
          refine x_cv (b := p_0) (As := [.ref (gp Y (gp Y p_0 4) v_2.toNatClampNeg)]) (ci := 6) (d' := 2) (zz := yX6_assign) dX6_goBankrupt_79 ml_X6_147 wi_X6_assign wv_X6_assign wn_X6 wc_X6_assign hp_X6_assign (by decide) (by decide) rfl (Nat.le_of_ble_eq_true rfl) ⟨Nat.zero_le _, Nat.zero_le _⟩ rfl kk0 (T_X6_assign (G := G) hw kk0 k7 q12) ?_
          refine x_iinc (L' := [(0, .ref p_0), (1, .int v_1), (2, .int (v_2 + 1))]) 2 [1, 2, 0] dX6_goBankrupt_82 rfl rfl (by decide) rfl ?_
          refine x_goto (tgt := 38) dX6_goBankrupt_85 (by decide) ?_
          exact ih p_0 v_1 (v_2 + 1) N13 kk0 h
        · refine x_icmp_ne_t (tgt := 82) dX6_goBankrupt_69 (by decide) c10 ?_
          refine x_iinc (L' := [(0, .ref p_0), (1, .int v_1), (2, .int (v_2 + 1))]) 2 [1, 2, 0] dX6_goBankrupt_82 rfl rfl (by decide) rfl ?_
          refine x_goto (tgt := 38) dX6_goBankrupt_85 (by decide) ?_
          exact ih p_0 v_1 (v_2 + 1) N kk0 h
      · refine x_icmp_ne_t (tgt := 82) dX6_goBankrupt_56 (by decide) c8 ?_
        refine x_iinc (L' := [(0, .ref p_0), (1, .int v_1), (2, .int (v_2 + 1))]) 2 [1, 2, 0] dX6_goBankrupt_82 rfl rfl (by decide) rfl ?_
        refine x_goto (tgt := 38) dX6_goBankrupt_85 (by decide) ?_
        exact ih p_0 v_1 (v_2 + 1) N kk0 h
set_option maxHeartbeats 4000000 in
set_option maxRecDepth 100000 in
theorem T_X6_goBankrupt_12 {G : XG} {Y : XY} (hw : WT Y) {N9 : XN}: ∀ (D9 : Nat) (p_0 : Nat) (v_1 : Int32) (v_2 : Int32) (N : XN), kc Y p_0 = 16 → f_X6_goBankrupt_12 Y D9 p_0 v_1 v_2 N = some N9 → Ex G yX6_goBankrupt cX6_goBankrupt 3 none (xR 3 0 0) (.inl none) Y N9 0 0 12 [(0, .ref p_0), (1, .int v_1), (2, .int v_2)] [] Y N := by
  intro D9
  induction D9 with
  | zero => intro p_0 v_1 v_2 N kk0 h; exact nomatch (show none = some _ from h)
  | succ D9 ih =>
    intro p_0 v_1 v_2 N kk0 h
    rw [f_X6_goBankrupt_12] at h
    refine x_iload_n 2 dX6_goBankrupt_12 rfl rfl ?_
    refine x_aload_n 0 dX6_goBankrupt_13 rfl rfl ?_
    refine x_geti dX6_goBankrupt_14 vc_X6 xin6 fb_X6_3 fl_X6_50 xr_X6_3 kk0 ?_
    rcases x_if h with ⟨c1, h⟩ | ⟨c1, h⟩
    · refine x_icmp_ge_t (tgt := 36) dX6_goBankrupt_17 (by decide) c1 ?_
      refine x_iconst (v := 0) dX6_goBankrupt_36 rfl ?_
      refine x_istore_n (L' := [(0, .ref p_0), (1, .int v_1), (2, .int 0)]) [1, 2, 0] dX6_goBankrupt_37 rfl (by decide) rfl ?_
      exact T_X6_goBankrupt_38 (G := G) hw FU p_0 v_1 0 N kk0 h
    · refine x_icmp_ge_f (tgt := 36) dX6_goBankrupt_17 (by decide) c1 ?_
      refine x_aload_n 0 dX6_goBankrupt_20 rfl rfl ?_
      obtain ⟨g2, k3, n4⟩ := wt_X6_2 hw kk0
      refine x_getr dX6_goBankrupt_21 vc_X6 xin6 fb_X6_2 fl_X6_19 xr_X6_2 kk0 g2 ?_
      refine x_iload_n 2 dX6_goBankrupt_24 rfl rfl ?_
      obtain ⟨c5, h⟩ := x_ck h
      obtain ⟨g6, k7⟩ := wt_5 hw k3 (xb_at n4 c5)
      refine x_aald (j := 1) dX6_goBankrupt_25 (by decide) k3 (xb_at n4 c5) g6 ?_
      refine x_iload_n 1 dX6_goBankrupt_26 rfl rfl ?_
      obtain ⟨N9, q8, h⟩ := x_bd1 h
      refine x_cv (b := (gp Y (gp Y p_0 2) v_2.toNatClampNeg)) (As := [.int v_1]) (ci := 2) (d' := 1) (zz := yX2_removeTenant) dX6_goBankrupt_27 ml_X6_173 wi_X2_removeTenant wv_X2_removeTenant wn_X2 wc_X2_removeTenant hp_X2_removeTenant (by decide) (by decide) rfl (Nat.le_of_ble_eq_true rfl) ⟨Nat.zero_le _, Nat.zero_le _⟩ rfl k7 (T_X2_removeTenant (G := G) hw k7 q8) ?_
      refine x_iinc (L' := [(0, .ref p_0), (1, .int v_1), (2, .int (v_2 + 1))]) 2 [1, 2, 0] dX6_goBankrupt_30 rfl rfl (by decide) rfl ?_
      refine x_goto (tgt := 12) dX6_goBankrupt_33 (by decide) ?_
      exact ih p_0 v_1 (v_2 + 1) N9 kk0 h
set_option maxHeartbeats 4000000 in
set_option maxRecDepth 100000 in
theorem T_X6_goBankrupt {G : XG} {Y : XY} (hw : WT Y) {a0 : Nat} {a1 : Int32} {N : XN} (k100 : kc Y a0 = 16) {N9 : XN} (h : f_X6_goBankrupt Y a0 a1 N = some N9) : Cl G yX6_goBankrupt cX6_goBankrupt 3 none (xR 3 0 0) [.ref a0, .int a1] (.inl none) Y N Y N9 := by
  refine x_entry (by decide) (Nat.le_of_ble_eq_true rfl) rfl ?_
  rw [f_X6_goBankrupt] at h
  refine x_aload_n 0 dX6_goBankrupt_0 rfl rfl ?_
  obtain ⟨g1, k2, n3⟩ := wt_X6_0 hw k100
  refine x_getr dX6_goBankrupt_1 vc_X6 xin6 fb_X6_0 fl_X6_11 xr_X6_0 k100 g1 ?_
  refine x_iload_n 1 dX6_goBankrupt_4 rfl rfl ?_
  obtain ⟨c4, h⟩ := x_ck h
  obtain ⟨g5, k6⟩ := wt_4 hw k2 (xb_at n3 c4)
  refine x_aald (j := 0) dX6_goBankrupt_5 (by decide) k2 (xb_at n3 c4) g5 ?_
  refine x_iconst (v := 1) dX6_goBankrupt_6 rfl ?_
  refine x_puti dX6_goBankrupt_7 vc_X1 xin1 tyX1_ok nmX1 fb_X1_2 fl_X6_103 ff_X1_2 xr_X1_2 rfl rfl k6 ?_
  obtain ⟨N7, eN7, h⟩ := x_lt h
  refine x_nmN eN7 ?_
  refine x_iconst (v := 0) dX6_goBankrupt_10 rfl ?_
  refine x_istore_n (L' := [(0, .ref a0), (1, .int a1), (2, .int 0)]) [1, 2, 0] dX6_goBankrupt_11 rfl (by decide) rfl ?_
  exact T_X6_goBankrupt_12 (G := G) hw FU a0 a1 0 N7 k100 h
set_option maxHeartbeats 4000000 in
set_option maxRecDepth 100000 in
theorem T_X6_takeFrom {G : XG} {Y : XY} (hw : WT Y) {a0 : Nat} {a1 : Int32} {a2 : Int32} {N : XN} (k100 : kc Y a0 = 16) {r9 : Int32} {N9 : XN} (h : f_X6_takeFrom Y a0 a1 a2 N = some (r9, N9)) : Cl G yX6_takeFrom cX6_takeFrom 5 (some .int) (xR 4 0 0) [.ref a0, .int a1, .int a2] (.inl (some (.int r9))) Y N Y N9 := by
  refine x_entry (by decide) (Nat.le_of_ble_eq_true rfl) rfl ?_
  rw [f_X6_takeFrom] at h
  refine x_aload_n 0 dX6_takeFrom_0 rfl rfl ?_
  obtain ⟨g1, k2, n3⟩ := wt_X6_0 hw k100
  refine x_getr dX6_takeFrom_1 vc_X6 xin6 fb_X6_0 fl_X6_11 xr_X6_0 k100 g1 ?_
  refine x_iload_n 1 dX6_takeFrom_4 rfl rfl ?_
  obtain ⟨c4, h⟩ := x_ck h
  obtain ⟨g5, k6⟩ := wt_4 hw k2 (xb_at n3 c4)
  refine x_aald (j := 0) dX6_takeFrom_5 (by decide) k2 (xb_at n3 c4) g5 ?_
  obtain ⟨p7, ep7, h⟩ := x_lt h
  refine x_nmr ep7 ?_
  have k8 := k6; rw [← ep7] at k8
  refine x_astore_n (L' := [(0, .ref a0), (1, .int a1), (2, .int a2), (3, .ref p7)]) [1, 2, 3, 0] dX6_takeFrom_6 rfl (by decide) rfl ?_
  refine x_iload_n 2 dX6_takeFrom_7 rfl rfl ?_
  refine x_aload_n 3 dX6_takeFrom_8 rfl rfl ?_
  refine x_geti dX6_takeFrom_9 vc_X1 xin1 fb_X1_0 fl_X6_107 xr_X1_0 k8 ?_
  rcases x_if h with ⟨c9, h⟩ | ⟨c9, h⟩
  · refine x_icmp_gt_t (tgt := 27) dX6_takeFrom_12 (by decide) c9 ?_
    refine x_aload_n 3 dX6_takeFrom_27 rfl rfl ?_
    refine x_geti dX6_takeFrom_28 vc_X1 xin1 fb_X1_0 fl_X6_107 xr_X1_0 k8 ?_
    refine x_istore (L' := [(0, .ref a0), (1, .int a1), (3, .ref p7), (4, .int (gi N p7 0))]) [1, 2, 4, 0] dX6_takeFrom_31 (by decide) rfl ?_
    refine x_aload_n 2 dX6_takeFrom_33 rfl rfl ?_
    refine x_iconst (v := 0) dX6_takeFrom_34 rfl ?_
    refine x_puti dX6_takeFrom_35 vc_X1 xin1 tyX1_ok nmX1 fb_X1_0 fl_X6_107 ff_X1_0 xr_X1_0 (nf_X1_0 _) (ft_X1_0 _) k8 ?_
    obtain ⟨N10, eN10, h⟩ := x_lt h
    refine x_nmN eN10 ?_
    refine x_aload_n 0 dX6_takeFrom_38 rfl rfl ?_
    refine x_iload_n 1 dX6_takeFrom_39 rfl rfl ?_
    obtain ⟨N12, q11, h⟩ := x_bd1 h
    refine x_cv (b := a0) (As := [.int a1]) (ci := 6) (d' := 3) (zz := yX6_goBankrupt) dX6_takeFrom_40 ml_X6_217 wi_X6_goBankrupt wv_X6_goBankrupt wn_X6 wc_X6_goBankrupt hp_X6_goBankrupt (by decide) (by decide) rfl (Nat.le_of_ble_eq_true rfl) ⟨Nat.zero_le _, Nat.zero_le _⟩ rfl k100 (T_X6_goBankrupt (G := G) hw k100 q11) ?_
    refine x_iload 3 dX6_takeFrom_43 rfl ?_
    obtain ⟨rfl, rfl⟩ := Prod.mk.inj (x_so h)
    exact x_iret dX6_takeFrom_45 rfl rfl rfl
  · refine x_icmp_gt_f (tgt := 27) dX6_takeFrom_12 (by decide) c9 ?_
    refine x_aload_n 3 dX6_takeFrom_15 rfl rfl ?_
    refine x_dup dX6_takeFrom_16 rfl ?_
    refine x_geti dX6_takeFrom_17 vc_X1 xin1 fb_X1_0 fl_X6_107 xr_X1_0 k8 ?_
    refine x_iload_n 2 dX6_takeFrom_20 rfl rfl ?_
    refine x_isub dX6_takeFrom_21 ?_
    refine x_puti dX6_takeFrom_22 vc_X1 xin1 tyX1_ok nmX1 fb_X1_0 fl_X6_107 ff_X1_0 xr_X1_0 (nf_X1_0 _) (ft_X1_0 _) k8 ?_
    obtain ⟨N13, eN13, h⟩ := x_lt h
    refine x_nmN eN13 ?_
    refine x_iload_n 2 dX6_takeFrom_25 rfl rfl ?_
    obtain ⟨rfl, rfl⟩ := Prod.mk.inj (x_so h)
    exact x_iret dX6_takeFrom_26 rfl rfl rfl
set_option maxHeartbeats 4000000 in
set_option maxRecDepth 100000 in
theorem T_X6_chargeFine {G : XG} {Y : XY} (hw : WT Y) {a0 : Nat} {a1 : Nat} {N : XN} (k100 : kc Y a0 = 16) (k101 : kc Y a1 = 13) {N9 : XN} (h : f_X6_chargeFine Y a0 a1 N = some N9) : Cl G yX6_chargeFine cX6_chargeFine 5 none (xR 5 0 0) [.ref a0, .ref a1] (.inl none) Y N Y N9 := by
  refine x_entry (by decide) (Nat.le_of_ble_eq_true rfl) rfl ?_
  rw [f_X6_chargeFine] at h
  refine x_aload_n 0 dX6_chargeFine_0 rfl rfl ?_
  refine x_aload_n 1 dX6_chargeFine_1 rfl rfl ?_
  refine x_geti dX6_chargeFine_2 vc_X3 xin3 fb_X3_4 fl_X6_121 xr_X3_4 k101 ?_
  refine x_cv (b := a0) (As := [.int (gi N a1 4)]) (ci := 6) (d' := 1) (zz := yX6_hasHandler) dX6_chargeFine_5 ml_X6_156 wi_X6_hasHandler wv_X6_hasHandler wn_X6 wc_X6_hasHandler hp_X6_hasHandler (by decide) (by decide) rfl (Nat.le_of_ble_eq_true rfl) ⟨Nat.zero_le _, Nat.zero_le _⟩ rfl k100 (T_X6_hasHandler (G := G) hw k100 rfl) ?_
  rcases x_if h with ⟨c1, h⟩ | ⟨c1, h⟩
  · refine x_if_eq_t (tgt := 22) dX6_chargeFine_8 (by decide) c1 ?_
    obtain rfl := x_so h
    exact x_vret dX6_chargeFine_22 rfl rfl rfl
  · refine x_if_eq_f (tgt := 22) dX6_chargeFine_8 (by decide) c1 ?_
    refine x_aload_n 0 dX6_chargeFine_11 rfl rfl ?_
    refine x_aload_n 1 dX6_chargeFine_12 rfl rfl ?_
    refine x_geti dX6_chargeFine_13 vc_X3 xin3 fb_X3_0 fl_X6_118 xr_X3_0 k101 ?_
    refine x_cv (b := a0) (As := [.int (gi N a1 0)]) (ci := 6) (d' := 1) (zz := yX6_hasLine) dX6_chargeFine_16 ml_X6_125 wi_X6_hasLine wv_X6_hasLine wn_X6 wc_X6_hasLine hp_X6_hasLine (by decide) (by decide) rfl (Nat.le_of_ble_eq_true rfl) ⟨Nat.zero_le _, Nat.zero_le _⟩ rfl k100 (T_X6_hasLine (G := G) hw k100 rfl) ?_
    rcases x_if h with ⟨c2, h⟩ | ⟨c2, h⟩
    · refine x_if_ne_f (tgt := 23) dX6_chargeFine_19 (by decide) c2 ?_
      obtain rfl := x_so h
      exact x_vret dX6_chargeFine_22 rfl rfl rfl
    · refine x_if_ne_t (tgt := 23) dX6_chargeFine_19 (by decide) c2 ?_
      refine x_aload_n 0 dX6_chargeFine_23 rfl rfl ?_
      obtain ⟨g3, k4, n5⟩ := wt_X6_0 hw k100
      refine x_getr dX6_chargeFine_24 vc_X6 xin6 fb_X6_0 fl_X6_11 xr_X6_0 k100 g3 ?_
      refine x_aload_n 1 dX6_chargeFine_27 rfl rfl ?_
      refine x_geti dX6_chargeFine_28 vc_X3 xin3 fb_X3_4 fl_X6_121 xr_X3_4 k101 ?_
      obtain ⟨c6, h⟩ := x_ck h
      obtain ⟨g7, k8⟩ := wt_4 hw k4 (xb_at n5 c6)
      refine x_aald (j := 0) dX6_chargeFine_31 (by decide) k4 (xb_at n5 c6) g7 ?_
      obtain ⟨p9, ep9, h⟩ := x_lt h
      refine x_nmr ep9 ?_
      have k10 := k8; rw [← ep9] at k10
      refine x_astore_n (L' := [(0, .ref a0), (1, .ref a1), (2, .ref p9)]) [1, 2, 0] dX6_chargeFine_32 rfl (by decide) rfl ?_
      refine x_aload_n 0 dX6_chargeFine_33 rfl rfl ?_
      obtain ⟨g11, k12⟩ := wt_X6_13 hw k100
      refine x_getr dX6_chargeFine_34 vc_X6 xin6 fb_X6_13 fl_X6_32 xr_X6_13 k100 g11 ?_
      refine x_aload_n 1 dX6_chargeFine_37 rfl rfl ?_
      refine x_geti dX6_chargeFine_38 vc_X3 xin3 fb_X3_0 fl_X6_118 xr_X3_0 k101 ?_
      refine x_aload_n 1 dX6_chargeFine_41 rfl rfl ?_
      refine x_geti dX6_chargeFine_42 vc_X3 xin3 fb_X3_5 fl_X6_144 xr_X3_5 k101 ?_
      refine x_aload_n 2 dX6_chargeFine_45 rfl rfl ?_
      refine x_geti dX6_chargeFine_46 vc_X1 xin1 fb_X1_3 fl_X6_159 xr_X1_3 k10 ?_
      refine x_aload_n 0 dX6_chargeFine_49 rfl rfl ?_
      refine x_geti dX6_chargeFine_50 vc_X6 xin6 fb_X6_6 fl_X6_56 xr_X6_6 k100 ?_
      refine x_aload_n 1 dX6_chargeFine_53 rfl rfl ?_
      refine x_geti dX6_chargeFine_54 vc_X3 xin3 fb_X3_6 fl_X6_162 xr_X3_6 k101 ?_
      refine x_isub dX6_chargeFine_57 ?_
      obtain ⟨r14, N15, q13, h⟩ := x_bd2 h
      refine x_cv (b := (gp Y a0 13)) (As := [.int (gi N a1 0), .int (gi N a1 5), .int (gi N p9 3), .int ((gi N a0 6) - (gi N a1 6))]) (ci := 0) (d' := 2) (zz := yX0_value) dX6_chargeFine_58 ml_X6_204 wi_X0_value wv_X0_value wn_X0 wc_X0_value hp_X0_value (by decide) (by decide) rfl (Nat.le_of_ble_eq_true rfl) ⟨Nat.zero_le _, Nat.zero_le _⟩ rfl k12 (T_X0_value (G := G) hw k12 q13) ?_
      refine x_istore_n (L' := [(0, .ref a0), (1, .ref a1), (2, .ref p9), (3, .int r14)]) [1, 2, 3, 0] dX6_chargeFine_61 rfl (by decide) rfl ?_
      refine x_aload_n 0 dX6_chargeFine_62 rfl rfl ?_
      refine x_aload_n 1 dX6_chargeFine_63 rfl rfl ?_
      refine x_geti dX6_chargeFine_64 vc_X3 xin3 fb_X3_4 fl_X6_121 xr_X3_4 k101 ?_
      refine x_iload_n 3 dX6_chargeFine_67 rfl rfl ?_
      obtain ⟨r17, N18, q16, h⟩ := x_bd2 h
      refine x_cv (b := a0) (As := [.int (gi N15 a1 4), .int r14]) (ci := 6) (d' := 4) (zz := yX6_takeFrom) dX6_chargeFine_68 ml_X6_208 wi_X6_takeFrom wv_X6_takeFrom wn_X6 wc_X6_takeFrom hp_X6_takeFrom (by decide) (by decide) rfl (Nat.le_of_ble_eq_true rfl) ⟨Nat.zero_le _, Nat.zero_le _⟩ rfl k100 (T_X6_takeFrom (G := G) hw k100 q16) ?_
      refine x_istore (L' := [(0, .ref a0), (1, .ref a1), (2, .ref p9), (4, .int r17)]) [1, 2, 3, 0] dX6_chargeFine_71 (by decide) rfl ?_
      refine x_aload_n 2 dX6_chargeFine_73 rfl rfl ?_
      refine x_dup dX6_chargeFine_74 rfl ?_
      refine x_geti dX6_chargeFine_75 vc_X1 xin1 fb_X1_4 fl_X6_111 xr_X1_4 k10 ?_
      refine x_iload 3 dX6_chargeFine_78 rfl ?_
      refine x_iadd dX6_chargeFine_80 ?_
      refine x_puti dX6_chargeFine_81 vc_X1 xin1 tyX1_ok nmX1 fb_X1_4 fl_X6_111 ff_X1_4 xr_X1_4 (nf_X1_4 _) (ft_X1_4 _) k10 ?_
      obtain ⟨N19, eN19, h⟩ := x_lt h
      refine x_nmN eN19 ?_
      refine x_aload_n 0 dX6_chargeFine_84 rfl rfl ?_
      obtain ⟨g20, k21, n22⟩ := wt_X6_2 hw k100
      refine x_getr dX6_chargeFine_85 vc_X6 xin6 fb_X6_2 fl_X6_19 xr_X6_2 k100 g20 ?_
      refine x_aload_n 1 dX6_chargeFine_88 rfl rfl ?_
      refine x_geti dX6_chargeFine_89 vc_X3 xin3 fb_X3_0 fl_X6_118 xr_X3_0 k101 ?_
      obtain ⟨c23, h⟩ := x_ck h
      obtain ⟨g24, k25⟩ := wt_5 hw k21 (xb_at n22 c23)
      refine x_aald (j := 1) dX6_chargeFine_92 (by decide) k21 (xb_at n22 c23) g24 ?_
      refine x_dup dX6_chargeFine_93 rfl ?_
      refine x_geti dX6_chargeFine_94 vc_X2 xin2 fb_X2_2 fl_X6_110 xr_X2_2 k25 ?_
      refine x_iload 3 dX6_chargeFine_97 rfl ?_
      refine x_iadd dX6_chargeFine_99 ?_
      refine x_puti dX6_chargeFine_100 vc_X2 xin2 tyX2_ok nmX2 fb_X2_2 fl_X6_110 ff_X2_2 xr_X2_2 (nf_X2_2 _) (ft_X2_2 _) k25 ?_
      obtain ⟨N26, eN26, h⟩ := x_lt h
      refine x_nmN eN26 ?_
      refine x_aload_n 1 dX6_chargeFine_103 rfl rfl ?_
      refine x_aload_n 0 dX6_chargeFine_104 rfl rfl ?_
      refine x_geti dX6_chargeFine_105 vc_X6 xin6 fb_X6_6 fl_X6_56 xr_X6_6 k100 ?_
      refine x_puti dX6_chargeFine_108 vc_X3 xin3 tyX3_ok nmX3 fb_X3_6 fl_X6_162 ff_X3_6 xr_X3_6 (nf_X3_6 _) (ft_X3_6 _) k101 ?_
      obtain ⟨N27, eN27, h⟩ := x_lt h
      refine x_nmN eN27 ?_
      obtain rfl := x_so h
      exact x_vret dX6_chargeFine_111 rfl rfl rfl
set_option maxHeartbeats 4000000 in
set_option maxRecDepth 100000 in
theorem T_X6_chargeRent_57 {G : XG} {Y : XY} (hw : WT Y) {N9 : XN}: ∀ (D9 : Nat) (p_0 : Nat) (p_1 : Nat) (v_2 : Int32) (v_3 : Int32) (v_4 : Int32) (v_5 : Int32) (N : XN), kc Y p_0 = 16 → kc Y p_1 = 12 → f_X6_chargeRent_57 Y D9 p_0 p_1 v_2 v_3 v_4 v_5 N = some N9 → Ex G yX6_chargeRent cX6_chargeRent 8 none (xR 5 0 0) (.inl none) Y N9 0 0 57 [(0, .ref p_0), (1, .ref p_1), (2, .int v_2), (3, .int v_3), (4, .int v_4), (5, .int v_5)] [] Y N := by
  intro D9
  induction D9 with
  | zero => intro p_0 p_1 v_2 v_3 v_4 v_5 N kk0 kk1 h; exact nomatch (show none = some _ from h)
  | succ D9 ih =>
    intro p_0 p_1 v_2 v_3 v_4 v_5 N kk0 kk1 h
    rw [f_X6_chargeRent_57] at h
    refine x_iload 5 dX6_chargeRent_57 rfl ?_
    refine x_iload_n 2 dX6_chargeRent_59 rfl rfl ?_
    rcases x_if h with ⟨c1, h⟩ | ⟨c1, h⟩
    · refine x_icmp_ge_t (tgt := 146) dX6_chargeRent_60 (by decide) c1 ?_
      obtain rfl := x_so h
      exact x_vret dX6_chargeRent_146 rfl rfl rfl
    · refine x_icmp_ge_f (tgt := 146) dX6_chargeRent_60 (by decide) c1 ?_
      refine x_aload_n 0 dX6_chargeRent_63 rfl rfl ?_
      obtain ⟨g2, k3, n4⟩ := wt_X6_14 hw kk0
      refine x_getr dX6_chargeRent_64 vc_X6 xin6 fb_X6_14 fl_X6_36 xr_X6_14 kk0 g2 ?_
      refine x_iload 5 dX6_chargeRent_67 rfl ?_
      obtain ⟨c5, h⟩ := x_ck h
      refine x_iald dX6_chargeRent_69 k3 (xb_at n4 c5) rfl ?_
      obtain ⟨v6, ev6, h⟩ := x_lt h
      refine x_nmi ev6 ?_
      refine x_istore (L' := [(0, .ref p_0), (1, .ref p_1), (2, .int v_2), (3, .int v_3), (4, .int v_4), (5, .int v_5), (6, .int v6)]) [1, 2, 3, 4, 5, 6, 0] dX6_chargeRent_70 (by decide) rfl ?_
      refine x_aload_n 0 dX6_chargeRent_72 rfl rfl ?_
      refine x_iload 6 dX6_chargeRent_73 rfl ?_
      refine x_cv (b := p_0) (As := [.int v6]) (ci := 6) (d' := 1) (zz := yX6_hasHandler) dX6_chargeRent_75 ml_X6_156 wi_X6_hasHandler wv_X6_hasHandler wn_X6 wc_X6_hasHandler hp_X6_hasHandler (by decide) (by decide) rfl (Nat.le_of_ble_eq_true rfl) ⟨Nat.zero_le _, Nat.zero_le _⟩ rfl kk0 (T_X6_hasHandler (G := G) hw kk0 rfl) ?_
      rcases x_if h with ⟨c7, h⟩ | ⟨c7, h⟩
      · refine x_if_eq_t (tgt := 140) dX6_chargeRent_78 (by decide) c7 ?_
        refine x_iinc (L' := [(0, .ref p_0), (1, .ref p_1), (2, .int v_2), (3, .int v_3), (4, .int v_4), (5, .int (v_5 + 1))]) 5 [1, 2, 3, 4, 5, 0] dX6_chargeRent_140 rfl rfl (by decide) rfl ?_
        refine x_goto (tgt := 57) dX6_chargeRent_143 (by decide) ?_
        exact ih p_0 p_1 v_2 v_3 v_4 (v_5 + 1) N kk0 kk1 h
      · refine x_if_eq_f (tgt := 140) dX6_chargeRent_78 (by decide) c7 ?_
        refine x_aload_n 1 dX6_chargeRent_81 rfl rfl ?_
        refine x_iload 6 dX6_chargeRent_82 rfl ?_
        obtain ⟨r9, q8, h⟩ := x_bd1 h
        refine x_cv (b := p_1) (As := [.int v6]) (ci := 2) (d' := 1) (zz := yX2_placeOf) dX6_chargeRent_84 ml_X6_114 wi_X2_placeOf wv_X2_placeOf wn_X2 wc_X2_placeOf hp_X2_placeOf (by decide) (by decide) rfl (Nat.le_of_ble_eq_true rfl) ⟨Nat.zero_le _, Nat.zero_le _⟩ rfl kk1 (T_X2_placeOf (G := G) hw kk1 q8) ?_
        rcases x_if h with ⟨c10, h⟩ | ⟨c10, h⟩
        · refine x_if_lt_t (tgt := 140) dX6_chargeRent_87 (by decide) c10 ?_
          refine x_iinc (L' := [(0, .ref p_0), (1, .ref p_1), (2, .int v_2), (3, .int v_3), (4, .int v_4), (5, .int (v_5 + 1))]) 5 [1, 2, 3, 4, 5, 0] dX6_chargeRent_140 rfl rfl (by decide) rfl ?_
          refine x_goto (tgt := 57) dX6_chargeRent_143 (by decide) ?_
          exact ih p_0 p_1 v_2 v_3 v_4 (v_5 + 1) N kk0 kk1 h
        · refine x_if_lt_f (tgt := 140) dX6_chargeRent_87 (by decide) c10 ?_
          refine x_aload_n 0 dX6_chargeRent_90 rfl rfl ?_
          refine x_iload 6 dX6_chargeRent_91 rfl ?_
          refine x_iload 5 dX6_chargeRent_93 rfl ?_
          refine x_iload 4 dX6_chargeRent_95 rfl ?_
          rcases x_if h with ⟨c11, h⟩ | ⟨c11, h⟩
          · refine x_icmp_ge_t (tgt := 106) dX6_chargeRent_97 (by decide) c11 ?_
            refine x_iload_n 3 dX6_chargeRent_106 rfl rfl ?_
            obtain ⟨r13, N14, q12, h⟩ := x_bd2 h
            refine x_cv (b := p_0) (As := [.int v6, .int v_3]) (ci := 6) (d' := 4) (zz := yX6_takeFrom) dX6_chargeRent_107 ml_X6_208 wi_X6_takeFrom wv_X6_takeFrom wn_X6 wc_X6_takeFrom hp_X6_takeFrom (by decide) (by decide) rfl (Nat.le_of_ble_eq_true rfl) ⟨Nat.zero_le _, Nat.zero_le _⟩ rfl kk0 (T_X6_takeFrom (G := G) hw kk0 q12) ?_
            refine x_istore (L' := [(0, .ref p_0), (1, .ref p_1), (2, .int v_2), (3, .int v_3), (4, .int v_4), (5, .int v_5), (6, .int v6), (7, .int r13)]) [1, 2, 3, 4, 5, 6, 7, 0] dX6_chargeRent_110 (by decide) rfl ?_
            refine x_aload_n 0 dX6_chargeRent_112 rfl rfl ?_
            obtain ⟨g15, k16, n17⟩ := wt_X6_0 hw kk0
            refine x_getr dX6_chargeRent_113 vc_X6 xin6 fb_X6_0 fl_X6_11 xr_X6_0 kk0 g15 ?_
            refine x_iload 6 dX6_chargeRent_116 rfl ?_
            obtain ⟨c18, h⟩ := x_ck h
            obtain ⟨g19, k20⟩ := wt_4 hw k16 (xb_at n17 c18)
            refine x_aald (j := 0) dX6_chargeRent_118 (by decide) k16 (xb_at n17 c18) g19 ?_
            refine x_dup dX6_chargeRent_119 rfl ?_
            refine x_geti dX6_chargeRent_120 vc_X1 xin1 fb_X1_5 fl_X6_214 xr_X1_5 k20 ?_
            refine x_iload 7 dX6_chargeRent_123 rfl ?_
            refine x_iadd dX6_chargeRent_125 ?_
            refine x_puti dX6_chargeRent_126 vc_X1 xin1 tyX1_ok nmX1 fb_X1_5 fl_X6_214 ff_X1_5 xr_X1_5 (nf_X1_5 _) (ft_X1_5 _) k20 ?_
            obtain ⟨N21, eN21, h⟩ := x_lt h
            refine x_nmN eN21 ?_
            refine x_aload_n 0 dX6_chargeRent_129 rfl rfl ?_
            refine x_dup dX6_chargeRent_130 rfl ?_
            refine x_geti dX6_chargeRent_131 vc_X6 xin6 fb_X6_7 fl_X6_59 xr_X6_7 kk0 ?_
            refine x_iload 7 dX6_chargeRent_134 rfl ?_
            refine x_iadd dX6_chargeRent_136 ?_
            refine x_puti dX6_chargeRent_137 vc_X6 xin6 tyX6_ok nmX6 fb_X6_7 fl_X6_59 ff_X6_7 xr_X6_7 (nf_X6_7 _) (ft_X6_7 _) kk0 ?_
            obtain ⟨N22, eN22, h⟩ := x_lt h
            refine x_nmN eN22 ?_
            refine x_iinc (L' := [(0, .ref p_0), (1, .ref p_1), (2, .int v_2), (3, .int v_3), (4, .int v_4), (5, .int (v_5 + 1))]) 5 [1, 2, 3, 4, 5, 0] dX6_chargeRent_140 rfl rfl (by decide) rfl ?_
            refine x_goto (tgt := 57) dX6_chargeRent_143 (by decide) ?_
            exact ih p_0 p_1 v_2 v_3 v_4 (v_5 + 1) N22 kk0 kk1 h
          · refine x_icmp_ge_f (tgt := 106) dX6_chargeRent_97 (by decide) c11 ?_
            refine x_iload_n 3 dX6_chargeRent_100 rfl rfl ?_
            refine x_iconst (v := 1) dX6_chargeRent_101 rfl ?_
            refine x_iadd dX6_chargeRent_102 ?_
            refine x_goto (tgt := 107) dX6_chargeRent_103 (by decide) ?_
            obtain ⟨r24, N25, q23, h⟩ := x_bd2 h
            refine x_cv (b := p_0) (As := [.int v6, .int (v_3 + 1)]) (ci := 6) (d' := 4) (zz := yX6_takeFrom) dX6_chargeRent_107 ml_X6_208 wi_X6_takeFrom wv_X6_takeFrom wn_X6 wc_X6_takeFrom hp_X6_takeFrom (by decide) (by decide) rfl (Nat.le_of_ble_eq_true rfl) ⟨Nat.zero_le _, Nat.zero_le _⟩ rfl kk0 (T_X6_takeFrom (G := G) hw kk0 q23) ?_
            refine x_istore (L' := [(0, .ref p_0), (1, .ref p_1), (2, .int v_2), (3, .int v_3), (4, .int v_4), (5, .int v_5), (6, .int v6), (7, .int r24)]) [1, 2, 3, 4, 5, 6, 7, 0] dX6_chargeRent_110 (by decide) rfl ?_
            refine x_aload_n 0 dX6_chargeRent_112 rfl rfl ?_
            obtain ⟨g26, k27, n28⟩ := wt_X6_0 hw kk0
            refine x_getr dX6_chargeRent_113 vc_X6 xin6 fb_X6_0 fl_X6_11 xr_X6_0 kk0 g26 ?_
            refine x_iload 6 dX6_chargeRent_116 rfl ?_
            obtain ⟨c29, h⟩ := x_ck h
            obtain ⟨g30, k31⟩ := wt_4 hw k27 (xb_at n28 c29)
            refine x_aald (j := 0) dX6_chargeRent_118 (by decide) k27 (xb_at n28 c29) g30 ?_
            refine x_dup dX6_chargeRent_119 rfl ?_
            refine x_geti dX6_chargeRent_120 vc_X1 xin1 fb_X1_5 fl_X6_214 xr_X1_5 k31 ?_
            refine x_iload 7 dX6_chargeRent_123 rfl ?_
            refine x_iadd dX6_chargeRent_125 ?_
            refine x_puti dX6_chargeRent_126 vc_X1 xin1 tyX1_ok nmX1 fb_X1_5 fl_X6_214 ff_X1_5 xr_X1_5 (nf_X1_5 _) (ft_X1_5 _) k31 ?_
            obtain ⟨N32, eN32, h⟩ := x_lt h
            refine x_nmN eN32 ?_
            refine x_aload_n 0 dX6_chargeRent_129 rfl rfl ?_
            refine x_dup dX6_chargeRent_130 rfl ?_
            refine x_geti dX6_chargeRent_131 vc_X6 xin6 fb_X6_7 fl_X6_59 xr_X6_7 kk0 ?_
            refine x_iload 7 dX6_chargeRent_134 rfl ?_
            refine x_iadd dX6_chargeRent_136 ?_
            refine x_puti dX6_chargeRent_137 vc_X6 xin6 tyX6_ok nmX6 fb_X6_7 fl_X6_59 ff_X6_7 xr_X6_7 (nf_X6_7 _) (ft_X6_7 _) kk0 ?_
            obtain ⟨N33, eN33, h⟩ := x_lt h
            refine x_nmN eN33 ?_
            refine x_iinc (L' := [(0, .ref p_0), (1, .ref p_1), (2, .int v_2), (3, .int v_3), (4, .int v_4), (5, .int (v_5 + 1))]) 5 [1, 2, 3, 4, 5, 0] dX6_chargeRent_140 rfl rfl (by decide) rfl ?_
            refine x_goto (tgt := 57) dX6_chargeRent_143 (by decide) ?_
            exact ih p_0 p_1 v_2 v_3 v_4 (v_5 + 1) N33 kk0 kk1 h
set_option maxHeartbeats 4000000 in
set_option maxRecDepth 100000 in
theorem T_X6_chargeRent_28 {G : XG} {Y : XY} (hw : WT Y) {N9 : XN}: ∀ (D9 : Nat) (p_0 : Nat) (p_1 : Nat) (v_2 : Int32) (v_3 : Int32) (v_4 : Int32) (v_5 : Int32) (N : XN), kc Y p_0 = 16 → kc Y p_1 = 12 → f_X6_chargeRent_28 Y D9 p_0 p_1 v_2 v_3 v_4 v_5 N = some N9 → Ex G yX6_chargeRent cX6_chargeRent 8 none (xR 5 0 0) (.inl none) Y N9 0 0 28 [(0, .ref p_0), (1, .ref p_1), (2, .int v_2), (3, .int v_3), (4, .int v_4), (5, .int v_5)] [] Y N := by
  intro D9
  induction D9 with
  | zero => intro p_0 p_1 v_2 v_3 v_4 v_5 N kk0 kk1 h; exact nomatch (show none = some _ from h)
  | succ D9 ih =>
    intro p_0 p_1 v_2 v_3 v_4 v_5 N kk0 kk1 h
    rw [f_X6_chargeRent_28] at h
    refine x_iload 5 dX6_chargeRent_28 rfl ?_
    refine x_iload_n 2 dX6_chargeRent_30 rfl rfl ?_
    rcases x_if h with ⟨c1, h⟩ | ⟨c1, h⟩
    · refine x_icmp_ge_t (tgt := 54) dX6_chargeRent_31 (by decide) c1 ?_
      refine x_iconst (v := 0) dX6_chargeRent_54 rfl ?_
      refine x_istore (L' := [(0, .ref p_0), (1, .ref p_1), (2, .int v_2), (3, .int v_3), (4, .int v_4), (5, .int 0)]) [1, 2, 3, 4, 5, 0] dX6_chargeRent_55 (by decide) rfl ?_
      exact T_X6_chargeRent_57 (G := G) hw FU p_0 p_1 v_2 v_3 v_4 0 N kk0 kk1 h
    · refine x_icmp_ge_f (tgt := 54) dX6_chargeRent_31 (by decide) c1 ?_
      refine x_aload_n 0 dX6_chargeRent_34 rfl rfl ?_
      obtain ⟨g2, k3, n4⟩ := wt_X6_14 hw kk0
      refine x_getr dX6_chargeRent_35 vc_X6 xin6 fb_X6_14 fl_X6_36 xr_X6_14 kk0 g2 ?_
      refine x_iload 5 dX6_chargeRent_38 rfl ?_
      refine x_aload_n 1 dX6_chargeRent_40 rfl rfl ?_
      obtain ⟨g5, k6, n7⟩ := wt_X2_3 hw kk1
      refine x_getr dX6_chargeRent_41 vc_X2 xin2 fb_X2_3 fl_X6_153 xr_X2_3 kk1 g5 ?_
      refine x_iload 5 dX6_chargeRent_44 rfl ?_
      obtain ⟨c8, h⟩ := x_ck h
      refine x_iald dX6_chargeRent_46 k6 (xb_at n7 c8) rfl ?_
      obtain ⟨c9, h⟩ := x_ck h
      refine x_iast dX6_chargeRent_47 k3 (xb_at n4 c9) rfl ?_
      obtain ⟨N10, eN10, h⟩ := x_lt h
      refine x_nmN eN10 ?_
      refine x_iinc (L' := [(0, .ref p_0), (1, .ref p_1), (2, .int v_2), (3, .int v_3), (4, .int v_4), (5, .int (v_5 + 1))]) 5 [1, 2, 3, 4, 5, 0] dX6_chargeRent_48 rfl rfl (by decide) rfl ?_
      refine x_goto (tgt := 28) dX6_chargeRent_51 (by decide) ?_
      exact ih p_0 p_1 v_2 v_3 v_4 (v_5 + 1) N10 kk0 kk1 h
