set_option maxHeartbeats 4000000 in
set_option maxRecDepth 100000 in
theorem T_X8_layUsual_2 {G : XG} {Y : XY} (hw : WT Y) {N9 : XN}: ∀ (D9 : Nat) (p_0 : Nat) (v_1 : Int32) (N : XN), kc Y p_0 = 1 → f_X8_layUsual_2 Y D9 p_0 v_1 N = some N9 → Ex G yX8_layUsual cX8_layUsual 2 none (xR 1 0 0) (.inl none) Y N9 0 0 2 [(0, .ref p_0), (1, .int v_1)] [] Y N := by
  intro D9
  induction D9 with
  | zero => intro p_0 v_1 N kk0 h; exact nomatch (show none = some _ from h)
  | succ D9 ih =>
    intro p_0 v_1 N kk0 h
    rw [f_X8_layUsual_2] at h
    refine x_iload_n 1 dX8_layUsual_2 rfl rfl ?_
    refine x_sipush (v := 1784) dX8_layUsual_3 rfl ?_
    rcases x_if h with ⟨c1, h⟩ | ⟨c1, h⟩
    · refine x_icmp_ge_t (tgt := 19) dX8_layUsual_6 (by decide) c1 ?_
      refine x_aload_n 0 dX8_layUsual_19 rfl rfl ?_
      refine x_iconst (v := 5) dX8_layUsual_20 rfl ?_
      refine x_iconst (v := 5) dX8_layUsual_21 rfl ?_
      obtain ⟨c2, h⟩ := x_ck h
      refine x_iast dX8_layUsual_22 kk0 (xb_in c2) rfl ?_
      obtain ⟨N3, eN3, h⟩ := x_lt h
      refine x_nmN eN3 ?_
      refine x_aload_n 0 dX8_layUsual_23 rfl rfl ?_
      refine x_bipush (v := 6) dX8_layUsual_24 rfl ?_
      refine x_bipush (v := 10) dX8_layUsual_26 rfl ?_
      obtain ⟨c4, h⟩ := x_ck h
      refine x_iast dX8_layUsual_28 kk0 (xb_in c4) rfl ?_
      obtain ⟨N5, eN5, h⟩ := x_lt h
      refine x_nmN eN5 ?_
      refine x_aload_n 0 dX8_layUsual_29 rfl rfl ?_
      refine x_bipush (v := 7) dX8_layUsual_30 rfl ?_
      refine x_bipush (v := 10) dX8_layUsual_32 rfl ?_
      obtain ⟨c6, h⟩ := x_ck h
      refine x_iast dX8_layUsual_34 kk0 (xb_in c6) rfl ?_
      obtain ⟨N7, eN7, h⟩ := x_lt h
      refine x_nmN eN7 ?_
      refine x_aload_n 0 dX8_layUsual_35 rfl rfl ?_
      refine x_bipush (v := 8) dX8_layUsual_36 rfl ?_
      refine x_bipush (v := 10) dX8_layUsual_38 rfl ?_
      obtain ⟨c8, h⟩ := x_ck h
      refine x_iast dX8_layUsual_40 kk0 (xb_in c8) rfl ?_
      obtain ⟨N9, eN9, h⟩ := x_lt h
      refine x_nmN eN9 ?_
      refine x_aload_n 0 dX8_layUsual_41 rfl rfl ?_
      refine x_bipush (v := 9) dX8_layUsual_42 rfl ?_
      refine x_iconst (v := 1) dX8_layUsual_44 rfl ?_
      obtain ⟨c10, h⟩ := x_ck h
      refine x_iast dX8_layUsual_45 kk0 (xb_in c10) rfl ?_
      obtain ⟨N11, eN11, h⟩ := x_lt h
      refine x_nmN eN11 ?_
      obtain rfl := x_so h
      exact x_vret dX8_layUsual_46 rfl rfl rfl
    · refine x_icmp_ge_f (tgt := 19) dX8_layUsual_6 (by decide) c1 ?_
      refine x_aload_n 0 dX8_layUsual_9 rfl rfl ?_
      refine x_iload_n 1 dX8_layUsual_10 rfl rfl ?_
      refine x_iconst (v := 0) dX8_layUsual_11 rfl ?_
      obtain ⟨c12, h⟩ := x_ck h
      refine x_iast dX8_layUsual_12 kk0 (xb_in c12) rfl ?_
      obtain ⟨N13, eN13, h⟩ := x_lt h
      refine x_nmN eN13 ?_
      refine x_iinc (L' := [(0, .ref p_0), (1, .int (v_1 + 1))]) 1 [1, 0] dX8_layUsual_13 rfl rfl (by decide) rfl ?_
      refine x_goto (tgt := 2) dX8_layUsual_16 (by decide) ?_
      exact ih p_0 (v_1 + 1) N13 kk0 h
set_option maxHeartbeats 4000000 in
set_option maxRecDepth 100000 in
theorem T_X8_layUsual {G : XG} {Y : XY} (hw : WT Y) {a0 : Nat} {N : XN} (k100 : kc Y a0 = 1) {N9 : XN} (h : f_X8_layUsual Y a0 N = some N9) : Cl G yX8_layUsual cX8_layUsual 2 none (xR 1 0 0) [.ref a0] (.inl none) Y N Y N9 := by
  refine x_entry (by decide) (Nat.le_of_ble_eq_true rfl) rfl ?_
  rw [f_X8_layUsual] at h
  refine x_iconst (v := 0) dX8_layUsual_0 rfl ?_
  refine x_istore_n (L' := [(0, .ref a0), (1, .int 0)]) [1, 0] dX8_layUsual_1 rfl (by decide) rfl ?_
  exact T_X8_layUsual_2 (G := G) hw FU a0 0 N k100 h
set_option maxHeartbeats 4000000 in
set_option maxRecDepth 100000 in
theorem T_X8_thrown {G : XG} {Y : XY} (hw : WT Y) {a0 : Nat} {N : XN} (k100 : kc Y a0 = 18) {r9 : Int32} (h : f_X8_thrown Y a0 N = r9) : Cl G yX8_thrown cX8_thrown 1 (some .int) (xR 1 0 0) [.ref a0] (.inl (some (.int r9))) Y N Y N := by
  refine x_entry (by decide) (Nat.le_of_ble_eq_true rfl) rfl ?_
  rw [f_X8_thrown] at h
  refine x_aload_n 0 dX8_thrown_0 rfl rfl ?_
  refine x_geti dX8_thrown_1 vc_X8 xin8 fb_X8_0 fl_X8_45 xr_X8_0 k100 ?_
  subst h
  exact x_iret dX8_thrown_4 rfl rfl rfl
set_option maxHeartbeats 4000000 in
set_option maxRecDepth 100000 in
theorem T_X8_fails {G : XG} {Y : XY} (hw : WT Y) {a0 : Nat} {a1 : Int32} {a2 : Int32} {N : XN} (k100 : kc Y a0 = 18) {r9 : Int32} {N9 : XN} (h : f_X8_fails Y a0 a1 a2 N = some (r9, N9)) : Cl G yX8_fails cX8_fails 3 (some .boolean) (xR 1 0 0) [.ref a0, .int a1, .int a2] (.inl (some (.int r9))) Y N Y N9 := by
  refine x_entry (by decide) (Nat.le_of_ble_eq_true rfl) rfl ?_
  rw [f_X8_fails] at h
  refine x_iload_n 1 dX8_fails_0 rfl rfl ?_
  rcases x_if h with ⟨c1, h⟩ | ⟨c1, h⟩
  · refine x_if_eq_t (tgt := 16) dX8_fails_1 (by decide) c1 ?_
    refine x_aload_n 0 dX8_fails_16 rfl rfl ?_
    refine x_geti dX8_fails_17 vc_X8 xin8 fb_X8_0 fl_X8_45 xr_X8_0 k100 ?_
    rcases x_if h with ⟨c2, h⟩ | ⟨c2, h⟩
    · refine x_if_eq_t (tgt := 27) dX8_fails_20 (by decide) c2 ?_
      refine x_iconst (v := 0) dX8_fails_27 rfl ?_
      obtain ⟨rfl, rfl⟩ := Prod.mk.inj (x_so h)
      exact x_zret dX8_fails_28 rfl (by decide) rfl rfl
    · refine x_if_eq_f (tgt := 27) dX8_fails_20 (by decide) c2 ?_
      refine x_iconst (v := 1) dX8_fails_23 rfl ?_
      refine x_goto (tgt := 28) dX8_fails_24 (by decide) ?_
      obtain ⟨rfl, rfl⟩ := Prod.mk.inj (x_so h)
      exact x_zret dX8_fails_28 rfl (by decide) rfl rfl
  · refine x_if_eq_f (tgt := 16) dX8_fails_1 (by decide) c1 ?_
    refine x_aload_n 0 dX8_fails_4 rfl rfl ?_
    refine x_geti dX8_fails_5 vc_X8 xin8 fb_X8_0 fl_X8_45 xr_X8_0 k100 ?_
    rcases x_if h with ⟨c3, h⟩ | ⟨c3, h⟩
    · refine x_if_ne_f (tgt := 16) dX8_fails_8 (by decide) c3 ?_
      refine x_aload_n 0 dX8_fails_11 rfl rfl ?_
      refine x_iload_n 2 dX8_fails_12 rfl rfl ?_
      refine x_puti dX8_fails_13 vc_X8 xin8 tyX8_ok nmX8 fb_X8_0 fl_X8_45 ff_X8_0 xr_X8_0 (nf_X8_0 _) (ft_X8_0 _) k100 ?_
      obtain ⟨N4, eN4, h⟩ := x_lt h
      refine x_nmN eN4 ?_
      refine x_aload_n 0 dX8_fails_16 rfl rfl ?_
      refine x_geti dX8_fails_17 vc_X8 xin8 fb_X8_0 fl_X8_45 xr_X8_0 k100 ?_
      rcases x_if h with ⟨c5, h⟩ | ⟨c5, h⟩
      · refine x_if_eq_t (tgt := 27) dX8_fails_20 (by decide) c5 ?_
        refine x_iconst (v := 0) dX8_fails_27 rfl ?_
        obtain ⟨rfl, rfl⟩ := Prod.mk.inj (x_so h)
        exact x_zret dX8_fails_28 rfl (by decide) rfl rfl
      · refine x_if_eq_f (tgt := 27) dX8_fails_20 (by decide) c5 ?_
        refine x_iconst (v := 1) dX8_fails_23 rfl ?_
        refine x_goto (tgt := 28) dX8_fails_24 (by decide) ?_
        obtain ⟨rfl, rfl⟩ := Prod.mk.inj (x_so h)
        exact x_zret dX8_fails_28 rfl (by decide) rfl rfl
    · refine x_if_ne_t (tgt := 16) dX8_fails_8 (by decide) c3 ?_
      refine x_aload_n 0 dX8_fails_16 rfl rfl ?_
      refine x_geti dX8_fails_17 vc_X8 xin8 fb_X8_0 fl_X8_45 xr_X8_0 k100 ?_
      rcases x_if h with ⟨c6, h⟩ | ⟨c6, h⟩
      · refine x_if_eq_t (tgt := 27) dX8_fails_20 (by decide) c6 ?_
        refine x_iconst (v := 0) dX8_fails_27 rfl ?_
        obtain ⟨rfl, rfl⟩ := Prod.mk.inj (x_so h)
        exact x_zret dX8_fails_28 rfl (by decide) rfl rfl
      · refine x_if_eq_f (tgt := 27) dX8_fails_20 (by decide) c6 ?_
        refine x_iconst (v := 1) dX8_fails_23 rfl ?_
        refine x_goto (tgt := 28) dX8_fails_24 (by decide) ?_
        obtain ⟨rfl, rfl⟩ := Prod.mk.inj (x_so h)
        exact x_zret dX8_fails_28 rfl (by decide) rfl rfl
set_option maxHeartbeats 4000000 in
set_option maxRecDepth 100000 in
theorem T_X8_in {G : XG} {Y : XY} (hw : WT Y) {a0 : Int32} {a1 : Int32} {a2 : Int32} {N : XN}  {r9 : Int32} (h : f_X8_in Y a0 a1 a2 N = r9) : Cl G yX8_in cX8_in 3 (some .boolean) (xR 1 0 0) [.int a0, .int a1, .int a2] (.inl (some (.int r9))) Y N Y N := by
  refine x_entry (by decide) (Nat.le_of_ble_eq_true rfl) rfl ?_
  rw [f_X8_in] at h
  refine x_iload_n 0 dX8_in_0 rfl rfl ?_
  refine x_iload_n 1 dX8_in_1 rfl rfl ?_
  rcases x_if h with ⟨c1, h⟩ | ⟨c1, h⟩
  · refine x_icmp_lt_t (tgt := 14) dX8_in_2 (by decide) c1 ?_
    refine x_iconst (v := 0) dX8_in_14 rfl ?_
    subst h
    exact x_zret dX8_in_15 rfl (by decide) rfl rfl
  · refine x_icmp_lt_f (tgt := 14) dX8_in_2 (by decide) c1 ?_
    refine x_iload_n 0 dX8_in_5 rfl rfl ?_
    refine x_iload_n 2 dX8_in_6 rfl rfl ?_
    rcases x_if h with ⟨c2, h⟩ | ⟨c2, h⟩
    · refine x_icmp_gt_t (tgt := 14) dX8_in_7 (by decide) c2 ?_
      refine x_iconst (v := 0) dX8_in_14 rfl ?_
      subst h
      exact x_zret dX8_in_15 rfl (by decide) rfl rfl
    · refine x_icmp_gt_f (tgt := 14) dX8_in_7 (by decide) c2 ?_
      refine x_iconst (v := 1) dX8_in_10 rfl ?_
      refine x_goto (tgt := 15) dX8_in_11 (by decide) ?_
      subst h
      exact x_zret dX8_in_15 rfl (by decide) rfl rfl
set_option maxHeartbeats 4000000 in
set_option maxRecDepth 100000 in
theorem T_X8_min {G : XG} {Y : XY} (hw : WT Y) {a0 : Int32} {a1 : Int32} {N : XN}  {r9 : Int32} (h : f_X8_min Y a0 a1 N = r9) : Cl G yX8_min cX8_min 2 (some .int) (xR 1 0 0) [.int a0, .int a1] (.inl (some (.int r9))) Y N Y N := by
  refine x_entry (by decide) (Nat.le_of_ble_eq_true rfl) rfl ?_
  rw [f_X8_min] at h
  refine x_iload_n 0 dX8_min_0 rfl rfl ?_
  refine x_iload_n 1 dX8_min_1 rfl rfl ?_
  rcases x_if h with ⟨c1, h⟩ | ⟨c1, h⟩
  · refine x_icmp_ge_t (tgt := 9) dX8_min_2 (by decide) c1 ?_
    refine x_iload_n 1 dX8_min_9 rfl rfl ?_
    subst h
    exact x_iret dX8_min_10 rfl rfl rfl
  · refine x_icmp_ge_f (tgt := 9) dX8_min_2 (by decide) c1 ?_
    refine x_iload_n 0 dX8_min_5 rfl rfl ?_
    refine x_goto (tgt := 10) dX8_min_6 (by decide) ?_
    subst h
    exact x_iret dX8_min_10 rfl rfl rfl
set_option maxHeartbeats 4000000 in
set_option maxRecDepth 100000 in
theorem T_X8_copy_2 {G : XG} {Y : XY} (hw : WT Y) {N9 : XN}: ∀ (D9 : Nat) (p_0 : Nat) (p_1 : Nat) (v_2 : Int32) (v_3 : Int32) (N : XN), kc Y p_0 = 1 → kc Y p_1 = 1 → f_X8_copy_2 Y D9 p_0 p_1 v_2 v_3 N = some N9 → Ex G yX8_copy cX8_copy 4 none (xR 1 0 0) (.inl none) Y N9 0 0 2 [(0, .ref p_0), (1, .ref p_1), (2, .int v_2), (3, .int v_3)] [] Y N := by
  intro D9
  induction D9 with
  | zero => intro p_0 p_1 v_2 v_3 N kk0 kk1 h; exact nomatch (show none = some _ from h)
  | succ D9 ih =>
    intro p_0 p_1 v_2 v_3 N kk0 kk1 h
    rw [f_X8_copy_2] at h
    refine x_iload_n 3 dX8_copy_2 rfl rfl ?_
    refine x_iload_n 2 dX8_copy_3 rfl rfl ?_
    rcases x_if h with ⟨c1, h⟩ | ⟨c1, h⟩
    · refine x_icmp_ge_t (tgt := 19) dX8_copy_4 (by decide) c1 ?_
      obtain rfl := x_so h
      exact x_vret dX8_copy_19 rfl rfl rfl
    · refine x_icmp_ge_f (tgt := 19) dX8_copy_4 (by decide) c1 ?_
      refine x_aload_n 1 dX8_copy_7 rfl rfl ?_
      refine x_iload_n 3 dX8_copy_8 rfl rfl ?_
      refine x_aload_n 0 dX8_copy_9 rfl rfl ?_
      refine x_iload_n 3 dX8_copy_10 rfl rfl ?_
      obtain ⟨c2, h⟩ := x_ck h
      refine x_iald dX8_copy_11 kk0 (xb_in c2) rfl ?_
      obtain ⟨c3, h⟩ := x_ck h
      refine x_iast dX8_copy_12 kk1 (xb_in c3) rfl ?_
      obtain ⟨N4, eN4, h⟩ := x_lt h
      refine x_nmN eN4 ?_
      refine x_iinc (L' := [(0, .ref p_0), (1, .ref p_1), (2, .int v_2), (3, .int (v_3 + 1))]) 3 [1, 2, 3, 0] dX8_copy_13 rfl rfl (by decide) rfl ?_
      refine x_goto (tgt := 2) dX8_copy_16 (by decide) ?_
      exact ih p_0 p_1 v_2 (v_3 + 1) N4 kk0 kk1 h
set_option maxHeartbeats 4000000 in
set_option maxRecDepth 100000 in
theorem T_X8_copy {G : XG} {Y : XY} (hw : WT Y) {a0 : Nat} {a1 : Nat} {a2 : Int32} {N : XN} (k100 : kc Y a0 = 1) (k101 : kc Y a1 = 1) {N9 : XN} (h : f_X8_copy Y a0 a1 a2 N = some N9) : Cl G yX8_copy cX8_copy 4 none (xR 1 0 0) [.ref a0, .ref a1, .int a2] (.inl none) Y N Y N9 := by
  refine x_entry (by decide) (Nat.le_of_ble_eq_true rfl) rfl ?_
  rw [f_X8_copy] at h
  refine x_iconst (v := 0) dX8_copy_0 rfl ?_
  refine x_istore_n (L' := [(0, .ref a0), (1, .ref a1), (2, .int a2), (3, .int 0)]) [1, 2, 3, 0] dX8_copy_1 rfl (by decide) rfl ?_
  exact T_X8_copy_2 (G := G) hw FU a0 a1 a2 0 N k100 k101 h
set_option maxHeartbeats 4000000 in
set_option maxRecDepth 100000 in
theorem T_X8_append_23 {G : XG} {Y : XY} (hw : WT Y) {r9 : Int32} {N9 : XN}: ∀ (D9 : Nat) (p_0 : Nat) (v_1 : Int32) (v_2 : Int32) (v_3 : Int32) (v_4 : Int32) (v_5 : Int32) (v_6 : Int32) (N : XN), kc Y p_0 = 18 → f_X8_append_23 Y D9 p_0 v_1 v_2 v_3 v_4 v_5 v_6 N = some (r9, N9) → Ex G yX8_append cX8_append 8 (some .int) (xR 1 0 0) (.inl (some (.int r9))) Y N9 0 0 23 [(0, .ref p_0), (1, .int v_1), (2, .int v_2), (3, .int v_3), (4, .int v_4), (5, .int v_5), (6, .int v_6)] [] Y N := by
  intro D9
  induction D9 with
  | zero => intro p_0 v_1 v_2 v_3 v_4 v_5 v_6 N kk0 h; exact nomatch (show none = some _ from h)
  | succ D9 ih =>
    intro p_0 v_1 v_2 v_3 v_4 v_5 v_6 N kk0 h
    rw [f_X8_append_23] at h
    refine x_iload 6 dX8_append_23 rfl ?_
    refine x_bipush (v := 20) dX8_append_25 rfl ?_
    rcases x_if h with ⟨c1, h⟩ | ⟨c1, h⟩
    · refine x_icmp_ge_t (tgt := 120) dX8_append_27 (by decide) c1 ?_
      refine x_aload_n 0 dX8_append_120 rfl rfl ?_
      refine x_geti dX8_append_121 vc_X8 xin8 fb_X8_2 fl_X8_48 xr_X8_2 kk0 ?_
      obtain ⟨rfl, rfl⟩ := Prod.mk.inj (x_so h)
      exact x_iret dX8_append_124 rfl rfl rfl
    · refine x_icmp_ge_f (tgt := 120) dX8_append_27 (by decide) c1 ?_
      refine x_iload 6 dX8_append_30 rfl ?_
      refine x_iconst (v := 4) dX8_append_32 rfl ?_
      rcases x_if h with ⟨c2, h⟩ | ⟨c2, h⟩
      · refine x_icmp_ge_t (tgt := 40) dX8_append_33 (by decide) c2 ?_
        refine x_iload 6 dX8_append_40 rfl ?_
        refine x_bipush (v := 8) dX8_append_42 rfl ?_
        rcases x_if h with ⟨c3, h⟩ | ⟨c3, h⟩
        · refine x_icmp_ge_t (tgt := 51) dX8_append_44 (by decide) c3 ?_
          refine x_iload 6 dX8_append_51 rfl ?_
          refine x_bipush (v := 12) dX8_append_53 rfl ?_
          rcases x_if h with ⟨c4, h⟩ | ⟨c4, h⟩
          · refine x_icmp_ge_t (tgt := 62) dX8_append_55 (by decide) c4 ?_
            refine x_iload 6 dX8_append_62 rfl ?_
            refine x_bipush (v := 16) dX8_append_64 rfl ?_
            rcases x_if h with ⟨c5, h⟩ | ⟨c5, h⟩
            · refine x_icmp_ge_t (tgt := 74) dX8_append_66 (by decide) c5 ?_
              refine x_iload 5 dX8_append_74 rfl ?_
              refine x_istore (L' := [(0, .ref p_0), (1, .int v_1), (2, .int v_2), (3, .int v_3), (4, .int v_4), (5, .int v_5), (6, .int v_6), (7, .int v_5)]) [1, 2, 3, 4, 5, 6, 7, 0] dX8_append_76 (by decide) rfl ?_
              refine x_aload_n 0 dX8_append_78 rfl rfl ?_
              obtain ⟨g6, k7, n8⟩ := wt_X8_1 hw kk0
              refine x_getr dX8_append_79 vc_X8 xin8 fb_X8_1 fl_X8_9 xr_X8_1 kk0 g6 ?_
              refine x_aload_n 0 dX8_append_82 rfl rfl ?_
              refine x_geti dX8_append_83 vc_X8 xin8 fb_X8_2 fl_X8_48 xr_X8_2 kk0 ?_
              refine x_iload 7 dX8_append_86 rfl ?_
              refine x_bipush (v := 24) dX8_append_88 rfl ?_
              refine x_bipush (v := 8) dX8_append_90 rfl ?_
              refine x_iload 6 dX8_append_92 rfl ?_
              refine x_iconst (v := 4) dX8_append_94 rfl ?_
              refine x_irem dX8_append_95 (by decide) ?_
              refine x_imul dX8_append_96 ?_
              refine x_isub dX8_append_97 ?_
              refine x_ishr dX8_append_98 ?_
              refine x_sipush (v := 255) dX8_append_99 rfl ?_
              refine x_iand dX8_append_102 ?_
              obtain ⟨c10, h⟩ := x_ck h
              refine x_iast dX8_append_103 k7 (xb_at n8 c10) rfl ?_
              obtain ⟨N11, eN11, h⟩ := x_lt h
              refine x_nmN eN11 ?_
              refine x_aload_n 0 dX8_append_104 rfl rfl ?_
              refine x_dup dX8_append_105 rfl ?_
              refine x_geti dX8_append_106 vc_X8 xin8 fb_X8_2 fl_X8_48 xr_X8_2 kk0 ?_
              refine x_iconst (v := 1) dX8_append_109 rfl ?_
              refine x_iadd dX8_append_110 ?_
              refine x_puti dX8_append_111 vc_X8 xin8 tyX8_ok nmX8 fb_X8_2 fl_X8_48 ff_X8_2 xr_X8_2 (nf_X8_2 _) (ft_X8_2 _) kk0 ?_
              obtain ⟨N12, eN12, h⟩ := x_lt h
              refine x_nmN eN12 ?_
              refine x_iinc (L' := [(0, .ref p_0), (1, .int v_1), (2, .int v_2), (3, .int v_3), (4, .int v_4), (5, .int v_5), (6, .int (v_6 + 1))]) 6 [1, 2, 3, 4, 5, 6, 0] dX8_append_114 rfl rfl (by decide) rfl ?_
              refine x_goto (tgt := 23) dX8_append_117 (by decide) ?_
              exact ih p_0 v_1 v_2 v_3 v_4 v_5 (v_6 + 1) N12 kk0 h
            · refine x_icmp_ge_f (tgt := 74) dX8_append_66 (by decide) c5 ?_
              refine x_iload 4 dX8_append_69 rfl ?_
              refine x_goto (tgt := 76) dX8_append_71 (by decide) ?_
              refine x_istore (L' := [(0, .ref p_0), (1, .int v_1), (2, .int v_2), (3, .int v_3), (4, .int v_4), (5, .int v_5), (6, .int v_6), (7, .int v_4)]) [1, 2, 3, 4, 5, 6, 7, 0] dX8_append_76 (by decide) rfl ?_
              refine x_aload_n 0 dX8_append_78 rfl rfl ?_
              obtain ⟨g13, k14, n15⟩ := wt_X8_1 hw kk0
              refine x_getr dX8_append_79 vc_X8 xin8 fb_X8_1 fl_X8_9 xr_X8_1 kk0 g13 ?_
              refine x_aload_n 0 dX8_append_82 rfl rfl ?_
              refine x_geti dX8_append_83 vc_X8 xin8 fb_X8_2 fl_X8_48 xr_X8_2 kk0 ?_
              refine x_iload 7 dX8_append_86 rfl ?_
              refine x_bipush (v := 24) dX8_append_88 rfl ?_
              refine x_bipush (v := 8) dX8_append_90 rfl ?_
              refine x_iload 6 dX8_append_92 rfl ?_
              refine x_iconst (v := 4) dX8_append_94 rfl ?_
              refine x_irem dX8_append_95 (by decide) ?_
              refine x_imul dX8_append_96 ?_
              refine x_isub dX8_append_97 ?_
              refine x_ishr dX8_append_98 ?_
              refine x_sipush (v := 255) dX8_append_99 rfl ?_
              refine x_iand dX8_append_102 ?_
              obtain ⟨c17, h⟩ := x_ck h
              refine x_iast dX8_append_103 k14 (xb_at n15 c17) rfl ?_
              obtain ⟨N18, eN18, h⟩ := x_lt h
              refine x_nmN eN18 ?_
              refine x_aload_n 0 dX8_append_104 rfl rfl ?_
              refine x_dup dX8_append_105 rfl ?_
              refine x_geti dX8_append_106 vc_X8 xin8 fb_X8_2 fl_X8_48 xr_X8_2 kk0 ?_
              refine x_iconst (v := 1) dX8_append_109 rfl ?_
              refine x_iadd dX8_append_110 ?_
              refine x_puti dX8_append_111 vc_X8 xin8 tyX8_ok nmX8 fb_X8_2 fl_X8_48 ff_X8_2 xr_X8_2 (nf_X8_2 _) (ft_X8_2 _) kk0 ?_
              obtain ⟨N19, eN19, h⟩ := x_lt h
              refine x_nmN eN19 ?_
              refine x_iinc (L' := [(0, .ref p_0), (1, .int v_1), (2, .int v_2), (3, .int v_3), (4, .int v_4), (5, .int v_5), (6, .int (v_6 + 1))]) 6 [1, 2, 3, 4, 5, 6, 0] dX8_append_114 rfl rfl (by decide) rfl ?_
              refine x_goto (tgt := 23) dX8_append_117 (by decide) ?_
              exact ih p_0 v_1 v_2 v_3 v_4 v_5 (v_6 + 1) N19 kk0 h
          · refine x_icmp_ge_f (tgt := 62) dX8_append_55 (by decide) c4 ?_
            refine x_iload_n 3 dX8_append_58 rfl rfl ?_
            refine x_goto (tgt := 76) dX8_append_59 (by decide) ?_
            refine x_istore (L' := [(0, .ref p_0), (1, .int v_1), (2, .int v_2), (3, .int v_3), (4, .int v_4), (5, .int v_5), (6, .int v_6), (7, .int v_3)]) [1, 2, 3, 4, 5, 6, 7, 0] dX8_append_76 (by decide) rfl ?_
            refine x_aload_n 0 dX8_append_78 rfl rfl ?_
            obtain ⟨g20, k21, n22⟩ := wt_X8_1 hw kk0
            refine x_getr dX8_append_79 vc_X8 xin8 fb_X8_1 fl_X8_9 xr_X8_1 kk0 g20 ?_
            refine x_aload_n 0 dX8_append_82 rfl rfl ?_
            refine x_geti dX8_append_83 vc_X8 xin8 fb_X8_2 fl_X8_48 xr_X8_2 kk0 ?_
            refine x_iload 7 dX8_append_86 rfl ?_
            refine x_bipush (v := 24) dX8_append_88 rfl ?_
            refine x_bipush (v := 8) dX8_append_90 rfl ?_
            refine x_iload 6 dX8_append_92 rfl ?_
            refine x_iconst (v := 4) dX8_append_94 rfl ?_
            refine x_irem dX8_append_95 (by decide) ?_
            refine x_imul dX8_append_96 ?_
            refine x_isub dX8_append_97 ?_
            refine x_ishr dX8_append_98 ?_
            refine x_sipush (v := 255) dX8_append_99 rfl ?_
            refine x_iand dX8_append_102 ?_
            obtain ⟨c24, h⟩ := x_ck h
            refine x_iast dX8_append_103 k21 (xb_at n22 c24) rfl ?_
            obtain ⟨N25, eN25, h⟩ := x_lt h
            refine x_nmN eN25 ?_
            refine x_aload_n 0 dX8_append_104 rfl rfl ?_
            refine x_dup dX8_append_105 rfl ?_
            refine x_geti dX8_append_106 vc_X8 xin8 fb_X8_2 fl_X8_48 xr_X8_2 kk0 ?_
            refine x_iconst (v := 1) dX8_append_109 rfl ?_
            refine x_iadd dX8_append_110 ?_
            refine x_puti dX8_append_111 vc_X8 xin8 tyX8_ok nmX8 fb_X8_2 fl_X8_48 ff_X8_2 xr_X8_2 (nf_X8_2 _) (ft_X8_2 _) kk0 ?_
            obtain ⟨N26, eN26, h⟩ := x_lt h
            refine x_nmN eN26 ?_
            refine x_iinc (L' := [(0, .ref p_0), (1, .int v_1), (2, .int v_2), (3, .int v_3), (4, .int v_4), (5, .int v_5), (6, .int (v_6 + 1))]) 6 [1, 2, 3, 4, 5, 6, 0] dX8_append_114 rfl rfl (by decide) rfl ?_
            refine x_goto (tgt := 23) dX8_append_117 (by decide) ?_
            exact ih p_0 v_1 v_2 v_3 v_4 v_5 (v_6 + 1) N26 kk0 h
        · refine x_icmp_ge_f (tgt := 51) dX8_append_44 (by decide) c3 ?_
          refine x_iload_n 2 dX8_append_47 rfl rfl ?_
          refine x_goto (tgt := 76) dX8_append_48 (by decide) ?_
          refine x_istore (L' := [(0, .ref p_0), (1, .int v_1), (2, .int v_2), (3, .int v_3), (4, .int v_4), (5, .int v_5), (6, .int v_6), (7, .int v_2)]) [1, 2, 3, 4, 5, 6, 7, 0] dX8_append_76 (by decide) rfl ?_
          refine x_aload_n 0 dX8_append_78 rfl rfl ?_
          obtain ⟨g27, k28, n29⟩ := wt_X8_1 hw kk0
          refine x_getr dX8_append_79 vc_X8 xin8 fb_X8_1 fl_X8_9 xr_X8_1 kk0 g27 ?_
          refine x_aload_n 0 dX8_append_82 rfl rfl ?_
          refine x_geti dX8_append_83 vc_X8 xin8 fb_X8_2 fl_X8_48 xr_X8_2 kk0 ?_
          refine x_iload 7 dX8_append_86 rfl ?_
          refine x_bipush (v := 24) dX8_append_88 rfl ?_
          refine x_bipush (v := 8) dX8_append_90 rfl ?_
          refine x_iload 6 dX8_append_92 rfl ?_
          refine x_iconst (v := 4) dX8_append_94 rfl ?_
          refine x_irem dX8_append_95 (by decide) ?_
          refine x_imul dX8_append_96 ?_
          refine x_isub dX8_append_97 ?_
          refine x_ishr dX8_append_98 ?_
          refine x_sipush (v := 255) dX8_append_99 rfl ?_
          refine x_iand dX8_append_102 ?_
          obtain ⟨c31, h⟩ := x_ck h
          refine x_iast dX8_append_103 k28 (xb_at n29 c31) rfl ?_
          obtain ⟨N32, eN32, h⟩ := x_lt h
          refine x_nmN eN32 ?_
          refine x_aload_n 0 dX8_append_104 rfl rfl ?_
          refine x_dup dX8_append_105 rfl ?_
          refine x_geti dX8_append_106 vc_X8 xin8 fb_X8_2 fl_X8_48 xr_X8_2 kk0 ?_
          refine x_iconst (v := 1) dX8_append_109 rfl ?_
          refine x_iadd dX8_append_110 ?_
          refine x_puti dX8_append_111 vc_X8 xin8 tyX8_ok nmX8 fb_X8_2 fl_X8_48 ff_X8_2 xr_X8_2 (nf_X8_2 _) (ft_X8_2 _) kk0 ?_
          obtain ⟨N33, eN33, h⟩ := x_lt h
          refine x_nmN eN33 ?_
          refine x_iinc (L' := [(0, .ref p_0), (1, .int v_1), (2, .int v_2), (3, .int v_3), (4, .int v_4), (5, .int v_5), (6, .int (v_6 + 1))]) 6 [1, 2, 3, 4, 5, 6, 0] dX8_append_114 rfl rfl (by decide) rfl ?_
          refine x_goto (tgt := 23) dX8_append_117 (by decide) ?_
          exact ih p_0 v_1 v_2 v_3 v_4 v_5 (v_6 + 1) N33 kk0 h
      · refine x_icmp_ge_f (tgt := 40) dX8_append_33 (by decide) c2 ?_
        refine x_iload_n 1 dX8_append_36 rfl rfl ?_
        refine x_goto (tgt := 76) dX8_append_37 (by decide) ?_
        refine x_istore (L' := [(0, .ref p_0), (1, .int v_1), (2, .int v_2), (3, .int v_3), (4, .int v_4), (5, .int v_5), (6, .int v_6), (7, .int v_1)]) [1, 2, 3, 4, 5, 6, 7, 0] dX8_append_76 (by decide) rfl ?_
        refine x_aload_n 0 dX8_append_78 rfl rfl ?_
        obtain ⟨g34, k35, n36⟩ := wt_X8_1 hw kk0
        refine x_getr dX8_append_79 vc_X8 xin8 fb_X8_1 fl_X8_9 xr_X8_1 kk0 g34 ?_
        refine x_aload_n 0 dX8_append_82 rfl rfl ?_
        refine x_geti dX8_append_83 vc_X8 xin8 fb_X8_2 fl_X8_48 xr_X8_2 kk0 ?_
        refine x_iload 7 dX8_append_86 rfl ?_
        refine x_bipush (v := 24) dX8_append_88 rfl ?_
        refine x_bipush (v := 8) dX8_append_90 rfl ?_
        refine x_iload 6 dX8_append_92 rfl ?_
        refine x_iconst (v := 4) dX8_append_94 rfl ?_
        refine x_irem dX8_append_95 (by decide) ?_
        refine x_imul dX8_append_96 ?_
        refine x_isub dX8_append_97 ?_
        refine x_ishr dX8_append_98 ?_
        refine x_sipush (v := 255) dX8_append_99 rfl ?_
        refine x_iand dX8_append_102 ?_
        obtain ⟨c38, h⟩ := x_ck h
        refine x_iast dX8_append_103 k35 (xb_at n36 c38) rfl ?_
        obtain ⟨N39, eN39, h⟩ := x_lt h
        refine x_nmN eN39 ?_
        refine x_aload_n 0 dX8_append_104 rfl rfl ?_
        refine x_dup dX8_append_105 rfl ?_
        refine x_geti dX8_append_106 vc_X8 xin8 fb_X8_2 fl_X8_48 xr_X8_2 kk0 ?_
        refine x_iconst (v := 1) dX8_append_109 rfl ?_
        refine x_iadd dX8_append_110 ?_
        refine x_puti dX8_append_111 vc_X8 xin8 tyX8_ok nmX8 fb_X8_2 fl_X8_48 ff_X8_2 xr_X8_2 (nf_X8_2 _) (ft_X8_2 _) kk0 ?_
        obtain ⟨N40, eN40, h⟩ := x_lt h
        refine x_nmN eN40 ?_
        refine x_iinc (L' := [(0, .ref p_0), (1, .int v_1), (2, .int v_2), (3, .int v_3), (4, .int v_4), (5, .int v_5), (6, .int (v_6 + 1))]) 6 [1, 2, 3, 4, 5, 6, 0] dX8_append_114 rfl rfl (by decide) rfl ?_
        refine x_goto (tgt := 23) dX8_append_117 (by decide) ?_
        exact ih p_0 v_1 v_2 v_3 v_4 v_5 (v_6 + 1) N40 kk0 h
set_option maxHeartbeats 4000000 in
set_option maxRecDepth 100000 in
theorem T_X8_append {G : XG} {Y : XY} (hw : WT Y) {a0 : Nat} {a1 : Int32} {a2 : Int32} {a3 : Int32} {a4 : Int32} {a5 : Int32} {N : XN} (k100 : kc Y a0 = 18) {r9 : Int32} {N9 : XN} (h : f_X8_append Y a0 a1 a2 a3 a4 a5 N = some (r9, N9)) : Cl G yX8_append cX8_append 8 (some .int) (xR 1 0 0) [.ref a0, .int a1, .int a2, .int a3, .int a4, .int a5] (.inl (some (.int r9))) Y N Y N9 := by
  refine x_entry (by decide) (Nat.le_of_ble_eq_true rfl) rfl ?_
  rw [f_X8_append] at h
  refine x_aload_n 0 dX8_append_0 rfl rfl ?_
  refine x_iconst (v := 0) dX8_append_1 rfl ?_
  refine x_puti dX8_append_2 vc_X8 xin8 tyX8_ok nmX8 fb_X8_0 fl_X8_45 ff_X8_0 xr_X8_0 (nf_X8_0 _) (ft_X8_0 _) k100 ?_
  obtain ⟨N1, eN1, h⟩ := x_lt h
  refine x_nmN eN1 ?_
  refine x_aload_n 0 dX8_append_5 rfl rfl ?_
  refine x_geti dX8_append_6 vc_X8 xin8 fb_X8_2 fl_X8_48 xr_X8_2 k100 ?_
  refine x_bipush (v := 20) dX8_append_9 rfl ?_
  refine x_iadd dX8_append_11 ?_
  refine x_sipush (v := 700) dX8_append_12 rfl ?_
  rcases x_if h with ⟨c2, h⟩ | ⟨c2, h⟩
  · refine x_icmp_le_t (tgt := 20) dX8_append_15 (by decide) c2 ?_
    refine x_iconst (v := 0) dX8_append_20 rfl ?_
    refine x_istore (L' := [(0, .ref a0), (1, .int a1), (2, .int a2), (3, .int a3), (4, .int a4), (5, .int a5), (6, .int 0)]) [1, 2, 3, 4, 5, 6, 0] dX8_append_21 (by decide) rfl ?_
    exact T_X8_append_23 (G := G) hw FU a0 a1 a2 a3 a4 a5 0 N1 k100 h
  · refine x_icmp_le_f (tgt := 20) dX8_append_15 (by decide) c2 ?_
    refine x_iconst (v := (-1)) dX8_append_18 rfl ?_
    obtain ⟨rfl, rfl⟩ := Prod.mk.inj (x_so h)
    exact x_iret dX8_append_19 rfl rfl rfl
set_option maxHeartbeats 4000000 in
set_option maxRecDepth 100000 in
theorem T_X8_tenantPlace_11 {G : XG} {Y : XY} (hw : WT Y) {r9 : Int32}: ∀ (D9 : Nat) (p_0 : Nat) (v_2 : Int32) (v_3 : Int32) (v_4 : Int32) (N : XN), kc Y p_0 = 1 → f_X8_tenantPlace_11 Y D9 p_0 v_2 v_3 v_4 N = some r9 → Ex G yX8_tenantPlace cX8_tenantPlace 5 (some .int) (xR 1 0 0) (.inl (some (.int r9))) Y N 0 0 11 [(0, .ref p_0), (2, .int v_2), (3, .int v_3), (4, .int v_4)] [] Y N := by
  intro D9
  induction D9 with
  | zero => intro p_0 v_2 v_3 v_4 N kk0 h; exact nomatch (show none = some _ from h)
  | succ D9 ih =>
    intro p_0 v_2 v_3 v_4 N kk0 h
    rw [f_X8_tenantPlace_11] at h
    refine x_iload 3 dX8_tenantPlace_11 rfl ?_
    refine x_aload_n 0 dX8_tenantPlace_13 rfl rfl ?_
    refine x_iload_n 2 dX8_tenantPlace_14 rfl rfl ?_
    refine x_iconst (v := 3) dX8_tenantPlace_15 rfl ?_
    refine x_iadd dX8_tenantPlace_16 ?_
    obtain ⟨c1, h⟩ := x_ck h
    refine x_iald dX8_tenantPlace_17 kk0 (xb_in c1) rfl ?_
    rcases x_if h with ⟨c2, h⟩ | ⟨c2, h⟩
    · refine x_icmp_ge_t (tgt := 42) dX8_tenantPlace_18 (by decide) c2 ?_
      refine x_iconst (v := (-1)) dX8_tenantPlace_42 rfl ?_
      obtain rfl := x_so h
      exact x_iret dX8_tenantPlace_43 rfl rfl rfl
    · refine x_icmp_ge_f (tgt := 42) dX8_tenantPlace_18 (by decide) c2 ?_
      refine x_aload_n 0 dX8_tenantPlace_21 rfl rfl ?_
      refine x_iload_n 2 dX8_tenantPlace_22 rfl rfl ?_
      refine x_iconst (v := 4) dX8_tenantPlace_23 rfl ?_
      refine x_iadd dX8_tenantPlace_24 ?_
      refine x_iload 3 dX8_tenantPlace_25 rfl ?_
      refine x_iadd dX8_tenantPlace_27 ?_
      obtain ⟨c3, h⟩ := x_ck h
      refine x_iald dX8_tenantPlace_28 kk0 (xb_in c3) rfl ?_
      refine x_iload_n 1 dX8_tenantPlace_29 rfl rfl ?_
      rcases x_if h with ⟨c4, h⟩ | ⟨c4, h⟩
      · refine x_icmp_ne_f (tgt := 36) dX8_tenantPlace_30 (by decide) c4 ?_
        refine x_iload 3 dX8_tenantPlace_33 rfl ?_
        obtain rfl := x_so h
        exact x_iret dX8_tenantPlace_35 rfl rfl rfl
      · refine x_icmp_ne_t (tgt := 36) dX8_tenantPlace_30 (by decide) c4 ?_
        refine x_iinc (L' := [(0, .ref p_0), (2, .int v_2), (3, .int v_3), (4, .int (v_4 + 1))]) 3 [1, 2, 3, 0] dX8_tenantPlace_36 rfl rfl (by decide) rfl ?_
        refine x_goto (tgt := 11) dX8_tenantPlace_39 (by decide) ?_
        exact ih p_0 v_2 v_3 (v_4 + 1) N kk0 h
set_option maxHeartbeats 4000000 in
set_option maxRecDepth 100000 in
theorem T_X8_tenantPlace {G : XG} {Y : XY} (hw : WT Y) {a0 : Nat} {a1 : Int32} {a2 : Int32} {N : XN} (k100 : kc Y a0 = 1) {r9 : Int32} (h : f_X8_tenantPlace Y a0 a1 a2 N = some r9) : Cl G yX8_tenantPlace cX8_tenantPlace 5 (some .int) (xR 1 0 0) [.ref a0, .int a1, .int a2] (.inl (some (.int r9))) Y N Y N := by
  refine x_entry (by decide) (Nat.le_of_ble_eq_true rfl) rfl ?_
  rw [f_X8_tenantPlace] at h
  refine x_bipush (v := 48) dX8_tenantPlace_0 rfl ?_
  refine x_bipush (v := 7) dX8_tenantPlace_2 rfl ?_
  refine x_iload_n 1 dX8_tenantPlace_4 rfl rfl ?_
  refine x_imul dX8_tenantPlace_5 ?_
  refine x_iadd dX8_tenantPlace_6 ?_
  refine x_istore_n (L' := [(0, .ref a0), (2, .int a2), (3, .int (48 + (7 * a1)))]) [1, 3, 0] dX8_tenantPlace_7 rfl (by decide) rfl ?_
  refine x_iconst (v := 0) dX8_tenantPlace_8 rfl ?_
  refine x_istore (L' := [(0, .ref a0), (2, .int a2), (3, .int (48 + (7 * a1))), (4, .int 0)]) [1, 2, 3, 0] dX8_tenantPlace_9 (by decide) rfl ?_
  exact T_X8_tenantPlace_11 (G := G) hw FU a0 a2 (48 + (7 * a1)) 0 N k100 h
set_option maxHeartbeats 4000000 in
set_option maxRecDepth 100000 in
theorem T_X8_putRequest {G : XG} {Y : XY} (hw : WT Y) {a0 : Nat} {a1 : Int32} {a2 : Int32} {a3 : Int32} {N : XN} (k100 : kc Y a0 = 1) {N9 : XN} (h : f_X8_putRequest Y a0 a1 a2 a3 N = some N9) : Cl G yX8_putRequest cX8_putRequest 5 none (xR 1 0 0) [.ref a0, .int a1, .int a2, .int a3] (.inl none) Y N Y N9 := by
  refine x_entry (by decide) (Nat.le_of_ble_eq_true rfl) rfl ?_
  rw [f_X8_putRequest] at h
  refine x_bipush (v := 104) dX8_putRequest_0 rfl ?_
  refine x_bipush (v := 8) dX8_putRequest_2 rfl ?_
  refine x_aload_n 0 dX8_putRequest_4 rfl rfl ?_
  refine x_iconst (v := 3) dX8_putRequest_5 rfl ?_
  obtain ⟨c1, h⟩ := x_ck h
  refine x_iald dX8_putRequest_6 k100 (xb_in c1) rfl ?_
  refine x_imul dX8_putRequest_7 ?_
  refine x_iadd dX8_putRequest_8 ?_
  obtain ⟨v2, ev2, h⟩ := x_lt h
  refine x_nmi ev2 ?_
  refine x_istore (L' := [(0, .ref a0), (1, .int a1), (2, .int a2), (3, .int a3), (4, .int v2)]) [1, 2, 3, 4, 0] dX8_putRequest_9 (by decide) rfl ?_
  refine x_aload_n 0 dX8_putRequest_11 rfl rfl ?_
  refine x_iload 4 dX8_putRequest_12 rfl ?_
  refine x_iconst (v := 0) dX8_putRequest_14 rfl ?_
  refine x_iadd dX8_putRequest_15 ?_
  refine x_iload_n 1 dX8_putRequest_16 rfl rfl ?_
  obtain ⟨c3, h⟩ := x_ck h
  refine x_iast dX8_putRequest_17 k100 (xb_in c3) rfl ?_
  obtain ⟨N4, eN4, h⟩ := x_lt h
  refine x_nmN eN4 ?_
  refine x_aload_n 0 dX8_putRequest_18 rfl rfl ?_
  refine x_iload 4 dX8_putRequest_19 rfl ?_
  refine x_iconst (v := 1) dX8_putRequest_21 rfl ?_
  refine x_iadd dX8_putRequest_22 ?_
  refine x_iload_n 2 dX8_putRequest_23 rfl rfl ?_
  obtain ⟨c5, h⟩ := x_ck h
  refine x_iast dX8_putRequest_24 k100 (xb_in c5) rfl ?_
  obtain ⟨N6, eN6, h⟩ := x_lt h
  refine x_nmN eN6 ?_
  refine x_aload_n 0 dX8_putRequest_25 rfl rfl ?_
  refine x_iload 4 dX8_putRequest_26 rfl ?_
  refine x_iconst (v := 2) dX8_putRequest_28 rfl ?_
  refine x_iadd dX8_putRequest_29 ?_
  refine x_iload_n 3 dX8_putRequest_30 rfl rfl ?_
  obtain ⟨c7, h⟩ := x_ck h
  refine x_iast dX8_putRequest_31 k100 (xb_in c7) rfl ?_
  obtain ⟨N8, eN8, h⟩ := x_lt h
  refine x_nmN eN8 ?_
  refine x_aload_n 0 dX8_putRequest_32 rfl rfl ?_
  refine x_iload 4 dX8_putRequest_33 rfl ?_
  refine x_iconst (v := 3) dX8_putRequest_35 rfl ?_
  refine x_iadd dX8_putRequest_36 ?_
  refine x_iconst (v := 0) dX8_putRequest_37 rfl ?_
  obtain ⟨c9, h⟩ := x_ck h
  refine x_iast dX8_putRequest_38 k100 (xb_in c9) rfl ?_
  obtain ⟨N10, eN10, h⟩ := x_lt h
  refine x_nmN eN10 ?_
  refine x_aload_n 0 dX8_putRequest_39 rfl rfl ?_
  refine x_iload 4 dX8_putRequest_40 rfl ?_
  refine x_iconst (v := 4) dX8_putRequest_42 rfl ?_
  refine x_iadd dX8_putRequest_43 ?_
  refine x_iconst (v := (-1)) dX8_putRequest_44 rfl ?_
  obtain ⟨c11, h⟩ := x_ck h
  refine x_iast dX8_putRequest_45 k100 (xb_in c11) rfl ?_
  obtain ⟨N12, eN12, h⟩ := x_lt h
  refine x_nmN eN12 ?_
  refine x_aload_n 0 dX8_putRequest_46 rfl rfl ?_
  refine x_iload 4 dX8_putRequest_47 rfl ?_
  refine x_iconst (v := 5) dX8_putRequest_49 rfl ?_
  refine x_iadd dX8_putRequest_50 ?_
  refine x_iconst (v := 0) dX8_putRequest_51 rfl ?_
  obtain ⟨c13, h⟩ := x_ck h
  refine x_iast dX8_putRequest_52 k100 (xb_in c13) rfl ?_
  obtain ⟨N14, eN14, h⟩ := x_lt h
  refine x_nmN eN14 ?_
  refine x_aload_n 0 dX8_putRequest_53 rfl rfl ?_
  refine x_iload 4 dX8_putRequest_54 rfl ?_
  refine x_bipush (v := 6) dX8_putRequest_56 rfl ?_
  refine x_iadd dX8_putRequest_58 ?_
  refine x_iconst (v := (-1)) dX8_putRequest_59 rfl ?_
  obtain ⟨c15, h⟩ := x_ck h
  refine x_iast dX8_putRequest_60 k100 (xb_in c15) rfl ?_
  obtain ⟨N16, eN16, h⟩ := x_lt h
  refine x_nmN eN16 ?_
  refine x_aload_n 0 dX8_putRequest_61 rfl rfl ?_
  refine x_iload 4 dX8_putRequest_62 rfl ?_
  refine x_bipush (v := 7) dX8_putRequest_64 rfl ?_
  refine x_iadd dX8_putRequest_66 ?_
  refine x_iconst (v := 0) dX8_putRequest_67 rfl ?_
  obtain ⟨c17, h⟩ := x_ck h
  refine x_iast dX8_putRequest_68 k100 (xb_in c17) rfl ?_
  obtain ⟨N18, eN18, h⟩ := x_lt h
  refine x_nmN eN18 ?_
  refine x_aload_n 0 dX8_putRequest_69 rfl rfl ?_
  refine x_iconst (v := 3) dX8_putRequest_70 rfl ?_
  refine x_dup2 dX8_putRequest_71 rfl rfl ?_
  obtain ⟨c19, h⟩ := x_ck h
  refine x_iald dX8_putRequest_72 k100 (xb_in c19) rfl ?_
  refine x_iconst (v := 1) dX8_putRequest_73 rfl ?_
  refine x_iadd dX8_putRequest_74 ?_
  obtain ⟨c20, h⟩ := x_ck h
  refine x_iast dX8_putRequest_75 k100 (xb_in c20) rfl ?_
  obtain ⟨N21, eN21, h⟩ := x_lt h
  refine x_nmN eN21 ?_
  obtain rfl := x_so h
  exact x_vret dX8_putRequest_76 rfl rfl rfl
set_option maxHeartbeats 4000000 in
set_option maxRecDepth 100000 in
theorem T_X8_errorOffset {G : XG} {Y : XY} (hw : WT Y) {a0 : Nat} {N : XN} (k100 : kc Y a0 = 18) {r9 : Int32} {N9 : XN} (h : f_X8_errorOffset Y a0 N = some (r9, N9)) : Cl G yX8_errorOffset cX8_errorOffset 1 (some .int) (xR 1 0 0) [.ref a0] (.inl (some (.int r9))) Y N Y N9 := by
  refine x_entry (by decide) (Nat.le_of_ble_eq_true rfl) rfl ?_
  rw [f_X8_errorOffset] at h
  refine x_aload_n 0 dX8_errorOffset_0 rfl rfl ?_
  refine x_iconst (v := 0) dX8_errorOffset_1 rfl ?_
  refine x_puti dX8_errorOffset_2 vc_X8 xin8 tyX8_ok nmX8 fb_X8_0 fl_X8_45 ff_X8_0 xr_X8_0 (nf_X8_0 _) (ft_X8_0 _) k100 ?_
  obtain ⟨N1, eN1, h⟩ := x_lt h
  refine x_nmN eN1 ?_
  refine x_aload_n 0 dX8_errorOffset_5 rfl rfl ?_
  refine x_geti dX8_errorOffset_6 vc_X8 xin8 fb_X8_7 fl_X8_13 xr_X8_7 k100 ?_
  obtain ⟨rfl, rfl⟩ := Prod.mk.inj (x_so h)
  exact x_iret dX8_errorOffset_9 rfl rfl rfl
set_option maxHeartbeats 4000000 in
set_option maxRecDepth 100000 in
theorem T_X8_handlerAt {G : XG} {Y : XY} (hw : WT Y) {a0 : Int32} {N : XN}  {r9 : Int32} (h : f_X8_handlerAt Y a0 N = r9) : Cl G yX8_handlerAt cX8_handlerAt 1 (some .int) (xR 1 0 0) [.int a0] (.inl (some (.int r9))) Y N Y N := by
  refine x_entry (by decide) (Nat.le_of_ble_eq_true rfl) rfl ?_
  rw [f_X8_handlerAt] at h
  refine x_bipush (v := 12) dX8_handlerAt_0 rfl ?_
  refine x_bipush (v := 6) dX8_handlerAt_2 rfl ?_
  refine x_iload_n 0 dX8_handlerAt_4 rfl rfl ?_
  refine x_imul dX8_handlerAt_5 ?_
  refine x_iadd dX8_handlerAt_6 ?_
  subst h
  exact x_iret dX8_handlerAt_7 rfl rfl rfl
set_option maxHeartbeats 4000000 in
set_option maxRecDepth 100000 in
theorem T_X8_lineAt {G : XG} {Y : XY} (hw : WT Y) {a0 : Int32} {N : XN}  {r9 : Int32} (h : f_X8_lineAt Y a0 N = r9) : Cl G yX8_lineAt cX8_lineAt 1 (some .int) (xR 1 0 0) [.int a0] (.inl (some (.int r9))) Y N Y N := by
  refine x_entry (by decide) (Nat.le_of_ble_eq_true rfl) rfl ?_
  rw [f_X8_lineAt] at h
  refine x_bipush (v := 48) dX8_lineAt_0 rfl ?_
  refine x_bipush (v := 7) dX8_lineAt_2 rfl ?_
  refine x_iload_n 0 dX8_lineAt_4 rfl rfl ?_
  refine x_imul dX8_lineAt_5 ?_
  refine x_iadd dX8_lineAt_6 ?_
  subst h
  exact x_iret dX8_lineAt_7 rfl rfl rfl
set_option maxHeartbeats 4000000 in
set_option maxRecDepth 100000 in
theorem T_X8_requestAt {G : XG} {Y : XY} (hw : WT Y) {a0 : Int32} {N : XN}  {r9 : Int32} (h : f_X8_requestAt Y a0 N = r9) : Cl G yX8_requestAt cX8_requestAt 1 (some .int) (xR 1 0 0) [.int a0] (.inl (some (.int r9))) Y N Y N := by
  refine x_entry (by decide) (Nat.le_of_ble_eq_true rfl) rfl ?_
  rw [f_X8_requestAt] at h
  refine x_bipush (v := 104) dX8_requestAt_0 rfl ?_
  refine x_bipush (v := 8) dX8_requestAt_2 rfl ?_
  refine x_iload_n 0 dX8_requestAt_4 rfl rfl ?_
  refine x_imul dX8_requestAt_5 ?_
  refine x_iadd dX8_requestAt_6 ?_
  subst h
  exact x_iret dX8_requestAt_7 rfl rfl rfl
set_option maxHeartbeats 4000000 in
set_option maxRecDepth 100000 in
theorem T_X8_ofHandler {G : XG} {Y : XY} (hw : WT Y) {a0 : Nat} {a1 : Int32} {a2 : Int32} {N : XN} (k100 : kc Y a0 = 18) {r9 : Int32} (h : f_X8_ofHandler Y a0 a1 a2 N = some r9) : Cl G yX8_ofHandler cX8_ofHandler 3 (some .int) (xR 2 0 0) [.ref a0, .int a1, .int a2] (.inl (some (.int r9))) Y N Y N := by
  refine x_entry (by decide) (Nat.le_of_ble_eq_true rfl) rfl ?_
  rw [f_X8_ofHandler] at h
  refine x_aload_n 0 dX8_ofHandler_0 rfl rfl ?_
  obtain ⟨g1, k2, n3⟩ := wt_X8_8 hw k100
  refine x_getr dX8_ofHandler_1 vc_X8 xin8 fb_X8_8 fl_X8_17 xr_X8_8 k100 g1 ?_
  refine x_iload_n 1 dX8_ofHandler_4 rfl rfl ?_
  refine x_cs (As := [.int a1]) (d' := 1) (zz := yX8_handlerAt) dX8_ofHandler_5 ml_X8_197 wt_X8_handlerAt wn_X8 wc_X8_handlerAt hp_X8_handlerAt (by decide) (by decide) rfl (Nat.le_of_ble_eq_true rfl) ⟨Nat.zero_le _, Nat.zero_le _⟩ (T_X8_handlerAt (G := G) hw  rfl) ?_
  refine x_iload_n 2 dX8_ofHandler_8 rfl rfl ?_
  refine x_iadd dX8_ofHandler_9 ?_
  obtain ⟨c4, h⟩ := x_ck h
  refine x_iald dX8_ofHandler_10 k2 (xb_at n3 c4) rfl ?_
  obtain rfl := x_so h
  exact x_iret dX8_ofHandler_11 rfl rfl rfl
set_option maxHeartbeats 4000000 in
set_option maxRecDepth 100000 in
theorem T_X8_ofLine {G : XG} {Y : XY} (hw : WT Y) {a0 : Nat} {a1 : Int32} {a2 : Int32} {N : XN} (k100 : kc Y a0 = 18) {r9 : Int32} (h : f_X8_ofLine Y a0 a1 a2 N = some r9) : Cl G yX8_ofLine cX8_ofLine 3 (some .int) (xR 2 0 0) [.ref a0, .int a1, .int a2] (.inl (some (.int r9))) Y N Y N := by
  refine x_entry (by decide) (Nat.le_of_ble_eq_true rfl) rfl ?_
  rw [f_X8_ofLine] at h
  refine x_aload_n 0 dX8_ofLine_0 rfl rfl ?_
  obtain ⟨g1, k2, n3⟩ := wt_X8_8 hw k100
  refine x_getr dX8_ofLine_1 vc_X8 xin8 fb_X8_8 fl_X8_17 xr_X8_8 k100 g1 ?_
  refine x_iload_n 1 dX8_ofLine_4 rfl rfl ?_
  refine x_cs (As := [.int a1]) (d' := 1) (zz := yX8_lineAt) dX8_ofLine_5 ml_X8_200 wt_X8_lineAt wn_X8 wc_X8_lineAt hp_X8_lineAt (by decide) (by decide) rfl (Nat.le_of_ble_eq_true rfl) ⟨Nat.zero_le _, Nat.zero_le _⟩ (T_X8_lineAt (G := G) hw  rfl) ?_
  refine x_iload_n 2 dX8_ofLine_8 rfl rfl ?_
  refine x_iadd dX8_ofLine_9 ?_
  obtain ⟨c4, h⟩ := x_ck h
  refine x_iald dX8_ofLine_10 k2 (xb_at n3 c4) rfl ?_
  obtain rfl := x_so h
  exact x_iret dX8_ofLine_11 rfl rfl rfl
set_option maxHeartbeats 4000000 in
set_option maxRecDepth 100000 in
theorem T_X8_ofRequest {G : XG} {Y : XY} (hw : WT Y) {a0 : Nat} {a1 : Int32} {a2 : Int32} {N : XN} (k100 : kc Y a0 = 18) {r9 : Int32} (h : f_X8_ofRequest Y a0 a1 a2 N = some r9) : Cl G yX8_ofRequest cX8_ofRequest 3 (some .int) (xR 2 0 0) [.ref a0, .int a1, .int a2] (.inl (some (.int r9))) Y N Y N := by
  refine x_entry (by decide) (Nat.le_of_ble_eq_true rfl) rfl ?_
  rw [f_X8_ofRequest] at h
  refine x_aload_n 0 dX8_ofRequest_0 rfl rfl ?_
  obtain ⟨g1, k2, n3⟩ := wt_X8_8 hw k100
  refine x_getr dX8_ofRequest_1 vc_X8 xin8 fb_X8_8 fl_X8_17 xr_X8_8 k100 g1 ?_
  refine x_iload_n 1 dX8_ofRequest_4 rfl rfl ?_
  refine x_cs (As := [.int a1]) (d' := 1) (zz := yX8_requestAt) dX8_ofRequest_5 ml_X8_203 wt_X8_requestAt wn_X8 wc_X8_requestAt hp_X8_requestAt (by decide) (by decide) rfl (Nat.le_of_ble_eq_true rfl) ⟨Nat.zero_le _, Nat.zero_le _⟩ (T_X8_requestAt (G := G) hw  rfl) ?_
  refine x_iload_n 2 dX8_ofRequest_8 rfl rfl ?_
  refine x_iadd dX8_ofRequest_9 ?_
  obtain ⟨c4, h⟩ := x_ck h
  refine x_iald dX8_ofRequest_10 k2 (xb_at n3 c4) rfl ?_
  obtain rfl := x_so h
  exact x_iret dX8_ofRequest_11 rfl rfl rfl
set_option maxHeartbeats 4000000 in
set_option maxRecDepth 100000 in
theorem T_X8_isOpen {G : XG} {Y : XY} (hw : WT Y) {a0 : Nat} {a1 : Int32} {N : XN} (k100 : kc Y a0 = 18) {r9 : Int32} (h : f_X8_isOpen Y a0 a1 N = some r9) : Cl G yX8_isOpen cX8_isOpen 2 (some .boolean) (xR 3 0 0) [.ref a0, .int a1] (.inl (some (.int r9))) Y N Y N := by
  refine x_entry (by decide) (Nat.le_of_ble_eq_true rfl) rfl ?_
  rw [f_X8_isOpen] at h
  refine x_aload_n 0 dX8_isOpen_0 rfl rfl ?_
  refine x_iload_n 1 dX8_isOpen_1 rfl rfl ?_
  refine x_iconst (v := 3) dX8_isOpen_2 rfl ?_
  obtain ⟨r2, q1, h⟩ := x_bd1 h
  refine x_cv (b := a0) (As := [.int a1, .int 3]) (ci := 8) (d' := 2) (zz := yX8_ofRequest) dX8_isOpen_3 ml_X8_206 wi_X8_ofRequest wv_X8_ofRequest wn_X8 wc_X8_ofRequest hp_X8_ofRequest (by decide) (by decide) rfl (Nat.le_of_ble_eq_true rfl) ⟨Nat.zero_le _, Nat.zero_le _⟩ rfl k100 (T_X8_ofRequest (G := G) hw k100 q1) ?_
  refine x_iconst (v := 1) dX8_isOpen_6 rfl ?_
  rcases x_if h with ⟨c3, h⟩ | ⟨c3, h⟩
  · refine x_icmp_ne_f (tgt := 14) dX8_isOpen_7 (by decide) c3 ?_
    refine x_iconst (v := 1) dX8_isOpen_10 rfl ?_
    refine x_goto (tgt := 15) dX8_isOpen_11 (by decide) ?_
    obtain rfl := x_so h
    exact x_zret dX8_isOpen_15 rfl (by decide) rfl rfl
  · refine x_icmp_ne_t (tgt := 14) dX8_isOpen_7 (by decide) c3 ?_
    refine x_iconst (v := 0) dX8_isOpen_14 rfl ?_
    obtain rfl := x_so h
    exact x_zret dX8_isOpen_15 rfl (by decide) rfl rfl
set_option maxHeartbeats 4000000 in
set_option maxRecDepth 100000 in
theorem T_X8_holds {G : XG} {Y : XY} (hw : WT Y) {a0 : Nat} {a1 : Int32} {a2 : Int32} {N : XN} (k100 : kc Y a0 = 18) {r9 : Int32} (h : f_X8_holds Y a0 a1 a2 N = some r9) : Cl G yX8_holds cX8_holds 3 (some .boolean) (xR 4 0 0) [.ref a0, .int a1, .int a2] (.inl (some (.int r9))) Y N Y N := by
  refine x_entry (by decide) (Nat.le_of_ble_eq_true rfl) rfl ?_
  rw [f_X8_holds] at h
  refine x_aload_n 0 dX8_holds_0 rfl rfl ?_
  refine x_iload_n 2 dX8_holds_1 rfl rfl ?_
  obtain ⟨r2, q1, h⟩ := x_bd1 h
  refine x_cv (b := a0) (As := [.int a2]) (ci := 8) (d' := 3) (zz := yX8_isOpen) dX8_holds_2 ml_X8_209 wi_X8_isOpen wv_X8_isOpen wn_X8 wc_X8_isOpen hp_X8_isOpen (by decide) (by decide) rfl (Nat.le_of_ble_eq_true rfl) ⟨Nat.zero_le _, Nat.zero_le _⟩ rfl k100 (T_X8_isOpen (G := G) hw k100 q1) ?_
  rcases x_if h with ⟨c3, h⟩ | ⟨c3, h⟩
  · refine x_if_eq_t (tgt := 22) dX8_holds_5 (by decide) c3 ?_
    refine x_iconst (v := 0) dX8_holds_22 rfl ?_
    obtain rfl := x_so h
    exact x_zret dX8_holds_23 rfl (by decide) rfl rfl
  · refine x_if_eq_f (tgt := 22) dX8_holds_5 (by decide) c3 ?_
    refine x_aload_n 0 dX8_holds_8 rfl rfl ?_
    refine x_iload_n 2 dX8_holds_9 rfl rfl ?_
    refine x_iconst (v := 4) dX8_holds_10 rfl ?_
    obtain ⟨r5, q4, h⟩ := x_bd1 h
    refine x_cv (b := a0) (As := [.int a2, .int 4]) (ci := 8) (d' := 2) (zz := yX8_ofRequest) dX8_holds_11 ml_X8_206 wi_X8_ofRequest wv_X8_ofRequest wn_X8 wc_X8_ofRequest hp_X8_ofRequest (by decide) (by decide) rfl (Nat.le_of_ble_eq_true rfl) ⟨Nat.zero_le _, Nat.zero_le _⟩ rfl k100 (T_X8_ofRequest (G := G) hw k100 q4) ?_
    refine x_iload_n 1 dX8_holds_14 rfl rfl ?_
    rcases x_if h with ⟨c6, h⟩ | ⟨c6, h⟩
    · refine x_icmp_ne_f (tgt := 22) dX8_holds_15 (by decide) c6 ?_
      refine x_iconst (v := 1) dX8_holds_18 rfl ?_
      refine x_goto (tgt := 23) dX8_holds_19 (by decide) ?_
      obtain rfl := x_so h
      exact x_zret dX8_holds_23 rfl (by decide) rfl rfl
    · refine x_icmp_ne_t (tgt := 22) dX8_holds_15 (by decide) c6 ?_
      refine x_iconst (v := 0) dX8_holds_22 rfl ?_
      obtain rfl := x_so h
      exact x_zret dX8_holds_23 rfl (by decide) rfl rfl
set_option maxHeartbeats 4000000 in
set_option maxRecDepth 100000 in
theorem T_X8_heldBy_4 {G : XG} {Y : XY} (hw : WT Y) {r9 : Int32}: ∀ (D9 : Nat) (p_0 : Nat) (v_1 : Int32) (v_2 : Int32) (v_3 : Int32) (N : XN), kc Y p_0 = 18 → f_X8_heldBy_4 Y D9 p_0 v_1 v_2 v_3 N = some r9 → Ex G yX8_heldBy cX8_heldBy 4 (some .int) (xR 5 0 0) (.inl (some (.int r9))) Y N 0 0 4 [(0, .ref p_0), (1, .int v_1), (2, .int v_2), (3, .int v_3)] [] Y N := by
  intro D9
  induction D9 with
  | zero => intro p_0 v_1 v_2 v_3 N kk0 h; exact nomatch (show none = some _ from h)
  | succ D9 ih =>
    intro p_0 v_1 v_2 v_3 N kk0 h
    rw [f_X8_heldBy_4] at h
    refine x_iload_n 3 dX8_heldBy_4 rfl rfl ?_
    refine x_aload_n 0 dX8_heldBy_5 rfl rfl ?_
    obtain ⟨g1, k2, n3⟩ := wt_X8_8 hw kk0
    refine x_getr dX8_heldBy_6 vc_X8 xin8 fb_X8_8 fl_X8_17 xr_X8_8 kk0 g1 ?_
    refine x_iconst (v := 3) dX8_heldBy_9 rfl ?_
    refine x_iald dX8_heldBy_10 k2 (xb_at n3 xbl_3_1784) xl_3 ?_
    rcases x_if h with ⟨c4, h⟩ | ⟨c4, h⟩
    · refine x_icmp_ge_t (tgt := 37) dX8_heldBy_11 (by decide) c4 ?_
      refine x_iload_n 2 dX8_heldBy_37 rfl rfl ?_
      obtain rfl := x_so h
      exact x_iret dX8_heldBy_38 rfl rfl rfl
    · refine x_icmp_ge_f (tgt := 37) dX8_heldBy_11 (by decide) c4 ?_
      refine x_iload_n 2 dX8_heldBy_14 rfl rfl ?_
      refine x_aload_n 0 dX8_heldBy_15 rfl rfl ?_
      refine x_iload_n 1 dX8_heldBy_16 rfl rfl ?_
      refine x_iload_n 3 dX8_heldBy_17 rfl rfl ?_
      obtain ⟨r6, q5, h⟩ := x_bd1 h
      refine x_cv (b := p_0) (As := [.int v_1, .int v_3]) (ci := 8) (d' := 4) (zz := yX8_holds) dX8_heldBy_18 ml_X8_212 wi_X8_holds wv_X8_holds wn_X8 wc_X8_holds hp_X8_holds (by decide) (by decide) rfl (Nat.le_of_ble_eq_true rfl) ⟨Nat.zero_le _, Nat.zero_le _⟩ rfl kk0 (T_X8_holds (G := G) hw kk0 q5) ?_
      rcases x_if h with ⟨c7, h⟩ | ⟨c7, h⟩
      · refine x_if_eq_t (tgt := 28) dX8_heldBy_21 (by decide) c7 ?_
        refine x_iconst (v := 0) dX8_heldBy_28 rfl ?_
        refine x_iadd dX8_heldBy_29 ?_
        refine x_istore_n (L' := [(0, .ref p_0), (1, .int v_1), (2, .int (v_2 + 0)), (3, .int v_3)]) [1, 2, 0, 3] dX8_heldBy_30 rfl (by decide) rfl ?_
        refine x_iinc (L' := [(0, .ref p_0), (1, .int v_1), (2, .int (v_2 + 0)), (3, .int (v_3 + 1))]) 3 [1, 2, 3, 0] dX8_heldBy_31 rfl rfl (by decide) rfl ?_
        refine x_goto (tgt := 4) dX8_heldBy_34 (by decide) ?_
        exact ih p_0 v_1 (v_2 + 0) (v_3 + 1) N kk0 h
      · refine x_if_eq_f (tgt := 28) dX8_heldBy_21 (by decide) c7 ?_
        refine x_iconst (v := 1) dX8_heldBy_24 rfl ?_
        refine x_goto (tgt := 29) dX8_heldBy_25 (by decide) ?_
        refine x_iadd dX8_heldBy_29 ?_
        refine x_istore_n (L' := [(0, .ref p_0), (1, .int v_1), (2, .int (v_2 + 1)), (3, .int v_3)]) [1, 2, 0, 3] dX8_heldBy_30 rfl (by decide) rfl ?_
        refine x_iinc (L' := [(0, .ref p_0), (1, .int v_1), (2, .int (v_2 + 1)), (3, .int (v_3 + 1))]) 3 [1, 2, 3, 0] dX8_heldBy_31 rfl rfl (by decide) rfl ?_
        refine x_goto (tgt := 4) dX8_heldBy_34 (by decide) ?_
        exact ih p_0 v_1 (v_2 + 1) (v_3 + 1) N kk0 h
set_option maxHeartbeats 4000000 in
set_option maxRecDepth 100000 in
theorem T_X8_heldBy {G : XG} {Y : XY} (hw : WT Y) {a0 : Nat} {a1 : Int32} {N : XN} (k100 : kc Y a0 = 18) {r9 : Int32} (h : f_X8_heldBy Y a0 a1 N = some r9) : Cl G yX8_heldBy cX8_heldBy 4 (some .int) (xR 5 0 0) [.ref a0, .int a1] (.inl (some (.int r9))) Y N Y N := by
  refine x_entry (by decide) (Nat.le_of_ble_eq_true rfl) rfl ?_
  rw [f_X8_heldBy] at h
  refine x_iconst (v := 0) dX8_heldBy_0 rfl ?_
  refine x_istore_n (L' := [(0, .ref a0), (1, .int a1), (2, .int 0)]) [1, 2, 0] dX8_heldBy_1 rfl (by decide) rfl ?_
  refine x_iconst (v := 0) dX8_heldBy_2 rfl ?_
  refine x_istore_n (L' := [(0, .ref a0), (1, .int a1), (2, .int 0), (3, .int 0)]) [1, 2, 3, 0] dX8_heldBy_3 rfl (by decide) rfl ?_
  exact T_X8_heldBy_4 (G := G) hw FU a0 a1 0 0 N k100 h
set_option maxHeartbeats 4000000 in
set_option maxRecDepth 100000 in
theorem T_X8_isTenant {G : XG} {Y : XY} (hw : WT Y) {a0 : Nat} {a1 : Int32} {a2 : Int32} {N : XN} (k100 : kc Y a0 = 18) {r9 : Int32} (h : f_X8_isTenant Y a0 a1 a2 N = some r9) : Cl G yX8_isTenant cX8_isTenant 3 (some .boolean) (xR 2 0 0) [.ref a0, .int a1, .int a2] (.inl (some (.int r9))) Y N Y N := by
  refine x_entry (by decide) (Nat.le_of_ble_eq_true rfl) rfl ?_
  rw [f_X8_isTenant] at h
  refine x_aload_n 0 dX8_isTenant_0 rfl rfl ?_
  obtain ⟨g1, k2, n3⟩ := wt_X8_8 hw k100
  refine x_getr dX8_isTenant_1 vc_X8 xin8 fb_X8_8 fl_X8_17 xr_X8_8 k100 g1 ?_
  refine x_iload_n 2 dX8_isTenant_4 rfl rfl ?_
  refine x_iload_n 1 dX8_isTenant_5 rfl rfl ?_
  obtain ⟨r5, q4, h⟩ := x_bd1 h
  refine x_cs (As := [.ref (gp Y a0 8), .int a2, .int a1]) (d' := 1) (zz := yX8_tenantPlace) dX8_isTenant_6 ml_X8_141 wt_X8_tenantPlace wn_X8 wc_X8_tenantPlace hp_X8_tenantPlace (by decide) (by decide) rfl (Nat.le_of_ble_eq_true rfl) ⟨Nat.zero_le _, Nat.zero_le _⟩ (T_X8_tenantPlace (G := G) hw k2 q4) ?_
  refine x_iconst (v := (-1)) dX8_isTenant_9 rfl ?_
  rcases x_if h with ⟨c6, h⟩ | ⟨c6, h⟩
  · refine x_icmp_eq_t (tgt := 17) dX8_isTenant_10 (by decide) c6 ?_
    refine x_iconst (v := 0) dX8_isTenant_17 rfl ?_
    obtain rfl := x_so h
    exact x_zret dX8_isTenant_18 rfl (by decide) rfl rfl
  · refine x_icmp_eq_f (tgt := 17) dX8_isTenant_10 (by decide) c6 ?_
    refine x_iconst (v := 1) dX8_isTenant_13 rfl ?_
    refine x_goto (tgt := 18) dX8_isTenant_14 (by decide) ?_
    obtain rfl := x_so h
    exact x_zret dX8_isTenant_18 rfl (by decide) rfl rfl
set_option maxHeartbeats 4000000 in
set_option maxRecDepth 100000 in
theorem T_X8_leave_38 {G : XG} {Y : XY} (hw : WT Y) {N9 : XN}: ∀ (D9 : Nat) (p_0 : Nat) (v_4 : Int32) (v_5 : Int32) (N : XN), kc Y p_0 = 18 → f_X8_leave_38 Y D9 p_0 v_4 v_5 N = some N9 → Ex G yX8_leave cX8_leave 6 none (xR 2 0 0) (.inl none) Y N9 0 0 38 [(0, .ref p_0), (4, .int v_4), (5, .int v_5)] [] Y N := by
  intro D9
  induction D9 with
  | zero => intro p_0 v_4 v_5 N kk0 h; exact nomatch (show none = some _ from h)
  | succ D9 ih =>
    intro p_0 v_4 v_5 N kk0 h
    rw [f_X8_leave_38] at h
    refine x_iload 2 dX8_leave_38 rfl ?_
    refine x_aload_n 0 dX8_leave_40 rfl rfl ?_
    obtain ⟨g1, k2, n3⟩ := wt_X8_8 hw kk0
    refine x_getr dX8_leave_41 vc_X8 xin8 fb_X8_8 fl_X8_17 xr_X8_8 kk0 g1 ?_
    refine x_iload 1 dX8_leave_44 rfl ?_
    refine x_iconst (v := 3) dX8_leave_46 rfl ?_
    refine x_iadd dX8_leave_47 ?_
    obtain ⟨c4, h⟩ := x_ck h
    refine x_iald dX8_leave_48 k2 (xb_at n3 c4) rfl ?_
    rcases x_if h with ⟨c5, h⟩ | ⟨c5, h⟩
    · refine x_icmp_ge_t (tgt := 84) dX8_leave_49 (by decide) c5 ?_
      obtain rfl := x_so h
      exact x_vret dX8_leave_84 rfl rfl rfl
    · refine x_icmp_ge_f (tgt := 84) dX8_leave_49 (by decide) c5 ?_
      refine x_aload_n 0 dX8_leave_52 rfl rfl ?_
      refine x_getr dX8_leave_53 vc_X8 xin8 fb_X8_8 fl_X8_17 xr_X8_8 kk0 g1 ?_
      refine x_iload 1 dX8_leave_56 rfl ?_
      refine x_iconst (v := 4) dX8_leave_58 rfl ?_
      refine x_iadd dX8_leave_59 ?_
      refine x_iload 2 dX8_leave_60 rfl ?_
      refine x_iadd dX8_leave_62 ?_
      refine x_aload_n 0 dX8_leave_63 rfl rfl ?_
      refine x_getr dX8_leave_64 vc_X8 xin8 fb_X8_8 fl_X8_17 xr_X8_8 kk0 g1 ?_
      refine x_iload 1 dX8_leave_67 rfl ?_
      refine x_iconst (v := 4) dX8_leave_69 rfl ?_
      refine x_iadd dX8_leave_70 ?_
      refine x_iload 2 dX8_leave_71 rfl ?_
      refine x_iadd dX8_leave_73 ?_
      refine x_iconst (v := 1) dX8_leave_74 rfl ?_
      refine x_iadd dX8_leave_75 ?_
      obtain ⟨c6, h⟩ := x_ck h
      refine x_iald dX8_leave_76 k2 (xb_at n3 c6) rfl ?_
      obtain ⟨c7, h⟩ := x_ck h
      refine x_iast dX8_leave_77 k2 (xb_at n3 c7) rfl ?_
      obtain ⟨N8, eN8, h⟩ := x_lt h
      refine x_nmN eN8 ?_
      refine x_iinc (L' := [(0, .ref p_0), (4, .int v_4), (5, .int (v_5 + 1))]) 2 [1, 2, 0] dX8_leave_78 rfl rfl (by decide) rfl ?_
      refine x_goto (tgt := 38) dX8_leave_81 (by decide) ?_
      exact ih p_0 v_4 (v_5 + 1) N8 kk0 h
set_option maxHeartbeats 4000000 in
set_option maxRecDepth 100000 in
theorem T_X8_leave {G : XG} {Y : XY} (hw : WT Y) {a0 : Nat} {a1 : Int32} {a2 : Int32} {N : XN} (k100 : kc Y a0 = 18) {N9 : XN} (h : f_X8_leave Y a0 a1 a2 N = some N9) : Cl G yX8_leave cX8_leave 6 none (xR 2 0 0) [.ref a0, .int a1, .int a2] (.inl none) Y N Y N9 := by
  refine x_entry (by decide) (Nat.le_of_ble_eq_true rfl) rfl ?_
  rw [f_X8_leave] at h
  refine x_aload_n 0 dX8_leave_0 rfl rfl ?_
  obtain ⟨g1, k2, n3⟩ := wt_X8_8 hw k100
  refine x_getr dX8_leave_1 vc_X8 xin8 fb_X8_8 fl_X8_17 xr_X8_8 k100 g1 ?_
  refine x_iload_n 2 dX8_leave_4 rfl rfl ?_
  refine x_iload_n 1 dX8_leave_5 rfl rfl ?_
  obtain ⟨r5, q4, h⟩ := x_bd1 h
  refine x_cs (As := [.ref (gp Y a0 8), .int a2, .int a1]) (d' := 1) (zz := yX8_tenantPlace) dX8_leave_6 ml_X8_141 wt_X8_tenantPlace wn_X8 wc_X8_tenantPlace hp_X8_tenantPlace (by decide) (by decide) rfl (Nat.le_of_ble_eq_true rfl) ⟨Nat.zero_le _, Nat.zero_le _⟩ (T_X8_tenantPlace (G := G) hw k2 q4) ?_
  refine x_istore_n (L' := [(0, .ref a0), (2, .int a2), (3, .int r5)]) [1, 3, 0] dX8_leave_9 rfl (by decide) rfl ?_
  refine x_iload_n 1 dX8_leave_10 rfl rfl ?_
  refine x_cs (As := [.int a2]) (d' := 1) (zz := yX8_lineAt) dX8_leave_11 ml_X8_200 wt_X8_lineAt wn_X8 wc_X8_lineAt hp_X8_lineAt (by decide) (by decide) rfl (Nat.le_of_ble_eq_true rfl) ⟨Nat.zero_le _, Nat.zero_le _⟩ (T_X8_lineAt (G := G) hw  rfl) ?_
  refine x_istore (L' := [(0, .ref a0), (3, .int r5), (4, .int (f_X8_lineAt Y a2 N))]) [1, 3, 0] dX8_leave_14 (by decide) rfl ?_
  refine x_iload_n 1 dX8_leave_16 rfl rfl ?_
  refine x_iconst (v := (-1)) dX8_leave_17 rfl ?_
  rcases x_if h with ⟨c6, h⟩ | ⟨c6, h⟩
  · refine x_icmp_ne_f (tgt := 22) dX8_leave_18 (by decide) c6 ?_
    obtain rfl := x_so h
    exact x_vret dX8_leave_21 rfl rfl rfl
  · refine x_icmp_ne_t (tgt := 22) dX8_leave_18 (by decide) c6 ?_
    refine x_aload_n 0 dX8_leave_22 rfl rfl ?_
    refine x_getr dX8_leave_23 vc_X8 xin8 fb_X8_8 fl_X8_17 xr_X8_8 k100 g1 ?_
    refine x_iload 2 dX8_leave_26 rfl ?_
    refine x_iconst (v := 3) dX8_leave_28 rfl ?_
    refine x_iadd dX8_leave_29 ?_
    refine x_dup2 dX8_leave_30 rfl rfl ?_
    obtain ⟨c7, h⟩ := x_ck h
    refine x_iald dX8_leave_31 k2 (xb_at n3 c7) rfl ?_
    refine x_iconst (v := 1) dX8_leave_32 rfl ?_
    refine x_isub dX8_leave_33 ?_
    obtain ⟨c8, h⟩ := x_ck h
    refine x_iast dX8_leave_34 k2 (xb_at n3 c8) rfl ?_
    obtain ⟨N9, eN9, h⟩ := x_lt h
    refine x_nmN eN9 ?_
    refine x_iload_n 1 dX8_leave_35 rfl rfl ?_
    refine x_istore (L' := [(0, .ref a0), (4, .int (f_X8_lineAt Y a2 N)), (5, .int r5)]) [1, 3, 0] dX8_leave_36 (by decide) rfl ?_
    exact T_X8_leave_38 (G := G) hw FU a0 (f_X8_lineAt Y a2 N) r5 N9 k100 h
set_option maxHeartbeats 4000000 in
set_option maxRecDepth 100000 in
theorem T_X8_assign_35 {G : XG} {Y : XY} (hw : WT Y) {N9 : XN}: ∀ (D9 : Nat) (p_0 : Nat) (v_2 : Int32) (v_3 : Int32) (v_4 : Int32) (v_5 : Int32) (v_6 : Int32) (N : XN), kc Y p_0 = 18 → f_X8_assign_35 Y D9 p_0 v_2 v_3 v_4 v_5 v_6 N = some N9 → Ex G yX8_assign cX8_assign 9 none (xR 6 0 0) (.inl none) Y N9 0 0 35 [(0, .ref p_0), (2, .int v_2), (3, .int v_3), (4, .int v_4), (5, .int v_5), (6, .int v_6)] [] Y N := by
  intro D9
  induction D9 with
  | zero => intro p_0 v_2 v_3 v_4 v_5 v_6 N kk0 h; exact nomatch (show none = some _ from h)
  | succ D9 ih =>
    intro p_0 v_2 v_3 v_4 v_5 v_6 N kk0 h
    rw [f_X8_assign_35] at h
    refine x_iload 5 dX8_assign_35 rfl ?_
    refine x_aload_n 0 dX8_assign_37 rfl rfl ?_
    obtain ⟨g1, k2, n3⟩ := wt_X8_8 hw kk0
    refine x_getr dX8_assign_38 vc_X8 xin8 fb_X8_8 fl_X8_17 xr_X8_8 kk0 g1 ?_
    refine x_iload_n 2 dX8_assign_41 rfl rfl ?_
    refine x_iconst (v := 3) dX8_assign_42 rfl ?_
    refine x_iadd dX8_assign_43 ?_
    obtain ⟨c4, h⟩ := x_ck h
    refine x_iald dX8_assign_44 k2 (xb_at n3 c4) rfl ?_
    rcases x_if h with ⟨c5, h⟩ | ⟨c5, h⟩
    · refine x_icmp_ge_t (tgt := 99) dX8_assign_45 (by decide) c5 ?_
      refine x_aload_n 0 dX8_assign_99 rfl rfl ?_
      refine x_getr dX8_assign_100 vc_X8 xin8 fb_X8_8 fl_X8_17 xr_X8_8 kk0 g1 ?_
      refine x_iload_n 1 dX8_assign_103 rfl rfl ?_
      refine x_iconst (v := 4) dX8_assign_104 rfl ?_
      refine x_iadd dX8_assign_105 ?_
      refine x_iload 3 dX8_assign_106 rfl ?_
      obtain ⟨c6, h⟩ := x_ck h
      refine x_iast dX8_assign_108 k2 (xb_at n3 c6) rfl ?_
      obtain ⟨N7, eN7, h⟩ := x_lt h
      refine x_nmN eN7 ?_
      refine x_aload_n 0 dX8_assign_109 rfl rfl ?_
      refine x_getr dX8_assign_110 vc_X8 xin8 fb_X8_8 fl_X8_17 xr_X8_8 kk0 g1 ?_
      refine x_iload_n 1 dX8_assign_113 rfl rfl ?_
      refine x_bipush (v := 7) dX8_assign_114 rfl ?_
      refine x_iadd dX8_assign_116 ?_
      refine x_aload_n 0 dX8_assign_117 rfl rfl ?_
      refine x_getr dX8_assign_118 vc_X8 xin8 fb_X8_8 fl_X8_17 xr_X8_8 kk0 g1 ?_
      refine x_iconst (v := 0) dX8_assign_121 rfl ?_
      refine x_iald dX8_assign_122 k2 (xb_at n3 xbl_0_1784) xl_0 ?_
      obtain ⟨c8, h⟩ := x_ck h
      refine x_iast dX8_assign_123 k2 (xb_at n3 c8) rfl ?_
      obtain ⟨N9, eN9, h⟩ := x_lt h
      refine x_nmN eN9 ?_
      obtain rfl := x_so h
      exact x_vret dX8_assign_124 rfl rfl rfl
    · refine x_icmp_ge_f (tgt := 99) dX8_assign_45 (by decide) c5 ?_
      refine x_aload_n 0 dX8_assign_48 rfl rfl ?_
      refine x_getr dX8_assign_49 vc_X8 xin8 fb_X8_8 fl_X8_17 xr_X8_8 kk0 g1 ?_
      refine x_iload_n 2 dX8_assign_52 rfl rfl ?_
      refine x_iconst (v := 4) dX8_assign_53 rfl ?_
      refine x_iadd dX8_assign_54 ?_
      refine x_iload 5 dX8_assign_55 rfl ?_
      refine x_iadd dX8_assign_57 ?_
      obtain ⟨c10, h⟩ := x_ck h
      refine x_iald dX8_assign_58 k2 (xb_at n3 c10) rfl ?_
      obtain ⟨v11, ev11, h⟩ := x_lt h
      refine x_nmi ev11 ?_
      refine x_istore (L' := [(0, .ref p_0), (2, .int v_2), (3, .int v_3), (4, .int v_4), (5, .int v_5), (6, .int v_6), (7, .int v11)]) [1, 2, 3, 4, 5, 6, 0] dX8_assign_59 (by decide) rfl ?_
      refine x_aload_n 0 dX8_assign_61 rfl rfl ?_
      refine x_iload 6 dX8_assign_62 rfl ?_
      obtain ⟨r13, q12, h⟩ := x_bd1 h
      refine x_cv (b := p_0) (As := [.int v11]) (ci := 8) (d' := 5) (zz := yX8_heldBy) dX8_assign_64 ml_X8_216 wi_X8_heldBy wv_X8_heldBy wn_X8 wc_X8_heldBy hp_X8_heldBy (by decide) (by decide) rfl (Nat.le_of_ble_eq_true rfl) ⟨Nat.zero_le _, Nat.zero_le _⟩ rfl kk0 (T_X8_heldBy (G := G) hw kk0 q12) ?_
      refine x_istore (L' := [(0, .ref p_0), (2, .int v_2), (3, .int v_3), (4, .int v_4), (5, .int v_5), (6, .int v_6), (7, .int v11), (8, .int r13)]) [1, 2, 3, 4, 5, 6, 7, 0] dX8_assign_67 (by decide) rfl ?_
      refine x_iload 3 dX8_assign_69 rfl ?_
      refine x_iconst (v := (-1)) dX8_assign_71 rfl ?_
      rcases x_if h with ⟨c14, h⟩ | ⟨c14, h⟩
      · refine x_icmp_eq_t (tgt := 85) dX8_assign_72 (by decide) c14 ?_
        refine x_iload 6 dX8_assign_85 rfl ?_
        refine x_istore (L' := [(0, .ref p_0), (2, .int v_2), (3, .int v_3), (4, .int v11), (6, .int v_6), (8, .int r13)]) [1, 2, 3, 0, 5, 7] dX8_assign_87 (by decide) rfl ?_
        refine x_iload 5 dX8_assign_89 rfl ?_
        refine x_istore (L' := [(0, .ref p_0), (2, .int v_2), (3, .int v_3), (4, .int v11), (5, .int r13), (6, .int v_6)]) [1, 2, 3, 4, 0, 5] dX8_assign_91 (by decide) rfl ?_
        refine x_iinc (L' := [(0, .ref p_0), (2, .int v_2), (3, .int v_3), (4, .int v11), (5, .int r13), (6, .int (v_6 + 1))]) 5 [1, 2, 3, 4, 5, 0] dX8_assign_93 rfl rfl (by decide) rfl ?_
        refine x_goto (tgt := 35) dX8_assign_96 (by decide) ?_
        exact ih p_0 v_2 v_3 v11 r13 (v_6 + 1) N kk0 h
      · refine x_icmp_eq_f (tgt := 85) dX8_assign_72 (by decide) c14 ?_
        refine x_iload 7 dX8_assign_75 rfl ?_
        refine x_iload 4 dX8_assign_77 rfl ?_
        rcases x_if h with ⟨c15, h⟩ | ⟨c15, h⟩
        · refine x_icmp_lt_t (tgt := 85) dX8_assign_79 (by decide) c15 ?_
          refine x_iload 6 dX8_assign_85 rfl ?_
          refine x_istore (L' := [(0, .ref p_0), (2, .int v_2), (3, .int v_3), (4, .int v11), (6, .int v_6), (8, .int r13)]) [1, 2, 3, 0, 5, 7] dX8_assign_87 (by decide) rfl ?_
          refine x_iload 5 dX8_assign_89 rfl ?_
          refine x_istore (L' := [(0, .ref p_0), (2, .int v_2), (3, .int v_3), (4, .int v11), (5, .int r13), (6, .int v_6)]) [1, 2, 3, 4, 0, 5] dX8_assign_91 (by decide) rfl ?_
          refine x_iinc (L' := [(0, .ref p_0), (2, .int v_2), (3, .int v_3), (4, .int v11), (5, .int r13), (6, .int (v_6 + 1))]) 5 [1, 2, 3, 4, 5, 0] dX8_assign_93 rfl rfl (by decide) rfl ?_
          refine x_goto (tgt := 35) dX8_assign_96 (by decide) ?_
          exact ih p_0 v_2 v_3 v11 r13 (v_6 + 1) N kk0 h
        · refine x_icmp_lt_f (tgt := 85) dX8_assign_79 (by decide) c15 ?_
          refine x_goto (tgt := 93) dX8_assign_82 (by decide) ?_
          refine x_iinc (L' := [(0, .ref p_0), (2, .int v_2), (3, .int v_3), (4, .int v_4), (5, .int v_5), (6, .int (v_6 + 1))]) 5 [1, 2, 3, 4, 5, 0] dX8_assign_93 rfl rfl (by decide) rfl ?_
          refine x_goto (tgt := 35) dX8_assign_96 (by decide) ?_
          exact ih p_0 v_2 v_3 v_4 v_5 (v_6 + 1) N kk0 h
set_option maxHeartbeats 4000000 in
set_option maxRecDepth 100000 in
theorem T_X8_assign {G : XG} {Y : XY} (hw : WT Y) {a0 : Nat} {a1 : Int32} {N : XN} (k100 : kc Y a0 = 18) {N9 : XN} (h : f_X8_assign Y a0 a1 N = some N9) : Cl G yX8_assign cX8_assign 9 none (xR 6 0 0) [.ref a0, .int a1] (.inl none) Y N Y N9 := by
  refine x_entry (by decide) (Nat.le_of_ble_eq_true rfl) rfl ?_
  rw [f_X8_assign] at h
  refine x_iload_n 1 dX8_assign_0 rfl rfl ?_
  refine x_cs (As := [.int a1]) (d' := 1) (zz := yX8_requestAt) dX8_assign_1 ml_X8_203 wt_X8_requestAt wn_X8 wc_X8_requestAt hp_X8_requestAt (by decide) (by decide) rfl (Nat.le_of_ble_eq_true rfl) ⟨Nat.zero_le _, Nat.zero_le _⟩ (T_X8_requestAt (G := G) hw  rfl) ?_
  refine x_istore_n (L' := [(0, .ref a0), (2, .int (f_X8_requestAt Y a1 N))]) [1, 0] dX8_assign_4 rfl (by decide) rfl ?_
  refine x_aload_n 0 dX8_assign_5 rfl rfl ?_
  obtain ⟨g1, k2, n3⟩ := wt_X8_8 hw k100
  refine x_getr dX8_assign_6 vc_X8 xin8 fb_X8_8 fl_X8_17 xr_X8_8 k100 g1 ?_
  refine x_iload_n 1 dX8_assign_9 rfl rfl ?_
  refine x_iconst (v := 0) dX8_assign_10 rfl ?_
  refine x_iadd dX8_assign_11 ?_
  obtain ⟨c4, h⟩ := x_ck h
  refine x_iald dX8_assign_12 k2 (xb_at n3 c4) rfl ?_
  refine x_cs (As := [.int (gi N (gp Y a0 8) ((f_X8_requestAt Y a1 N) + 0).toNatClampNeg)]) (d' := 1) (zz := yX8_lineAt) dX8_assign_13 ml_X8_200 wt_X8_lineAt wn_X8 wc_X8_lineAt hp_X8_lineAt (by decide) (by decide) rfl (Nat.le_of_ble_eq_true rfl) ⟨Nat.zero_le _, Nat.zero_le _⟩ (T_X8_lineAt (G := G) hw  rfl) ?_
  obtain ⟨v5, ev5, h⟩ := x_lt h
  refine x_nmi ev5 ?_
  refine x_istore_n (L' := [(0, .ref a0), (2, .int (f_X8_requestAt Y a1 N)), (3, .int v5)]) [1, 2, 0] dX8_assign_16 rfl (by decide) rfl ?_
  refine x_iconst (v := (-1)) dX8_assign_17 rfl ?_
  refine x_istore (L' := [(0, .ref a0), (2, .int (f_X8_requestAt Y a1 N)), (3, .int v5), (4, .int (-1))]) [1, 2, 3, 0] dX8_assign_18 (by decide) rfl ?_
  refine x_iconst (v := 0) dX8_assign_20 rfl ?_
  refine x_istore (L' := [(0, .ref a0), (2, .int (f_X8_requestAt Y a1 N)), (3, .int v5), (4, .int (-1)), (5, .int 0)]) [1, 2, 3, 4, 0] dX8_assign_21 (by decide) rfl ?_
  refine x_aload_n 0 dX8_assign_23 rfl rfl ?_
  refine x_getr dX8_assign_24 vc_X8 xin8 fb_X8_8 fl_X8_17 xr_X8_8 k100 g1 ?_
  refine x_iload_n 1 dX8_assign_27 rfl rfl ?_
  refine x_iconst (v := 4) dX8_assign_28 rfl ?_
  refine x_iadd dX8_assign_29 ?_
  refine x_iconst (v := (-1)) dX8_assign_30 rfl ?_
  obtain ⟨c6, h⟩ := x_ck h
  refine x_iast dX8_assign_31 k2 (xb_at n3 c6) rfl ?_
  obtain ⟨N7, eN7, h⟩ := x_lt h
  refine x_nmN eN7 ?_
  refine x_iconst (v := 0) dX8_assign_32 rfl ?_
  refine x_istore (L' := [(0, .ref a0), (2, .int (f_X8_requestAt Y a1 N)), (3, .int v5), (4, .int (-1)), (5, .int 0), (6, .int 0)]) [1, 2, 3, 4, 5, 0] dX8_assign_33 (by decide) rfl ?_
  exact T_X8_assign_35 (G := G) hw FU a0 (f_X8_requestAt Y a1 N) v5 (-1) 0 0 N7 k100 h
set_option maxHeartbeats 4000000 in
set_option maxRecDepth 100000 in
theorem T_X8_raisedOn_4 {G : XG} {Y : XY} (hw : WT Y) {r9 : Int32}: ∀ (D9 : Nat) (p_0 : Nat) (v_1 : Int32) (v_2 : Int32) (v_3 : Int32) (N : XN), kc Y p_0 = 18 → f_X8_raisedOn_4 Y D9 p_0 v_1 v_2 v_3 N = some r9 → Ex G yX8_raisedOn cX8_raisedOn 4 (some .int) (xR 3 0 0) (.inl (some (.int r9))) Y N 0 0 4 [(0, .ref p_0), (1, .int v_1), (2, .int v_2), (3, .int v_3)] [] Y N := by
  intro D9
  induction D9 with
  | zero => intro p_0 v_1 v_2 v_3 N kk0 h; exact nomatch (show none = some _ from h)
  | succ D9 ih =>
    intro p_0 v_1 v_2 v_3 N kk0 h
    rw [f_X8_raisedOn_4] at h
    refine x_iload_n 3 dX8_raisedOn_4 rfl rfl ?_
    refine x_aload_n 0 dX8_raisedOn_5 rfl rfl ?_
    obtain ⟨g1, k2, n3⟩ := wt_X8_8 hw kk0
    refine x_getr dX8_raisedOn_6 vc_X8 xin8 fb_X8_8 fl_X8_17 xr_X8_8 kk0 g1 ?_
    refine x_iconst (v := 3) dX8_raisedOn_9 rfl ?_
    refine x_iald dX8_raisedOn_10 k2 (xb_at n3 xbl_3_1784) xl_3 ?_
    rcases x_if h with ⟨c4, h⟩ | ⟨c4, h⟩
    · refine x_icmp_ge_t (tgt := 70) dX8_raisedOn_11 (by decide) c4 ?_
      refine x_iload_n 2 dX8_raisedOn_70 rfl rfl ?_
      obtain rfl := x_so h
      exact x_iret dX8_raisedOn_71 rfl rfl rfl
    · refine x_icmp_ge_f (tgt := 70) dX8_raisedOn_11 (by decide) c4 ?_
      refine x_iload_n 2 dX8_raisedOn_14 rfl rfl ?_
      refine x_aload_n 0 dX8_raisedOn_15 rfl rfl ?_
      refine x_iload_n 3 dX8_raisedOn_16 rfl rfl ?_
      refine x_iconst (v := 0) dX8_raisedOn_17 rfl ?_
      obtain ⟨r6, q5, h⟩ := x_bd1 h
      refine x_cv (b := p_0) (As := [.int v_3, .int 0]) (ci := 8) (d' := 2) (zz := yX8_ofRequest) dX8_raisedOn_18 ml_X8_206 wi_X8_ofRequest wv_X8_ofRequest wn_X8 wc_X8_ofRequest hp_X8_ofRequest (by decide) (by decide) rfl (Nat.le_of_ble_eq_true rfl) ⟨Nat.zero_le _, Nat.zero_le _⟩ rfl kk0 (T_X8_ofRequest (G := G) hw kk0 q5) ?_
      refine x_iload_n 1 dX8_raisedOn_21 rfl rfl ?_
      rcases x_if h with ⟨c7, h⟩ | ⟨c7, h⟩
      · refine x_icmp_ne_f (tgt := 61) dX8_raisedOn_22 (by decide) c7 ?_
        refine x_aload_n 0 dX8_raisedOn_25 rfl rfl ?_
        refine x_iload_n 3 dX8_raisedOn_26 rfl rfl ?_
        refine x_iconst (v := 3) dX8_raisedOn_27 rfl ?_
        obtain ⟨r9, q8, h⟩ := x_bd1 h
        refine x_cv (b := p_0) (As := [.int v_3, .int 3]) (ci := 8) (d' := 2) (zz := yX8_ofRequest) dX8_raisedOn_28 ml_X8_206 wi_X8_ofRequest wv_X8_ofRequest wn_X8 wc_X8_ofRequest hp_X8_ofRequest (by decide) (by decide) rfl (Nat.le_of_ble_eq_true rfl) ⟨Nat.zero_le _, Nat.zero_le _⟩ rfl kk0 (T_X8_ofRequest (G := G) hw kk0 q8) ?_
        rcases x_if h with ⟨c10, h⟩ | ⟨c10, h⟩
        · refine x_if_eq_t (tgt := 61) dX8_raisedOn_31 (by decide) c10 ?_
          refine x_iconst (v := 0) dX8_raisedOn_61 rfl ?_
          refine x_iadd dX8_raisedOn_62 ?_
          refine x_istore_n (L' := [(0, .ref p_0), (1, .int v_1), (2, .int (v_2 + 0)), (3, .int v_3)]) [1, 2, 0, 3] dX8_raisedOn_63 rfl (by decide) rfl ?_
          refine x_iinc (L' := [(0, .ref p_0), (1, .int v_1), (2, .int (v_2 + 0)), (3, .int (v_3 + 1))]) 3 [1, 2, 3, 0] dX8_raisedOn_64 rfl rfl (by decide) rfl ?_
          refine x_goto (tgt := 4) dX8_raisedOn_67 (by decide) ?_
          exact ih p_0 v_1 (v_2 + 0) (v_3 + 1) N kk0 h
        · refine x_if_eq_f (tgt := 61) dX8_raisedOn_31 (by decide) c10 ?_
          refine x_aload_n 0 dX8_raisedOn_34 rfl rfl ?_
          refine x_iload_n 3 dX8_raisedOn_35 rfl rfl ?_
          refine x_iconst (v := 1) dX8_raisedOn_36 rfl ?_
          obtain ⟨r12, q11, h⟩ := x_bd1 h
          refine x_cv (b := p_0) (As := [.int v_3, .int 1]) (ci := 8) (d' := 2) (zz := yX8_ofRequest) dX8_raisedOn_37 ml_X8_206 wi_X8_ofRequest wv_X8_ofRequest wn_X8 wc_X8_ofRequest hp_X8_ofRequest (by decide) (by decide) rfl (Nat.le_of_ble_eq_true rfl) ⟨Nat.zero_le _, Nat.zero_le _⟩ rfl kk0 (T_X8_ofRequest (G := G) hw kk0 q11) ?_
          refine x_aload_n 0 dX8_raisedOn_40 rfl rfl ?_
          refine x_getr dX8_raisedOn_41 vc_X8 xin8 fb_X8_8 fl_X8_17 xr_X8_8 kk0 g1 ?_
          refine x_iconst (v := 0) dX8_raisedOn_44 rfl ?_
          refine x_iald dX8_raisedOn_45 k2 (xb_at n3 xbl_0_1784) xl_0 ?_
          refine x_aload_n 0 dX8_raisedOn_46 rfl rfl ?_
          refine x_getr dX8_raisedOn_47 vc_X8 xin8 fb_X8_8 fl_X8_17 xr_X8_8 kk0 g1 ?_
          refine x_bipush (v := 6) dX8_raisedOn_50 rfl ?_
          refine x_iald dX8_raisedOn_52 k2 (xb_at n3 xbl_6_1784) xl_6 ?_
          refine x_isub dX8_raisedOn_53 ?_
          rcases x_if h with ⟨c13, h⟩ | ⟨c13, h⟩
          · refine x_icmp_le_t (tgt := 61) dX8_raisedOn_54 (by decide) c13 ?_
            refine x_iconst (v := 0) dX8_raisedOn_61 rfl ?_
            refine x_iadd dX8_raisedOn_62 ?_
            refine x_istore_n (L' := [(0, .ref p_0), (1, .int v_1), (2, .int (v_2 + 0)), (3, .int v_3)]) [1, 2, 0, 3] dX8_raisedOn_63 rfl (by decide) rfl ?_
            refine x_iinc (L' := [(0, .ref p_0), (1, .int v_1), (2, .int (v_2 + 0)), (3, .int (v_3 + 1))]) 3 [1, 2, 3, 0] dX8_raisedOn_64 rfl rfl (by decide) rfl ?_
            refine x_goto (tgt := 4) dX8_raisedOn_67 (by decide) ?_
            exact ih p_0 v_1 (v_2 + 0) (v_3 + 1) N kk0 h
          · refine x_icmp_le_f (tgt := 61) dX8_raisedOn_54 (by decide) c13 ?_
            refine x_iconst (v := 1) dX8_raisedOn_57 rfl ?_
            refine x_goto (tgt := 62) dX8_raisedOn_58 (by decide) ?_
            refine x_iadd dX8_raisedOn_62 ?_
            refine x_istore_n (L' := [(0, .ref p_0), (1, .int v_1), (2, .int (v_2 + 1)), (3, .int v_3)]) [1, 2, 0, 3] dX8_raisedOn_63 rfl (by decide) rfl ?_
            refine x_iinc (L' := [(0, .ref p_0), (1, .int v_1), (2, .int (v_2 + 1)), (3, .int (v_3 + 1))]) 3 [1, 2, 3, 0] dX8_raisedOn_64 rfl rfl (by decide) rfl ?_
            refine x_goto (tgt := 4) dX8_raisedOn_67 (by decide) ?_
            exact ih p_0 v_1 (v_2 + 1) (v_3 + 1) N kk0 h
      · refine x_icmp_ne_t (tgt := 61) dX8_raisedOn_22 (by decide) c7 ?_
        refine x_iconst (v := 0) dX8_raisedOn_61 rfl ?_
        refine x_iadd dX8_raisedOn_62 ?_
        refine x_istore_n (L' := [(0, .ref p_0), (1, .int v_1), (2, .int (v_2 + 0)), (3, .int v_3)]) [1, 2, 0, 3] dX8_raisedOn_63 rfl (by decide) rfl ?_
        refine x_iinc (L' := [(0, .ref p_0), (1, .int v_1), (2, .int (v_2 + 0)), (3, .int (v_3 + 1))]) 3 [1, 2, 3, 0] dX8_raisedOn_64 rfl rfl (by decide) rfl ?_
        refine x_goto (tgt := 4) dX8_raisedOn_67 (by decide) ?_
        exact ih p_0 v_1 (v_2 + 0) (v_3 + 1) N kk0 h
set_option maxHeartbeats 4000000 in
set_option maxRecDepth 100000 in
theorem T_X8_raisedOn {G : XG} {Y : XY} (hw : WT Y) {a0 : Nat} {a1 : Int32} {N : XN} (k100 : kc Y a0 = 18) {r9 : Int32} (h : f_X8_raisedOn Y a0 a1 N = some r9) : Cl G yX8_raisedOn cX8_raisedOn 4 (some .int) (xR 3 0 0) [.ref a0, .int a1] (.inl (some (.int r9))) Y N Y N := by
  refine x_entry (by decide) (Nat.le_of_ble_eq_true rfl) rfl ?_
  rw [f_X8_raisedOn] at h
  refine x_iconst (v := 0) dX8_raisedOn_0 rfl ?_
  refine x_istore_n (L' := [(0, .ref a0), (1, .int a1), (2, .int 0)]) [1, 2, 0] dX8_raisedOn_1 rfl (by decide) rfl ?_
  refine x_iconst (v := 0) dX8_raisedOn_2 rfl ?_
  refine x_istore_n (L' := [(0, .ref a0), (1, .int a1), (2, .int 0), (3, .int 0)]) [1, 2, 3, 0] dX8_raisedOn_3 rfl (by decide) rfl ?_
  exact T_X8_raisedOn_4 (G := G) hw FU a0 a1 0 0 N k100 h
set_option maxHeartbeats 4000000 in
set_option maxRecDepth 100000 in
theorem T_X8_raiseNow {G : XG} {Y : XY} (hw : WT Y) {a0 : Nat} {a1 : Int32} {N : XN} (k100 : kc Y a0 = 18) {N9 : XN} (h : f_X8_raiseNow Y a0 a1 N = some N9) : Cl G yX8_raiseNow cX8_raiseNow 6 none (xR 7 0 0) [.ref a0, .int a1] (.inl none) Y N Y N9 := by
  refine x_entry (by decide) (Nat.le_of_ble_eq_true rfl) rfl ?_
  rw [f_X8_raiseNow] at h
  refine x_iload_n 1 dX8_raiseNow_0 rfl rfl ?_
  refine x_cs (As := [.int a1]) (d' := 1) (zz := yX8_requestAt) dX8_raiseNow_1 ml_X8_203 wt_X8_requestAt wn_X8 wc_X8_requestAt hp_X8_requestAt (by decide) (by decide) rfl (Nat.le_of_ble_eq_true rfl) ⟨Nat.zero_le _, Nat.zero_le _⟩ (T_X8_requestAt (G := G) hw  rfl) ?_
  refine x_istore_n (L' := [(0, .ref a0), (1, .int a1), (2, .int (f_X8_requestAt Y a1 N))]) [1, 2, 0] dX8_raiseNow_4 rfl (by decide) rfl ?_
  refine x_aload_n 0 dX8_raiseNow_5 rfl rfl ?_
  obtain ⟨g1, k2, n3⟩ := wt_X8_8 hw k100
  refine x_getr dX8_raiseNow_6 vc_X8 xin8 fb_X8_8 fl_X8_17 xr_X8_8 k100 g1 ?_
  refine x_iload_n 2 dX8_raiseNow_9 rfl rfl ?_
  refine x_iconst (v := 0) dX8_raiseNow_10 rfl ?_
  refine x_iadd dX8_raiseNow_11 ?_
  obtain ⟨c4, h⟩ := x_ck h
  refine x_iald dX8_raiseNow_12 k2 (xb_at n3 c4) rfl ?_
  obtain ⟨v5, ev5, h⟩ := x_lt h
  refine x_nmi ev5 ?_
  refine x_istore_n (L' := [(0, .ref a0), (1, .int a1), (2, .int (f_X8_requestAt Y a1 N)), (3, .int v5)]) [1, 2, 3, 0] dX8_raiseNow_13 rfl (by decide) rfl ?_
  refine x_iload_n 3 dX8_raiseNow_14 rfl rfl ?_
  refine x_cs (As := [.int v5]) (d' := 1) (zz := yX8_lineAt) dX8_raiseNow_15 ml_X8_200 wt_X8_lineAt wn_X8 wc_X8_lineAt hp_X8_lineAt (by decide) (by decide) rfl (Nat.le_of_ble_eq_true rfl) ⟨Nat.zero_le _, Nat.zero_le _⟩ (T_X8_lineAt (G := G) hw  rfl) ?_
  refine x_iconst (v := 2) dX8_raiseNow_18 rfl ?_
  refine x_iadd dX8_raiseNow_19 ?_
  obtain ⟨v6, ev6, h⟩ := x_lt h
  refine x_nmi ev6 ?_
  refine x_istore (L' := [(0, .ref a0), (1, .int a1), (2, .int (f_X8_requestAt Y a1 N)), (3, .int v5), (4, .int v6)]) [1, 2, 3, 4, 0] dX8_raiseNow_20 (by decide) rfl ?_
  refine x_aload_n 0 dX8_raiseNow_22 rfl rfl ?_
  refine x_iload_n 3 dX8_raiseNow_23 rfl rfl ?_
  obtain ⟨r8, q7, h⟩ := x_bd1 h
  refine x_cv (b := a0) (As := [.int v5]) (ci := 8) (d' := 3) (zz := yX8_raisedOn) dX8_raiseNow_24 ml_X8_219 wi_X8_raisedOn wv_X8_raisedOn wn_X8 wc_X8_raisedOn hp_X8_raisedOn (by decide) (by decide) rfl (Nat.le_of_ble_eq_true rfl) ⟨Nat.zero_le _, Nat.zero_le _⟩ rfl k100 (T_X8_raisedOn (G := G) hw k100 q7) ?_
  refine x_iconst (v := 1) dX8_raiseNow_27 rfl ?_
  refine x_iadd dX8_raiseNow_28 ?_
  refine x_aload_n 0 dX8_raiseNow_29 rfl rfl ?_
  refine x_iload_n 3 dX8_raiseNow_30 rfl rfl ?_
  refine x_iconst (v := 1) dX8_raiseNow_31 rfl ?_
  obtain ⟨r10, q9, h⟩ := x_bd1 h
  refine x_cv (b := a0) (As := [.int v5, .int 1]) (ci := 8) (d' := 2) (zz := yX8_ofLine) dX8_raiseNow_32 ml_X8_222 wi_X8_ofLine wv_X8_ofLine wn_X8 wc_X8_ofLine hp_X8_ofLine (by decide) (by decide) rfl (Nat.le_of_ble_eq_true rfl) ⟨Nat.zero_le _, Nat.zero_le _⟩ rfl k100 (T_X8_ofLine (G := G) hw k100 q9) ?_
  rcases x_if h with ⟨c11, h⟩ | ⟨c11, h⟩
  · refine x_icmp_le_t (tgt := 105) dX8_raiseNow_35 (by decide) c11 ?_
    refine x_aload_n 0 dX8_raiseNow_105 rfl rfl ?_
    refine x_getr dX8_raiseNow_106 vc_X8 xin8 fb_X8_8 fl_X8_17 xr_X8_8 k100 g1 ?_
    refine x_iload_n 2 dX8_raiseNow_109 rfl rfl ?_
    refine x_iconst (v := 3) dX8_raiseNow_110 rfl ?_
    refine x_iadd dX8_raiseNow_111 ?_
    refine x_iconst (v := 1) dX8_raiseNow_112 rfl ?_
    obtain ⟨c12, h⟩ := x_ck h
    refine x_iast dX8_raiseNow_113 k2 (xb_at n3 c12) rfl ?_
    obtain ⟨N13, eN13, h⟩ := x_lt h
    refine x_nmN eN13 ?_
    refine x_aload_n 0 dX8_raiseNow_114 rfl rfl ?_
    refine x_getr dX8_raiseNow_115 vc_X8 xin8 fb_X8_8 fl_X8_17 xr_X8_8 k100 g1 ?_
    refine x_iload_n 2 dX8_raiseNow_118 rfl rfl ?_
    refine x_iconst (v := 5) dX8_raiseNow_119 rfl ?_
    refine x_iadd dX8_raiseNow_120 ?_
    refine x_aload_n 0 dX8_raiseNow_121 rfl rfl ?_
    refine x_getr dX8_raiseNow_122 vc_X8 xin8 fb_X8_8 fl_X8_17 xr_X8_8 k100 g1 ?_
    refine x_iload_n 2 dX8_raiseNow_125 rfl rfl ?_
    refine x_iconst (v := 2) dX8_raiseNow_126 rfl ?_
    refine x_iadd dX8_raiseNow_127 ?_
    obtain ⟨c14, h⟩ := x_ck h
    refine x_iald dX8_raiseNow_128 k2 (xb_at n3 c14) rfl ?_
    obtain ⟨c15, h⟩ := x_ck h
    refine x_iast dX8_raiseNow_129 k2 (xb_at n3 c15) rfl ?_
    obtain ⟨N16, eN16, h⟩ := x_lt h
    refine x_nmN eN16 ?_
    refine x_aload_n 0 dX8_raiseNow_130 rfl rfl ?_
    refine x_iload_n 1 dX8_raiseNow_131 rfl rfl ?_
    obtain ⟨N18, q17, h⟩ := x_bd1 h
    refine x_cv (b := a0) (As := [.int a1]) (ci := 8) (d' := 6) (zz := yX8_assign) dX8_raiseNow_132 ml_X8_225 wi_X8_assign wv_X8_assign wn_X8 wc_X8_assign hp_X8_assign (by decide) (by decide) rfl (Nat.le_of_ble_eq_true rfl) ⟨Nat.zero_le _, Nat.zero_le _⟩ rfl k100 (T_X8_assign (G := G) hw k100 q17) ?_
    obtain rfl := x_so h
    exact x_vret dX8_raiseNow_135 rfl rfl rfl
  · refine x_icmp_le_f (tgt := 105) dX8_raiseNow_35 (by decide) c11 ?_
    refine x_aload_n 0 dX8_raiseNow_38 rfl rfl ?_
    refine x_getr dX8_raiseNow_39 vc_X8 xin8 fb_X8_8 fl_X8_17 xr_X8_8 k100 g1 ?_
    refine x_bipush (v := 7) dX8_raiseNow_42 rfl ?_
    refine x_iald dX8_raiseNow_44 k2 (xb_at n3 xbl_7_1784) xl_7 ?_
    refine x_aload_n 0 dX8_raiseNow_45 rfl rfl ?_
    refine x_getr dX8_raiseNow_46 vc_X8 xin8 fb_X8_8 fl_X8_17 xr_X8_8 k100 g1 ?_
    refine x_iload 4 dX8_raiseNow_49 rfl ?_
    obtain ⟨c19, h⟩ := x_ck h
    refine x_iald dX8_raiseNow_51 k2 (xb_at n3 c19) rfl ?_
    refine x_cs (As := [.int (gi N (gp Y a0 8) 7), .int (gi N (gp Y a0 8) v6.toNatClampNeg)]) (d' := 1) (zz := yX8_min) dX8_raiseNow_52 ml_X8_100 wt_X8_min wn_X8 wc_X8_min hp_X8_min (by decide) (by decide) rfl (Nat.le_of_ble_eq_true rfl) ⟨Nat.zero_le _, Nat.zero_le _⟩ (T_X8_min (G := G) hw  rfl) ?_
    obtain ⟨v20, ev20, h⟩ := x_lt h
    refine x_nmi ev20 ?_
    refine x_istore (L' := [(0, .ref a0), (2, .int (f_X8_requestAt Y a1 N)), (4, .int v6), (5, .int v20)]) [1, 3, 5, 0] dX8_raiseNow_55 (by decide) rfl ?_
    refine x_aload_n 0 dX8_raiseNow_57 rfl rfl ?_
    refine x_getr dX8_raiseNow_58 vc_X8 xin8 fb_X8_8 fl_X8_17 xr_X8_8 k100 g1 ?_
    refine x_iload 2 dX8_raiseNow_61 rfl ?_
    refine x_dup2 dX8_raiseNow_63 rfl rfl ?_
    obtain ⟨c21, h⟩ := x_ck h
    refine x_iald dX8_raiseNow_64 k2 (xb_at n3 c21) rfl ?_
    refine x_iload 3 dX8_raiseNow_65 rfl ?_
    refine x_isub dX8_raiseNow_67 ?_
    obtain ⟨c22, h⟩ := x_ck h
    refine x_iast dX8_raiseNow_68 k2 (xb_at n3 c22) rfl ?_
    obtain ⟨N23, eN23, h⟩ := x_lt h
    refine x_nmN eN23 ?_
    refine x_aload_n 0 dX8_raiseNow_69 rfl rfl ?_
    refine x_getr dX8_raiseNow_70 vc_X8 xin8 fb_X8_8 fl_X8_17 xr_X8_8 k100 g1 ?_
    refine x_iconst (v := 4) dX8_raiseNow_73 rfl ?_
    refine x_dup2 dX8_raiseNow_74 rfl rfl ?_
    refine x_iald dX8_raiseNow_75 k2 (xb_at n3 xbl_4_1784) xl_4 ?_
    refine x_iload 3 dX8_raiseNow_76 rfl ?_
    refine x_iadd dX8_raiseNow_78 ?_
    refine x_iast dX8_raiseNow_79 k2 (xb_at n3 xbl_4_1784) xl_4 ?_
    obtain ⟨N24, eN24, h⟩ := x_lt h
    refine x_nmN eN24 ?_
    refine x_aload_n 0 dX8_raiseNow_80 rfl rfl ?_
    refine x_getr dX8_raiseNow_81 vc_X8 xin8 fb_X8_8 fl_X8_17 xr_X8_8 k100 g1 ?_
    refine x_iload_n 1 dX8_raiseNow_84 rfl rfl ?_
    refine x_iconst (v := 3) dX8_raiseNow_85 rfl ?_
    refine x_iadd dX8_raiseNow_86 ?_
    refine x_iconst (v := 3) dX8_raiseNow_87 rfl ?_
    obtain ⟨c25, h⟩ := x_ck h
    refine x_iast dX8_raiseNow_88 k2 (xb_at n3 c25) rfl ?_
    obtain ⟨N26, eN26, h⟩ := x_lt h
    refine x_nmN eN26 ?_
    refine x_aload_n 0 dX8_raiseNow_89 rfl rfl ?_
    refine x_getr dX8_raiseNow_90 vc_X8 xin8 fb_X8_8 fl_X8_17 xr_X8_8 k100 g1 ?_
    refine x_iload_n 1 dX8_raiseNow_93 rfl rfl ?_
    refine x_bipush (v := 6) dX8_raiseNow_94 rfl ?_
    refine x_iadd dX8_raiseNow_96 ?_
    refine x_aload_n 0 dX8_raiseNow_97 rfl rfl ?_
    refine x_getr dX8_raiseNow_98 vc_X8 xin8 fb_X8_8 fl_X8_17 xr_X8_8 k100 g1 ?_
    refine x_iconst (v := 0) dX8_raiseNow_101 rfl ?_
    refine x_iald dX8_raiseNow_102 k2 (xb_at n3 xbl_0_1784) xl_0 ?_
    obtain ⟨c27, h⟩ := x_ck h
    refine x_iast dX8_raiseNow_103 k2 (xb_at n3 c27) rfl ?_
    obtain ⟨N28, eN28, h⟩ := x_lt h
    refine x_nmN eN28 ?_
    obtain rfl := x_so h
    exact x_vret dX8_raiseNow_104 rfl rfl rfl
set_option maxHeartbeats 4000000 in
set_option maxRecDepth 100000 in
theorem T_X8_mustPay_108 {G : XG} {Y : XY} (hw : WT Y) {N9 : XN}: ∀ (D9 : Nat) (p_0 : Nat) (v_1 : Int32) (v_7 : Int32) (N : XN), kc Y p_0 = 18 → f_X8_mustPay_108 Y D9 p_0 v_1 v_7 N = some N9 → Ex G yX8_mustPay cX8_mustPay 8 none (xR 7 0 0) (.inl none) Y N9 0 0 108 [(0, .ref p_0), (1, .int v_1), (7, .int v_7)] [] Y N := by
  intro D9
  induction D9 with
  | zero => intro p_0 v_1 v_7 N kk0 h; exact nomatch (show none = some _ from h)
  | succ D9 ih =>
    intro p_0 v_1 v_7 N kk0 h
    rw [f_X8_mustPay_108] at h
    refine x_iload 2 dX8_mustPay_108 rfl ?_
    refine x_aload_n 0 dX8_mustPay_110 rfl rfl ?_
    obtain ⟨g1, k2, n3⟩ := wt_X8_8 hw kk0
    refine x_getr dX8_mustPay_111 vc_X8 xin8 fb_X8_8 fl_X8_17 xr_X8_8 kk0 g1 ?_
    refine x_iconst (v := 3) dX8_mustPay_114 rfl ?_
    refine x_iald dX8_mustPay_115 k2 (xb_at n3 xbl_3_1784) xl_3 ?_
    rcases x_if h with ⟨c4, h⟩ | ⟨c4, h⟩
    · refine x_icmp_ge_t (tgt := 141) dX8_mustPay_116 (by decide) c4 ?_
      obtain rfl := x_so h
      exact x_vret dX8_mustPay_141 rfl rfl rfl
    · refine x_icmp_ge_f (tgt := 141) dX8_mustPay_116 (by decide) c4 ?_
      refine x_aload_n 0 dX8_mustPay_119 rfl rfl ?_
      refine x_iload_n 1 dX8_mustPay_120 rfl rfl ?_
      refine x_iload 2 dX8_mustPay_121 rfl ?_
      obtain ⟨r6, q5, h⟩ := x_bd1 h
      refine x_cv (b := p_0) (As := [.int v_1, .int v_7]) (ci := 8) (d' := 4) (zz := yX8_holds) dX8_mustPay_123 ml_X8_212 wi_X8_holds wv_X8_holds wn_X8 wc_X8_holds hp_X8_holds (by decide) (by decide) rfl (Nat.le_of_ble_eq_true rfl) ⟨Nat.zero_le _, Nat.zero_le _⟩ rfl kk0 (T_X8_holds (G := G) hw kk0 q5) ?_
      rcases x_if h with ⟨c7, h⟩ | ⟨c7, h⟩
      · refine x_if_eq_t (tgt := 135) dX8_mustPay_126 (by decide) c7 ?_
        refine x_iinc (L' := [(0, .ref p_0), (1, .int v_1), (7, .int (v_7 + 1))]) 2 [1, 2, 0] dX8_mustPay_135 rfl rfl (by decide) rfl ?_
        refine x_goto (tgt := 108) dX8_mustPay_138 (by decide) ?_
        exact ih p_0 v_1 (v_7 + 1) N kk0 h
      · refine x_if_eq_f (tgt := 135) dX8_mustPay_126 (by decide) c7 ?_
        refine x_aload_n 0 dX8_mustPay_129 rfl rfl ?_
        refine x_iload 2 dX8_mustPay_130 rfl ?_
        obtain ⟨N9, q8, h⟩ := x_bd1 h
        refine x_cv (b := p_0) (As := [.int v_7]) (ci := 8) (d' := 6) (zz := yX8_assign) dX8_mustPay_132 ml_X8_225 wi_X8_assign wv_X8_assign wn_X8 wc_X8_assign hp_X8_assign (by decide) (by decide) rfl (Nat.le_of_ble_eq_true rfl) ⟨Nat.zero_le _, Nat.zero_le _⟩ rfl kk0 (T_X8_assign (G := G) hw kk0 q8) ?_
        refine x_iinc (L' := [(0, .ref p_0), (1, .int v_1), (7, .int (v_7 + 1))]) 2 [1, 2, 0] dX8_mustPay_135 rfl rfl (by decide) rfl ?_
        refine x_goto (tgt := 108) dX8_mustPay_138 (by decide) ?_
        exact ih p_0 v_1 (v_7 + 1) N9 kk0 h
set_option maxHeartbeats 4000000 in
set_option maxRecDepth 100000 in
theorem T_X8_mustPay_81 {G : XG} {Y : XY} (hw : WT Y) {N9 : XN}: ∀ (D9 : Nat) (p_0 : Nat) (v_1 : Int32) (v_7 : Int32) (N : XN), kc Y p_0 = 18 → f_X8_mustPay_81 Y D9 p_0 v_1 v_7 N = some N9 → Ex G yX8_mustPay cX8_mustPay 8 none (xR 7 0 0) (.inl none) Y N9 0 0 81 [(0, .ref p_0), (1, .int v_1), (7, .int v_7)] [] Y N := by
  intro D9
  induction D9 with
  | zero => intro p_0 v_1 v_7 N kk0 h; exact nomatch (show none = some _ from h)
  | succ D9 ih =>
    intro p_0 v_1 v_7 N kk0 h
    rw [f_X8_mustPay_81] at h
    refine x_iload 2 dX8_mustPay_81 rfl ?_
    refine x_aload_n 0 dX8_mustPay_83 rfl rfl ?_
    obtain ⟨g1, k2, n3⟩ := wt_X8_8 hw kk0
    refine x_getr dX8_mustPay_84 vc_X8 xin8 fb_X8_8 fl_X8_17 xr_X8_8 kk0 g1 ?_
    refine x_iconst (v := 2) dX8_mustPay_87 rfl ?_
    refine x_iald dX8_mustPay_88 k2 (xb_at n3 xbl_2_1784) xl_2 ?_
    rcases x_if h with ⟨c4, h⟩ | ⟨c4, h⟩
    · refine x_icmp_ge_t (tgt := 105) dX8_mustPay_89 (by decide) c4 ?_
      refine x_iconst (v := 0) dX8_mustPay_105 rfl ?_
      refine x_istore (L' := [(0, .ref p_0), (1, .int v_1), (7, .int 0)]) [1, 2, 0] dX8_mustPay_106 (by decide) rfl ?_
      exact T_X8_mustPay_108 (G := G) hw FU p_0 v_1 0 N kk0 h
    · refine x_icmp_ge_f (tgt := 105) dX8_mustPay_89 (by decide) c4 ?_
      refine x_aload_n 0 dX8_mustPay_92 rfl rfl ?_
      refine x_iload_n 1 dX8_mustPay_93 rfl rfl ?_
      refine x_iload 2 dX8_mustPay_94 rfl ?_
      obtain ⟨N6, q5, h⟩ := x_bd1 h
      refine x_cv (b := p_0) (As := [.int v_1, .int v_7]) (ci := 8) (d' := 2) (zz := yX8_leave) dX8_mustPay_96 ml_X8_228 wi_X8_leave wv_X8_leave wn_X8 wc_X8_leave hp_X8_leave (by decide) (by decide) rfl (Nat.le_of_ble_eq_true rfl) ⟨Nat.zero_le _, Nat.zero_le _⟩ rfl kk0 (T_X8_leave (G := G) hw kk0 q5) ?_
      refine x_iinc (L' := [(0, .ref p_0), (1, .int v_1), (7, .int (v_7 + 1))]) 2 [1, 2, 0] dX8_mustPay_99 rfl rfl (by decide) rfl ?_
      refine x_goto (tgt := 81) dX8_mustPay_102 (by decide) ?_
      exact ih p_0 v_1 (v_7 + 1) N6 kk0 h
set_option maxHeartbeats 4000000 in
set_option maxRecDepth 100000 in
theorem T_X8_mustPay {G : XG} {Y : XY} (hw : WT Y) {a0 : Nat} {a1 : Int32} {a2 : Int32} {a3 : Int32} {a4 : Int32} {N : XN} (k100 : kc Y a0 = 18) {N9 : XN} (h : f_X8_mustPay Y a0 a1 a2 a3 a4 N = some N9) : Cl G yX8_mustPay cX8_mustPay 8 none (xR 7 0 0) [.ref a0, .int a1, .int a2, .int a3, .int a4] (.inl none) Y N Y N9 := by
  refine x_entry (by decide) (Nat.le_of_ble_eq_true rfl) rfl ?_
  rw [f_X8_mustPay] at h
  refine x_iload_n 1 dX8_mustPay_0 rfl rfl ?_
  refine x_cs (As := [.int a1]) (d' := 1) (zz := yX8_handlerAt) dX8_mustPay_1 ml_X8_197 wt_X8_handlerAt wn_X8 wc_X8_handlerAt hp_X8_handlerAt (by decide) (by decide) rfl (Nat.le_of_ble_eq_true rfl) ⟨Nat.zero_le _, Nat.zero_le _⟩ (T_X8_handlerAt (G := G) hw  rfl) ?_
  refine x_istore (L' := [(0, .ref a0), (1, .int a1), (2, .int a2), (3, .int a3), (4, .int a4), (5, .int (f_X8_handlerAt Y a1 N))]) [1, 2, 3, 4, 5, 0] dX8_mustPay_4 (by decide) rfl ?_
  refine x_iload_n 2 dX8_mustPay_6 rfl rfl ?_
  refine x_aload_n 0 dX8_mustPay_7 rfl rfl ?_
  obtain ⟨g1, k2, n3⟩ := wt_X8_8 hw k100
  refine x_getr dX8_mustPay_8 vc_X8 xin8 fb_X8_8 fl_X8_17 xr_X8_8 k100 g1 ?_
  refine x_iload 5 dX8_mustPay_11 rfl ?_
  refine x_iconst (v := 0) dX8_mustPay_13 rfl ?_
  refine x_iadd dX8_mustPay_14 ?_
  obtain ⟨c4, h⟩ := x_ck h
  refine x_iald dX8_mustPay_15 k2 (xb_at n3 c4) rfl ?_
  refine x_cs (As := [.int a2, .int (gi N (gp Y a0 8) ((f_X8_handlerAt Y a1 N) + 0).toNatClampNeg)]) (d' := 1) (zz := yX8_min) dX8_mustPay_16 ml_X8_100 wt_X8_min wn_X8 wc_X8_min hp_X8_min (by decide) (by decide) rfl (Nat.le_of_ble_eq_true rfl) ⟨Nat.zero_le _, Nat.zero_le _⟩ (T_X8_min (G := G) hw  rfl) ?_
  obtain ⟨v5, ev5, h⟩ := x_lt h
  refine x_nmi ev5 ?_
  refine x_istore (L' := [(0, .ref a0), (1, .int a1), (2, .int a2), (3, .int a3), (4, .int a4), (5, .int (f_X8_handlerAt Y a1 N)), (6, .int v5)]) [1, 2, 3, 4, 5, 6, 0] dX8_mustPay_19 (by decide) rfl ?_
  refine x_aload_n 0 dX8_mustPay_21 rfl rfl ?_
  refine x_getr dX8_mustPay_22 vc_X8 xin8 fb_X8_8 fl_X8_17 xr_X8_8 k100 g1 ?_
  refine x_iload 5 dX8_mustPay_25 rfl ?_
  refine x_iconst (v := 0) dX8_mustPay_27 rfl ?_
  refine x_iadd dX8_mustPay_28 ?_
  refine x_dup2 dX8_mustPay_29 rfl rfl ?_
  obtain ⟨c6, h⟩ := x_ck h
  refine x_iald dX8_mustPay_30 k2 (xb_at n3 c6) rfl ?_
  refine x_iload 6 dX8_mustPay_31 rfl ?_
  refine x_isub dX8_mustPay_33 ?_
  obtain ⟨c7, h⟩ := x_ck h
  refine x_iast dX8_mustPay_34 k2 (xb_at n3 c7) rfl ?_
  obtain ⟨N8, eN8, h⟩ := x_lt h
  refine x_nmN eN8 ?_
  refine x_aload_n 0 dX8_mustPay_35 rfl rfl ?_
  refine x_getr dX8_mustPay_36 vc_X8 xin8 fb_X8_8 fl_X8_17 xr_X8_8 k100 g1 ?_
  refine x_iload 5 dX8_mustPay_39 rfl ?_
  refine x_iload_n 3 dX8_mustPay_41 rfl rfl ?_
  refine x_iadd dX8_mustPay_42 ?_
  refine x_dup2 dX8_mustPay_43 rfl rfl ?_
  obtain ⟨c9, h⟩ := x_ck h
  refine x_iald dX8_mustPay_44 k2 (xb_at n3 c9) rfl ?_
  refine x_iload 6 dX8_mustPay_45 rfl ?_
  refine x_iadd dX8_mustPay_47 ?_
  obtain ⟨c10, h⟩ := x_ck h
  refine x_iast dX8_mustPay_48 k2 (xb_at n3 c10) rfl ?_
  obtain ⟨N11, eN11, h⟩ := x_lt h
  refine x_nmN eN11 ?_
  refine x_aload_n 0 dX8_mustPay_49 rfl rfl ?_
  refine x_getr dX8_mustPay_50 vc_X8 xin8 fb_X8_8 fl_X8_17 xr_X8_8 k100 g1 ?_
  refine x_iload 4 dX8_mustPay_53 rfl ?_
  refine x_dup2 dX8_mustPay_55 rfl rfl ?_
  obtain ⟨c12, h⟩ := x_ck h
  refine x_iald dX8_mustPay_56 k2 (xb_at n3 c12) rfl ?_
  refine x_iload 6 dX8_mustPay_57 rfl ?_
  refine x_iadd dX8_mustPay_59 ?_
  obtain ⟨c13, h⟩ := x_ck h
  refine x_iast dX8_mustPay_60 k2 (xb_at n3 c13) rfl ?_
  obtain ⟨N14, eN14, h⟩ := x_lt h
  refine x_nmN eN14 ?_
  refine x_iload 6 dX8_mustPay_61 rfl ?_
  refine x_iload_n 2 dX8_mustPay_63 rfl rfl ?_
  rcases x_if h with ⟨c15, h⟩ | ⟨c15, h⟩
  · refine x_icmp_ne_f (tgt := 68) dX8_mustPay_64 (by decide) c15 ?_
    obtain rfl := x_so h
    exact x_vret dX8_mustPay_67 rfl rfl rfl
  · refine x_icmp_ne_t (tgt := 68) dX8_mustPay_64 (by decide) c15 ?_
    refine x_aload_n 0 dX8_mustPay_68 rfl rfl ?_
    refine x_getr dX8_mustPay_69 vc_X8 xin8 fb_X8_8 fl_X8_17 xr_X8_8 k100 g1 ?_
    refine x_iload 5 dX8_mustPay_72 rfl ?_
    refine x_iconst (v := 2) dX8_mustPay_74 rfl ?_
    refine x_iadd dX8_mustPay_75 ?_
    refine x_iconst (v := 1) dX8_mustPay_76 rfl ?_
    obtain ⟨c16, h⟩ := x_ck h
    refine x_iast dX8_mustPay_77 k2 (xb_at n3 c16) rfl ?_
    obtain ⟨N17, eN17, h⟩ := x_lt h
    refine x_nmN eN17 ?_
    refine x_iconst (v := 0) dX8_mustPay_78 rfl ?_
    refine x_istore (L' := [(0, .ref a0), (1, .int a1), (7, .int 0)]) [1, 2, 0] dX8_mustPay_79 (by decide) rfl ?_
    exact T_X8_mustPay_81 (G := G) hw FU a0 a1 0 N17 k100 h
set_option maxHeartbeats 4000000 in
set_option maxRecDepth 100000 in
theorem T_X8_limited {G : XG} {Y : XY} (hw : WT Y) {a0 : Int64} {N : XN}  {r9 : Int64} (h : f_X8_limited Y a0 N = r9) : Cl G yX8_limited cX8_limited 2 (some .long) (xR 1 0 0) [.long a0] (.inl (some (.long r9))) Y N Y N := by
  refine x_entry (by decide) (Nat.le_of_ble_eq_true rfl) rfl ?_
  rw [f_X8_limited] at h
  refine x_lload_n 0 dX8_limited_0 rfl rfl ?_
  refine x_ldc2 (v := 1000000) dX8_limited_1 kl_X8_231 ?_
  refine x_lcmp dX8_limited_4 ?_
  rcases x_if h with ⟨c1, h⟩ | ⟨c1, h⟩
  · refine x_if_le_t (tgt := 14) dX8_limited_5 (by decide) c1 ?_
    refine x_lload_n 0 dX8_limited_14 rfl rfl ?_
    refine x_ldc2 (v := (-1000000)) dX8_limited_15 kl_X8_233 ?_
    refine x_lcmp dX8_limited_18 ?_
    rcases x_if h with ⟨c2, h⟩ | ⟨c2, h⟩
    · refine x_if_ge_t (tgt := 28) dX8_limited_19 (by decide) c2 ?_
      refine x_lload_n 0 dX8_limited_28 rfl rfl ?_
      subst h
      exact x_lret dX8_limited_29 rfl rfl rfl
    · refine x_if_ge_f (tgt := 28) dX8_limited_19 (by decide) c2 ?_
      refine x_ldc2 (v := (-1000000)) dX8_limited_22 kl_X8_233 ?_
      refine x_goto (tgt := 29) dX8_limited_25 (by decide) ?_
      subst h
      exact x_lret dX8_limited_29 rfl rfl rfl
  · refine x_if_le_f (tgt := 14) dX8_limited_5 (by decide) c1 ?_
    refine x_ldc2 (v := 1000000) dX8_limited_8 kl_X8_231 ?_
    refine x_goto (tgt := 29) dX8_limited_11 (by decide) ?_
    subst h
    exact x_lret dX8_limited_29 rfl rfl rfl
set_option maxHeartbeats 4000000 in
set_option maxRecDepth 100000 in
theorem T_X8_operate {G : XG} {Y : XY} (hw : WT Y) {a0 : Int32} {a1 : Int64} {a2 : Int64} {N : XN}  {r9 : Int64} (h : f_X8_operate Y a0 a1 a2 N = some r9) : Cl G yX8_operate cX8_operate 5 (some .long) (xR 2 0 0) [.int a0, .long a1, .long a2] (.inl (some (.long r9))) Y N Y N := by
  refine x_entry (by decide) (Nat.le_of_ble_eq_true rfl) rfl ?_
  rw [f_X8_operate] at h
  refine x_iload_n 0 dX8_operate_0 rfl rfl ?_
  refine x_iconst (v := 5) dX8_operate_1 rfl ?_
  rcases x_if h with ⟨c1, h⟩ | ⟨c1, h⟩
  · refine x_icmp_ne_f (tgt := 19) dX8_operate_2 (by decide) c1 ?_
    refine x_lload_n 2 dX8_operate_5 rfl rfl ?_
    refine x_lconst (v := 0) dX8_operate_6 rfl ?_
    refine x_lcmp dX8_operate_7 ?_
    rcases x_if h with ⟨c2, h⟩ | ⟨c2, h⟩
    · refine x_if_ne_f (tgt := 15) dX8_operate_8 (by decide) c2 ?_
      refine x_lconst (v := 0) dX8_operate_11 rfl ?_
      refine x_goto (tgt := 18) dX8_operate_12 (by decide) ?_
      obtain rfl := x_so h
      exact x_lret dX8_operate_18 rfl rfl rfl
    · refine x_if_ne_t (tgt := 15) dX8_operate_8 (by decide) c2 ?_
      refine x_lload_n 1 dX8_operate_15 rfl rfl ?_
      refine x_lload_n 2 dX8_operate_16 rfl rfl ?_
      obtain ⟨c3, h⟩ := x_cn h
      refine x_ldiv dX8_operate_17 c3 ?_
      obtain rfl := x_so h
      exact x_lret dX8_operate_18 rfl rfl rfl
  · refine x_icmp_ne_t (tgt := 19) dX8_operate_2 (by decide) c1 ?_
    refine x_iload_n 0 dX8_operate_19 rfl rfl ?_
    refine x_iconst (v := 2) dX8_operate_20 rfl ?_
    rcases x_if h with ⟨c4, h⟩ | ⟨c4, h⟩
    · refine x_icmp_ne_f (tgt := 30) dX8_operate_21 (by decide) c4 ?_
      refine x_lload_n 1 dX8_operate_24 rfl rfl ?_
      refine x_lload_n 2 dX8_operate_25 rfl rfl ?_
      refine x_ladd dX8_operate_26 ?_
      refine x_goto (tgt := 44) dX8_operate_27 (by decide) ?_
      refine x_cs (As := [.long (a1 + a2)]) (d' := 1) (zz := yX8_limited) dX8_operate_44 ml_X8_235 wt_X8_limited wn_X8 wc_X8_limited hp_X8_limited (by decide) (by decide) rfl (Nat.le_of_ble_eq_true rfl) ⟨Nat.zero_le _, Nat.zero_le _⟩ (T_X8_limited (G := G) hw  rfl) ?_
      obtain rfl := x_so h
      exact x_lret dX8_operate_47 rfl rfl rfl
    · refine x_icmp_ne_t (tgt := 30) dX8_operate_21 (by decide) c4 ?_
      refine x_iload_n 0 dX8_operate_30 rfl rfl ?_
      refine x_iconst (v := 3) dX8_operate_31 rfl ?_
      rcases x_if h with ⟨c5, h⟩ | ⟨c5, h⟩
      · refine x_icmp_ne_f (tgt := 41) dX8_operate_32 (by decide) c5 ?_
        refine x_lload_n 1 dX8_operate_35 rfl rfl ?_
        refine x_lload_n 2 dX8_operate_36 rfl rfl ?_
        refine x_lsub dX8_operate_37 ?_
        refine x_goto (tgt := 44) dX8_operate_38 (by decide) ?_
        refine x_cs (As := [.long (a1 - a2)]) (d' := 1) (zz := yX8_limited) dX8_operate_44 ml_X8_235 wt_X8_limited wn_X8 wc_X8_limited hp_X8_limited (by decide) (by decide) rfl (Nat.le_of_ble_eq_true rfl) ⟨Nat.zero_le _, Nat.zero_le _⟩ (T_X8_limited (G := G) hw  rfl) ?_
        obtain rfl := x_so h
        exact x_lret dX8_operate_47 rfl rfl rfl
      · refine x_icmp_ne_t (tgt := 41) dX8_operate_32 (by decide) c5 ?_
        refine x_lload_n 1 dX8_operate_41 rfl rfl ?_
        refine x_lload_n 2 dX8_operate_42 rfl rfl ?_
        refine x_lmul dX8_operate_43 ?_
        refine x_cs (As := [.long (a1 * a2)]) (d' := 1) (zz := yX8_limited) dX8_operate_44 ml_X8_235 wt_X8_limited wn_X8 wc_X8_limited hp_X8_limited (by decide) (by decide) rfl (Nat.le_of_ble_eq_true rfl) ⟨Nat.zero_le _, Nat.zero_le _⟩ (T_X8_limited (G := G) hw  rfl) ?_
        obtain rfl := x_so h
        exact x_lret dX8_operate_47 rfl rfl rfl
