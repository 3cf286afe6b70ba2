set_option maxHeartbeats 4000000 in
set_option maxRecDepth 100000 in
theorem T_X8_layUsual_2 {G : XG} {Y : XY} (hw : WT Y) {N9 : XN}: ∀ (D9 : Nat) (p_0 : Nat) (v_1 : Int32) (N : XN), kc Y p_0 = 1 → f_X8_layUsual_2 Y D9 p_0 v_1 N = some N9 → Ex G yX8_layUsual cX8_layUsual 2 none (xR 1 0 0) (.inl none) Y N9 0 0 2 [(0, .ref p_0), (1, .int v_1)] [] Y N := by
  intro D9
  induction D9 with
  | zero => intro p_0 v_1 N kk0 h; exact nomatch (show none = some N9 from h)
  | succ D9 ih =>
    intro p_0 v_1 N kk0 h
    rw [f_X8_layUsual_2] at h
    refine x_iload_n 1 dX8_layUsual_2 rfl rfl ?_
    refine x_sipush (v := 1784) dX8_layUsual_3 rfl ?_
    rcases x_if h with ⟨c1, h⟩ | ⟨c1, h⟩
    · refine x_icmp_ge_t (tgt := 19) dX8_layUsual_6 (by decide) c1 ?_
      refine x_aload_n 0 dX8_layUsual_19 rfl rfl ?_
      refine x_iconst (v := 5) dX8_layUsual_20 rfl ?_
      refine x_iconst (v := 5) dX8_layUsual_21 rfl ?_
      obtain ⟨c2, h⟩ := x_ck h
      refine x_iast dX8_layUsual_22 kk0 (xb_in c2) rfl ?_
      obtain ⟨N3, eN3, h⟩ := x_lt h
      refine x_nmN eN3 ?_
      refine x_aload_n 0 dX8_layUsual_23 rfl rfl ?_
      refine x_bipush (v := 6) dX8_layUsual_24 rfl ?_
      refine x_bipush (v := 10) dX8_layUsual_26 rfl ?_
      obtain ⟨c4, h⟩ := x_ck h
      refine x_iast dX8_layUsual_28 kk0 (xb_in c4) rfl ?_
      obtain ⟨N5, eN5, h⟩ := x_lt h
      refine x_nmN eN5 ?_
      refine x_aload_n 0 dX8_layUsual_29 rfl rfl ?_
      refine x_bipush (v := 7) dX8_layUsual_30 rfl ?_
      refine x_bipush (v := 10) dX8_layUsual_32 rfl ?_
      obtain ⟨c6, h⟩ := x_ck h
      refine x_iast dX8_layUsual_34 kk0 (xb_in c6) rfl ?_
      obtain ⟨N7, eN7, h⟩ := x_lt h
      refine x_nmN eN7 ?_
      refine x_aload_n 0 dX8_layUsual_35 rfl rfl ?_
      refine x_bipush (v := 8) dX8_layUsual_36 rfl ?_
      refine x_bipush (v := 10) dX8_layUsual_38 rfl ?_
      obtain ⟨c8, h⟩ := x_ck h
      refine x_iast dX8_layUsual_40 kk0 (xb_in c8) rfl ?_
      obtain ⟨N9, eN9, h⟩ := x_lt h
      refine x_nmN eN9 ?_
      refine x_aload_n 0 dX8_layUsual_41 rfl rfl ?_
      refine x_bipush (v := 9) dX8_layUsual_42 rfl ?_
      refine x_iconst (v := 1) dX8_layUsual_44 rfl ?_
      obtain ⟨c10, h⟩ := x_ck h
      refine x_iast dX8_layUsual_45 kk0 (xb_in c10) rfl ?_
      obtain ⟨N11, eN11, h⟩ := x_lt h
      refine x_nmN eN11 ?_
      obtain rfl := x_so h
      exact x_vret dX8_layUsual_46 rfl rfl rfl
    · refine x_icmp_ge_f (tgt := 19) dX8_layUsual_6 (by decide) c1 ?_
      refine x_aload_n 0 dX8_layUsual_9 rfl rfl ?_
      refine x_iload_n 1 dX8_layUsual_10 rfl rfl ?_
      refine x_iconst (v := 0) dX8_layUsual_11 rfl ?_
      obtain ⟨c12, h⟩ := x_ck h
      refine x_iast dX8_layUsual_12 kk0 (xb_in c12) rfl ?_
      obtain ⟨N13, eN13, h⟩ := x_lt h
      refine x_nmN eN13 ?_
      refine x_iinc 1 [1, 0] dX8_layUsual_13 rfl rfl (by decide) rfl ?_
      refine x_goto (tgt := 2) dX8_layUsual_16 (by decide) ?_
      exact ih p_0 (v_1 + 1) N13 kk0 h
set_option maxHeartbeats 4000000 in
set_option maxRecDepth 100000 in
theorem T_X8_layUsual {G : XG} {Y : XY} (hw : WT Y) {a0 : Nat} {N : XN} (k100 : kc Y a0 = 1) {N9 : XN} (h : f_X8_layUsual Y a0 N = some N9) : Cl G yX8_layUsual cX8_layUsual 2 none (xR 1 0 0) [.ref a0] (.inl none) Y N Y N9 := by
  refine x_entry (by decide) (Nat.le_of_ble_eq_true rfl) rfl ?_
  rw [f_X8_layUsual] at h
  refine x_iconst (v := 0) dX8_layUsual_0 rfl ?_
  refine x_istore_n [1, 0] dX8_layUsual_1 rfl (by decide) rfl ?_
  exact T_X8_layUsual_2 (G := G) hw FU a0 0 N k100 h
set_option maxHeartbeats 4000000 in
set_option maxRecDepth 100000 in
theorem T_X8_thrown {G : XG} {Y : XY} (hw : WT Y) {a0 : Nat} {N : XN} (k100 : kc Y a0 = 18) {r9 : Int32} (h : f_X8_thrown Y a0 N = r9) : Cl G yX8_thrown cX8_thrown 1 (some .int) (xR 1 0 0) [.ref a0] (.inl (some (.int r9))) Y N Y N := by
  refine x_entry (by decide) (Nat.le_of_ble_eq_true rfl) rfl ?_
  rw [f_X8_thrown] at h
  refine x_aload_n 0 dX8_thrown_0 rfl rfl ?_
  refine x_geti dX8_thrown_1 (ci := 8) (f := 0) (M := 19) (C9 := RX8) (T9 := TX8) rfl xin8 (by decide) fl_X8_45 rfl k100 ?_
  subst h
  exact x_iret dX8_thrown_4 rfl rfl rfl
set_option maxHeartbeats 4000000 in
set_option maxRecDepth 100000 in
theorem T_X8_fails {G : XG} {Y : XY} (hw : WT Y) {a0 : Nat} {a1 : Int32} {a2 : Int32} {N : XN} (k100 : kc Y a0 = 18) {r9 : Int32} {N9 : XN} (h : f_X8_fails Y a0 a1 a2 N = some (r9, N9)) : Cl G yX8_fails cX8_fails 3 (some .boolean) (xR 1 0 0) [.ref a0, .int a1, .int a2] (.inl (some (.int r9))) Y N Y N9 := by
  refine x_entry (by decide) (Nat.le_of_ble_eq_true rfl) rfl ?_
  rw [f_X8_fails] at h
  refine x_iload_n 1 dX8_fails_0 rfl rfl ?_
  rcases x_if h with ⟨c1, h⟩ | ⟨c1, h⟩
  · refine x_if_eq_t (tgt := 16) dX8_fails_1 (by decide) c1 ?_
    refine x_aload_n 0 dX8_fails_16 rfl rfl ?_
    refine x_geti dX8_fails_17 (ci := 8) (f := 0) (M := 19) (C9 := RX8) (T9 := TX8) rfl xin8 (by decide) fl_X8_45 rfl k100 ?_
    rcases x_if h with ⟨c2, h⟩ | ⟨c2, h⟩
    · refine x_if_eq_t (tgt := 27) dX8_fails_20 (by decide) c2 ?_
      refine x_iconst (v := 0) dX8_fails_27 rfl ?_
      obtain ⟨rfl, rfl⟩ := Prod.mk.inj (x_so h)
      exact x_zret dX8_fails_28 rfl (by decide) rfl rfl
    · refine x_if_eq_f (tgt := 27) dX8_fails_20 (by decide) c2 ?_
      refine x_iconst (v := 1) dX8_fails_23 rfl ?_
      refine x_goto (tgt := 28) dX8_fails_24 (by decide) ?_
      obtain ⟨rfl, rfl⟩ := Prod.mk.inj (x_so h)
      exact x_zret dX8_fails_28 rfl (by decide) rfl rfl
  · refine x_if_eq_f (tgt := 16) dX8_fails_1 (by decide) c1 ?_
    refine x_aload_n 0 dX8_fails_4 rfl rfl ?_
    refine x_geti dX8_fails_5 (ci := 8) (f := 0) (M := 19) (C9 := RX8) (T9 := TX8) rfl xin8 (by decide) fl_X8_45 rfl k100 ?_
    rcases x_if h with ⟨c3, h⟩ | ⟨c3, h⟩
    · refine x_if_ne_f (tgt := 16) dX8_fails_8 (by decide) c3 ?_
      refine x_aload_n 0 dX8_fails_11 rfl rfl ?_
      refine x_iload_n 2 dX8_fails_12 rfl rfl ?_
      refine x_puti dX8_fails_13 (ci := 8) (f := 0) (M := 19) (C9 := RX8) (T9 := TX8) rfl xin8 tyX8_ok nmX8 (by decide) fl_X8_45 rfl rfl rfl rfl k100 ?_
      obtain ⟨N4, eN4, h⟩ := x_lt h
      refine x_nmN eN4 ?_
      refine x_aload_n 0 dX8_fails_16 rfl rfl ?_
      refine x_geti dX8_fails_17 (ci := 8) (f := 0) (M := 19) (C9 := RX8) (T9 := TX8) rfl xin8 (by decide) fl_X8_45 rfl k100 ?_
      rcases x_if h with ⟨c5, h⟩ | ⟨c5, h⟩
      · refine x_if_eq_t (tgt := 27) dX8_fails_20 (by decide) c5 ?_
        refine x_iconst (v := 0) dX8_fails_27 rfl ?_
        obtain ⟨rfl, rfl⟩ := Prod.mk.inj (x_so h)
        exact x_zret dX8_fails_28 rfl (by decide) rfl rfl
      · refine x_if_eq_f (tgt := 27) dX8_fails_20 (by decide) c5 ?_
        refine x_iconst (v := 1) dX8_fails_23 rfl ?_
        refine x_goto (tgt := 28) dX8_fails_24 (by decide) ?_
        obtain ⟨rfl, rfl⟩ := Prod.mk.inj (x_so h)
        exact x_zret dX8_fails_28 rfl (by decide) rfl rfl
    · refine x_if_ne_t (tgt := 16) dX8_fails_8 (by decide) c3 ?_
      refine x_aload_n 0 dX8_fails_16 rfl rfl ?_
      refine x_geti dX8_fails_17 (ci := 8) (f := 0) (M := 19) (C9 := RX8) (T9 := TX8) rfl xin8 (by decide) fl_X8_45 rfl k100 ?_
      rcases x_if h with ⟨c6, h⟩ | ⟨c6, h⟩
      · refine x_if_eq_t (tgt := 27) dX8_fails_20 (by decide) c6 ?_
        refine x_iconst (v := 0) dX8_fails_27 rfl ?_
        obtain ⟨rfl, rfl⟩ := Prod.mk.inj (x_so h)
        exact x_zret dX8_fails_28 rfl (by decide) rfl rfl
      · refine x_if_eq_f (tgt := 27) dX8_fails_20 (by decide) c6 ?_
        refine x_iconst (v := 1) dX8_fails_23 rfl ?_
        refine x_goto (tgt := 28) dX8_fails_24 (by decide) ?_
        obtain ⟨rfl, rfl⟩ := Prod.mk.inj (x_so h)
        exact x_zret dX8_fails_28 rfl (by decide) rfl rfl
set_option maxHeartbeats 4000000 in
set_option maxRecDepth 100000 in
theorem T_X8_in {G : XG} {Y : XY} (hw : WT Y) {a0 : Int32} {a1 : Int32} {a2 : Int32} {N : XN}  {r9 : Int32} (h : f_X8_in Y a0 a1 a2 N = r9) : Cl G yX8_in cX8_in 3 (some .boolean) (xR 1 0 0) [.int a0, .int a1, .int a2] (.inl (some (.int r9))) Y N Y N := by
  refine x_entry (by decide) (Nat.le_of_ble_eq_true rfl) rfl ?_
  rw [f_X8_in] at h
  refine x_iload_n 0 dX8_in_0 rfl rfl ?_
  refine x_iload_n 1 dX8_in_1 rfl rfl ?_
  rcases x_if h with ⟨c1, h⟩ | ⟨c1, h⟩
  · refine x_icmp_lt_t (tgt := 14) dX8_in_2 (by decide) c1 ?_
    refine x_iconst (v := 0) dX8_in_14 rfl ?_
    subst h
    exact x_zret dX8_in_15 rfl (by decide) rfl rfl
  · refine x_icmp_lt_f (tgt := 14) dX8_in_2 (by decide) c1 ?_
    refine x_iload_n 0 dX8_in_5 rfl rfl ?_
    refine x_iload_n 2 dX8_in_6 rfl rfl ?_
    rcases x_if h with ⟨c2, h⟩ | ⟨c2, h⟩
    · refine x_icmp_gt_t (tgt := 14) dX8_in_7 (by decide) c2 ?_
      refine x_iconst (v := 0) dX8_in_14 rfl ?_
      subst h
      exact x_zret dX8_in_15 rfl (by decide) rfl rfl
    · refine x_icmp_gt_f (tgt := 14) dX8_in_7 (by decide) c2 ?_
      refine x_iconst (v := 1) dX8_in_10 rfl ?_
      refine x_goto (tgt := 15) dX8_in_11 (by decide) ?_
      subst h
      exact x_zret dX8_in_15 rfl (by decide) rfl rfl
set_option maxHeartbeats 4000000 in
set_option maxRecDepth 100000 in
theorem T_X8_min {G : XG} {Y : XY} (hw : WT Y) {a0 : Int32} {a1 : Int32} {N : XN}  {r9 : Int32} (h : f_X8_min Y a0 a1 N = r9) : Cl G yX8_min cX8_min 2 (some .int) (xR 1 0 0) [.int a0, .int a1] (.inl (some (.int r9))) Y N Y N := by
  refine x_entry (by decide) (Nat.le_of_ble_eq_true rfl) rfl ?_
  rw [f_X8_min] at h
  refine x_iload_n 0 dX8_min_0 rfl rfl ?_
  refine x_iload_n 1 dX8_min_1 rfl rfl ?_
  rcases x_if h with ⟨c1, h⟩ | ⟨c1, h⟩
  · refine x_icmp_ge_t (tgt := 9) dX8_min_2 (by decide) c1 ?_
    refine x_iload_n 1 dX8_min_9 rfl rfl ?_
    subst h
    exact x_iret dX8_min_10 rfl rfl rfl
  · refine x_icmp_ge_f (tgt := 9) dX8_min_2 (by decide) c1 ?_
    refine x_iload_n 0 dX8_min_5 rfl rfl ?_
    refine x_goto (tgt := 10) dX8_min_6 (by decide) ?_
    subst h
    exact x_iret dX8_min_10 rfl rfl rfl
set_option maxHeartbeats 4000000 in
set_option maxRecDepth 100000 in
theorem T_X8_copy_2 {G : XG} {Y : XY} (hw : WT Y) {N9 : XN}: ∀ (D9 : Nat) (p_0 : Nat) (p_1 : Nat) (v_2 : Int32) (v_3 : Int32) (N : XN), kc Y p_0 = 1 → kc Y p_1 = 1 → f_X8_copy_2 Y D9 p_0 p_1 v_2 v_3 N = some N9 → Ex G yX8_copy cX8_copy 4 none (xR 1 0 0) (.inl none) Y N9 0 0 2 [(0, .ref p_0), (1, .ref p_1), (2, .int v_2), (3, .int v_3)] [] Y N := by
  intro D9
  induction D9 with
  | zero => intro p_0 p_1 v_2 v_3 N kk0 kk1 h; exact nomatch (show none = some N9 from h)
  | succ D9 ih =>
    intro p_0 p_1 v_2 v_3 N kk0 kk1 h
    rw [f_X8_copy_2] at h
    refine x_iload_n 3 dX8_copy_2 rfl rfl ?_
    refine x_iload_n 2 dX8_copy_3 rfl rfl ?_
    rcases x_if h with ⟨c1, h⟩ | ⟨c1, h⟩
    · refine x_icmp_ge_t (tgt := 19) dX8_copy_4 (by decide) c1 ?_
      obtain rfl := x_so h
      exact x_vret dX8_copy_19 rfl rfl rfl
    · refine x_icmp_ge_f (tgt := 19) dX8_copy_4 (by decide) c1 ?_
      refine x_aload_n 1 dX8_copy_7 rfl rfl ?_
      refine x_iload_n 3 dX8_copy_8 rfl rfl ?_
      refine x_aload_n 0 dX8_copy_9 rfl rfl ?_
      refine x_iload_n 3 dX8_copy_10 rfl rfl ?_
      obtain ⟨c2, h⟩ := x_ck h
      refine x_iald dX8_copy_11 kk0 (xb_in c2) rfl ?_
      obtain ⟨c3, h⟩ := x_ck h
      refine x_iast dX8_copy_12 kk1 (xb_in c3) rfl ?_
      obtain ⟨N4, eN4, h⟩ := x_lt h
      refine x_nmN eN4 ?_
      refine x_iinc 3 [1, 2, 3, 0] dX8_copy_13 rfl rfl (by decide) rfl ?_
      refine x_goto (tgt := 2) dX8_copy_16 (by decide) ?_
      exact ih p_0 p_1 v_2 (v_3 + 1) N4 kk0 kk1 h
set_option maxHeartbeats 4000000 in
set_option maxRecDepth 100000 in
theorem T_X8_copy {G : XG} {Y : XY} (hw : WT Y) {a0 : Nat} {a1 : Nat} {a2 : Int32} {N : XN} (k100 : kc Y a0 = 1) (k101 : kc Y a1 = 1) {N9 : XN} (h : f_X8_copy Y a0 a1 a2 N = some N9) : Cl G yX8_copy cX8_copy 4 none (xR 1 0 0) [.ref a0, .ref a1, .int a2] (.inl none) Y N Y N9 := by
  refine x_entry (by decide) (Nat.le_of_ble_eq_true rfl) rfl ?_
  rw [f_X8_copy] at h
  refine x_iconst (v := 0) dX8_copy_0 rfl ?_
  refine x_istore_n [1, 2, 3, 0] dX8_copy_1 rfl (by decide) rfl ?_
  exact T_X8_copy_2 (G := G) hw FU a0 a1 a2 0 N k100 k101 h
set_option maxHeartbeats 4000000 in
set_option maxRecDepth 100000 in
theorem T_X8_append_23 {G : XG} {Y : XY} (hw : WT Y) {r9 : Int32} {N9 : XN}: ∀ (D9 : Nat) (p_0 : Nat) (v_1 : Int32) (v_2 : Int32) (v_3 : Int32) (v_4 : Int32) (v_5 : Int32) (v_6 : Int32) (N : XN), kc Y p_0 = 18 → f_X8_append_23 Y D9 p_0 v_1 v_2 v_3 v_4 v_5 v_6 N = some (r9, N9) → Ex G yX8_append cX8_append 8 (some .int) (xR 1 0 0) (.inl (some (.int r9))) Y N9 0 0 23 [(0, .ref p_0), (1, .int v_1), (2, .int v_2), (3, .int v_3), (4, .int v_4), (5, .int v_5), (6, .int v_6)] [] Y N := by
  intro D9
  induction D9 with
  | zero => intro p_0 v_1 v_2 v_3 v_4 v_5 v_6 N kk0 h; exact nomatch (show none = some (r9, N9) from h)
  | succ D9 ih =>
    intro p_0 v_1 v_2 v_3 v_4 v_5 v_6 N kk0 h
    rw [f_X8_append_23] at h
    refine x_iload 6 dX8_append_23 rfl ?_
    refine x_bipush (v := 20) dX8_append_25 rfl ?_
    rcases x_if h with ⟨c1, h⟩ | ⟨c1, h⟩
    · refine x_icmp_ge_t (tgt := 120) dX8_append_27 (by decide) c1 ?_
      refine x_aload_n 0 dX8_append_120 rfl rfl ?_
      refine x_geti dX8_append_121 (ci := 8) (f := 2) (M := 19) (C9 := RX8) (T9 := TX8) rfl xin8 (by decide) fl_X8_48 rfl kk0 ?_
      obtain ⟨rfl, rfl⟩ := Prod.mk.inj (x_so h)
      exact x_iret dX8_append_124 rfl rfl rfl
    · refine x_icmp_ge_f (tgt := 120) dX8_append_27 (by decide) c1 ?_
      refine x_iload 6 dX8_append_30 rfl ?_
      refine x_iconst (v := 4) dX8_append_32 rfl ?_
      rcases x_if h with ⟨c2, h⟩ | ⟨c2, h⟩
      · refine x_icmp_ge_t (tgt := 40) dX8_append_33 (by decide) c2 ?_
        refine x_iload 6 dX8_append_40 rfl ?_
        refine x_bipush (v := 8) dX8_append_42 rfl ?_
        rcases x_if h with ⟨c3, h⟩ | ⟨c3, h⟩
        · refine x_icmp_ge_t (tgt := 51) dX8_append_44 (by decide) c3 ?_
          refine x_iload 6 dX8_append_51 rfl ?_
          refine x_bipush (v := 12) dX8_append_53 rfl ?_
          rcases x_if h with ⟨c4, h⟩ | ⟨c4, h⟩
          · refine x_icmp_ge_t (tgt := 62) dX8_append_55 (by decide) c4 ?_
            refine x_iload 6 dX8_append_62 rfl ?_
            refine x_bipush (v := 16) dX8_append_64 rfl ?_
            rcases x_if h with ⟨c5, h⟩ | ⟨c5, h⟩
            · refine x_icmp_ge_t (tgt := 74) dX8_append_66 (by decide) c5 ?_
              refine x_iload 5 dX8_append_74 rfl ?_
              refine x_istore [1, 2, 3, 4, 5, 6, 7, 0] dX8_append_76 (by decide) rfl ?_
              refine x_aload_n 0 dX8_append_78 rfl rfl ?_
              obtain ⟨g6, k7, n8⟩ := wt_X8_1 hw kk0
              refine x_getr dX8_append_79 (ci := 8) (f := 1) (M := 19) (C9 := RX8) (T9 := TX8) rfl xin8 (by decide) fl_X8_9 rfl kk0 g6 ?_
              refine x_aload_n 0 dX8_append_82 rfl rfl ?_
              refine x_geti dX8_append_83 (ci := 8) (f := 2) (M := 19) (C9 := RX8) (T9 := TX8) rfl xin8 (by decide) fl_X8_48 rfl kk0 ?_
              refine x_iload 7 dX8_append_86 rfl ?_
              refine x_bipush (v := 24) dX8_append_88 rfl ?_
              refine x_bipush (v := 8) dX8_append_90 rfl ?_
              refine x_iload 6 dX8_append_92 rfl ?_
              refine x_iconst (v := 4) dX8_append_94 rfl ?_
              obtain ⟨c9, h⟩ := x_cn h
              refine x_irem dX8_append_95 c9 ?_
              refine x_imul dX8_append_96 ?_
              refine x_isub dX8_append_97 ?_
              refine x_ishr dX8_append_98 ?_
              refine x_sipush (v := 255) dX8_append_99 rfl ?_
              refine x_iand dX8_append_102 ?_
              obtain ⟨c10, h⟩ := x_ck h
              refine x_iast dX8_append_103 k7 (xb_at n8 c10) rfl ?_
              obtain ⟨N11, eN11, h⟩ := x_lt h
              refine x_nmN eN11 ?_
              refine x_aload_n 0 dX8_append_104 rfl rfl ?_
              refine x_dup dX8_append_105 rfl ?_
              refine x_geti dX8_append_106 (ci := 8) (f := 2) (M := 19) (C9 := RX8) (T9 := TX8) rfl xin8 (by decide) fl_X8_48 rfl kk0 ?_
              refine x_iconst (v := 1) dX8_append_109 rfl ?_
              refine x_iadd dX8_append_110 ?_
              refine x_puti dX8_append_111 (ci := 8) (f := 2) (M := 19) (C9 := RX8) (T9 := TX8) rfl xin8 tyX8_ok nmX8 (by decide) fl_X8_48 rfl rfl rfl rfl kk0 ?_
              obtain ⟨N12, eN12, h⟩ := x_lt h
              refine x_nmN eN12 ?_
              refine x_iinc 6 [1, 2, 3, 4, 5, 6, 0] dX8_append_114 rfl rfl (by decide) rfl ?_
              refine x_goto (tgt := 23) dX8_append_117 (by decide) ?_
              exact ih p_0 v_1 v_2 v_3 v_4 v_5 (v_6 + 1) N12 kk0 h
            · refine x_icmp_ge_f (tgt := 74) dX8_append_66 (by decide) c5 ?_
              refine x_iload 4 dX8_append_69 rfl ?_
              refine x_goto (tgt := 76) dX8_append_71 (by decide) ?_
              refine x_istore [1, 2, 3, 4, 5, 6, 7, 0] dX8_append_76 (by decide) rfl ?_
              refine x_aload_n 0 dX8_append_78 rfl rfl ?_
              obtain ⟨g13, k14, n15⟩ := wt_X8_1 hw kk0
              refine x_getr dX8_append_79 (ci := 8) (f := 1) (M := 19) (C9 := RX8) (T9 := TX8) rfl xin8 (by decide) fl_X8_9 rfl kk0 g13 ?_
              refine x_aload_n 0 dX8_append_82 rfl rfl ?_
              refine x_geti dX8_append_83 (ci := 8) (f := 2) (M := 19) (C9 := RX8) (T9 := TX8) rfl xin8 (by decide) fl_X8_48 rfl kk0 ?_
              refine x_iload 7 dX8_append_86 rfl ?_
              refine x_bipush (v := 24) dX8_append_88 rfl ?_
              refine x_bipush (v := 8) dX8_append_90 rfl ?_
              refine x_iload 6 dX8_append_92 rfl ?_
              refine x_iconst (v := 4) dX8_append_94 rfl ?_
              obtain ⟨c16, h⟩ := x_cn h
              refine x_irem dX8_append_95 c16 ?_
              refine x_imul dX8_append_96 ?_
              refine x_isub dX8_append_97 ?_
              refine x_ishr dX8_append_98 ?_
              refine x_sipush (v := 255) dX8_append_99 rfl ?_
              refine x_iand dX8_append_102 ?_
              obtain ⟨c17, h⟩ := x_ck h
              refine x_iast dX8_append_103 k14 (xb_at n15 c17) rfl ?_
              obtain ⟨N18, eN18, h⟩ := x_lt h
              refine x_nmN eN18 ?_
              refine x_aload_n 0 dX8_append_104 rfl rfl ?_
              refine x_dup dX8_append_105 rfl ?_
              refine x_geti dX8_append_106 (ci := 8) (f := 2) (M := 19) (C9 := RX8) (T9 := TX8) rfl xin8 (by decide) fl_X8_48 rfl kk0 ?_
              refine x_iconst (v := 1) dX8_append_109 rfl ?_
              refine x_iadd dX8_append_110 ?_
              refine x_puti dX8_append_111 (ci := 8) (f := 2) (M := 19) (C9 := RX8) (T9 := TX8) rfl xin8 tyX8_ok nmX8 (by decide) fl_X8_48 rfl rfl rfl rfl kk0 ?_
              obtain ⟨N19, eN19, h⟩ := x_lt h
              refine x_nmN eN19 ?_
              refine x_iinc 6 [1, 2, 3, 4, 5, 6, 0] dX8_append_114 rfl rfl (by decide) rfl ?_
              refine x_goto (tgt := 23) dX8_append_117 (by decide) ?_
              exact ih p_0 v_1 v_2 v_3 v_4 v_5 (v_6 + 1) N19 kk0 h
          · refine x_icmp_ge_f (tgt := 62) dX8_append_55 (by decide) c4 ?_
            refine x_iload_n 3 dX8_append_58 rfl rfl ?_
            refine x_goto (tgt := 76) dX8_append_59 (by decide) ?_
            refine x_istore [1, 2, 3, 4, 5, 6, 7, 0] dX8_append_76 (by decide) rfl ?_
            refine x_aload_n 0 dX8_append_78 rfl rfl ?_
            obtain ⟨g20, k21, n22⟩ := wt_X8_1 hw kk0
            refine x_getr dX8_append_79 (ci := 8) (f := 1) (M := 19) (C9 := RX8) (T9 := TX8) rfl xin8 (by decide) fl_X8_9 rfl kk0 g20 ?_
            refine x_aload_n 0 dX8_append_82 rfl rfl ?_
            refine x_geti dX8_append_83 (ci := 8) (f := 2) (M := 19) (C9 := RX8) (T9 := TX8) rfl xin8 (by decide) fl_X8_48 rfl kk0 ?_
            refine x_iload 7 dX8_append_86 rfl ?_
            refine x_bipush (v := 24) dX8_append_88 rfl ?_
            refine x_bipush (v := 8) dX8_append_90 rfl ?_
            refine x_iload 6 dX8_append_92 rfl ?_
            refine x_iconst (v := 4) dX8_append_94 rfl ?_
            obtain ⟨c23, h⟩ := x_cn h
            refine x_irem dX8_append_95 c23 ?_
            refine x_imul dX8_append_96 ?_
            refine x_isub dX8_append_97 ?_
            refine x_ishr dX8_append_98 ?_
            refine x_sipush (v := 255) dX8_append_99 rfl ?_
            refine x_iand dX8_append_102 ?_
            obtain ⟨c24, h⟩ := x_ck h
            refine x_iast dX8_append_103 k21 (xb_at n22 c24) rfl ?_
            obtain ⟨N25, eN25, h⟩ := x_lt h
            refine x_nmN eN25 ?_
            refine x_aload_n 0 dX8_append_104 rfl rfl ?_
            refine x_dup dX8_append_105 rfl ?_
            refine x_geti dX8_append_106 (ci := 8) (f := 2) (M := 19) (C9 := RX8) (T9 := TX8) rfl xin8 (by decide) fl_X8_48 rfl kk0 ?_
            refine x_iconst (v := 1) dX8_append_109 rfl ?_
            refine x_iadd dX8_append_110 ?_
            refine x_puti dX8_append_111 (ci := 8) (f := 2) (M := 19) (C9 := RX8) (T9 := TX8) rfl xin8 tyX8_ok nmX8 (by decide) fl_X8_48 rfl rfl rfl rfl kk0 ?_
            obtain ⟨N26, eN26, h⟩ := x_lt h
            refine x_nmN eN26 ?_
            refine x_iinc 6 [1, 2, 3, 4, 5, 6, 0] dX8_append_114 rfl rfl (by decide) rfl ?_
            refine x_goto (tgt := 23) dX8_append_117 (by decide) ?_
            exact ih p_0 v_1 v_2 v_3 v_4 v_5 (v_6 + 1) N26 kk0 h
        · refine x_icmp_ge_f (tgt := 51) dX8_append_44 (by decide) c3 ?_
          refine x_iload_n 2 dX8_append_47 rfl rfl ?_
          refine x_goto (tgt := 76) dX8_append_48 (by decide) ?_
          refine x_istore [1, 2, 3, 4, 5, 6, 7, 0] dX8_append_76 (by decide) rfl ?_
          refine x_aload_n 0 dX8_append_78 rfl rfl ?_
          obtain ⟨g27, k28, n29⟩ := wt_X8_1 hw kk0
          refine x_getr dX8_append_79 (ci := 8) (f := 1) (M := 19) (C9 := RX8) (T9 := TX8) rfl xin8 (by decide) fl_X8_9 rfl kk0 g27 ?_
          refine x_aload_n 0 dX8_append_82 rfl rfl ?_
          refine x_geti dX8_append_83 (ci := 8) (f := 2) (M := 19) (C9 := RX8) (T9 := TX8) rfl xin8 (by decide) fl_X8_48 rfl kk0 ?_
          refine x_iload 7 dX8_append_86 rfl ?_
          refine x_bipush (v := 24) dX8_append_88 rfl ?_
          refine x_bipush (v := 8) dX8_append_90 rfl ?_
          refine x_iload 6 dX8_append_92 rfl ?_
          refine x_iconst (v := 4) dX8_append_94 rfl ?_
          obtain ⟨c30, h⟩ := x_cn h
          refine x_irem dX8_append_95 c30 ?_
          refine x_imul dX8_append_96 ?_
          refine x_isub dX8_append_97 ?_
          refine x_ishr dX8_append_98 ?_
          refine x_sipush (v := 255) dX8_append_99 rfl ?_
          refine x_iand dX8_append_102 ?_
          obtain ⟨c31, h⟩ := x_ck h
          refine x_iast dX8_append_103 k28 (xb_at n29 c31) rfl ?_
          obtain ⟨N32, eN32, h⟩ := x_lt h
          refine x_nmN eN32 ?_
          refine x_aload_n 0 dX8_append_104 rfl rfl ?_
          refine x_dup dX8_append_105 rfl ?_
          refine x_geti dX8_append_106 (ci := 8) (f := 2) (M := 19) (C9 := RX8) (T9 := TX8) rfl xin8 (by decide) fl_X8_48 rfl kk0 ?_
          refine x_iconst (v := 1) dX8_append_109 rfl ?_
          refine x_iadd dX8_append_110 ?_
          refine x_puti dX8_append_111 (ci := 8) (f := 2) (M := 19) (C9 := RX8) (T9 := TX8) rfl xin8 tyX8_ok nmX8 (by decide) fl_X8_48 rfl rfl rfl rfl kk0 ?_
          obtain ⟨N33, eN33, h⟩ := x_lt h
          refine x_nmN eN33 ?_
          refine x_iinc 6 [1, 2, 3, 4, 5, 6, 0] dX8_append_114 rfl rfl (by decide) rfl ?_
          refine x_goto (tgt := 23) dX8_append_117 (by decide) ?_
          exact ih p_0 v_1 v_2 v_3 v_4 v_5 (v_6 + 1) N33 kk0 h
      · refine x_icmp_ge_f (tgt := 40) dX8_append_33 (by decide) c2 ?_
        refine x_iload_n 1 dX8_append_36 rfl rfl ?_
        refine x_goto (tgt := 76) dX8_append_37 (by decide) ?_
        refine x_istore [1, 2, 3, 4, 5, 6, 7, 0] dX8_append_76 (by decide) rfl ?_
        refine x_aload_n 0 dX8_append_78 rfl rfl ?_
        obtain ⟨g34, k35, n36⟩ := wt_X8_1 hw kk0
        refine x_getr dX8_append_79 (ci := 8) (f := 1) (M := 19) (C9 := RX8) (T9 := TX8) rfl xin8 (by decide) fl_X8_9 rfl kk0 g34 ?_
        refine x_aload_n 0 dX8_append_82 rfl rfl ?_
        refine x_geti dX8_append_83 (ci := 8) (f := 2) (M := 19) (C9 := RX8) (T9 := TX8) rfl xin8 (by decide) fl_X8_48 rfl kk0 ?_
        refine x_iload 7 dX8_append_86 rfl ?_
        refine x_bipush (v := 24) dX8_append_88 rfl ?_
        refine x_bipush (v := 8) dX8_append_90 rfl ?_
        refine x_iload 6 dX8_append_92 rfl ?_
        refine x_iconst (v := 4) dX8_append_94 rfl ?_
        obtain ⟨c37, h⟩ := x_cn h
        refine x_irem dX8_append_95 c37 ?_
        refine x_imul dX8_append_96 ?_
        refine x_isub dX8_append_97 ?_
        refine x_ishr dX8_append_98 ?_
        refine x_sipush (v := 255) dX8_append_99 rfl ?_
        refine x_iand dX8_append_102 ?_
        obtain ⟨c38, h⟩ := x_ck h
        refine x_iast dX8_append_103 k35 (xb_at n36 c38) rfl ?_
        obtain ⟨N39, eN39, h⟩ := x_lt h
        refine x_nmN eN39 ?_
        refine x_aload_n 0 dX8_append_104 rfl rfl ?_
        refine x_dup dX8_append_105 rfl ?_
        refine x_geti dX8_append_106 (ci := 8) (f := 2) (M := 19) (C9 := RX8) (T9 := TX8) rfl xin8 (by decide) fl_X8_48 rfl kk0 ?_
        refine x_iconst (v := 1) dX8_append_109 rfl ?_
        refine x_iadd dX8_append_110 ?_
        refine x_puti dX8_append_111 (ci := 8) (f := 2) (M := 19) (C9 := RX8) (T9 := TX8) rfl xin8 tyX8_ok nmX8 (by decide) fl_X8_48 rfl rfl rfl rfl kk0 ?_
        obtain ⟨N40, eN40, h⟩ := x_lt h
        refine x_nmN eN40 ?_
        refine x_iinc 6 [1, 2, 3, 4, 5, 6, 0] dX8_append_114 rfl rfl (by decide) rfl ?_
        refine x_goto (tgt := 23) dX8_append_117 (by decide) ?_
        exact ih p_0 v_1 v_2 v_3 v_4 v_5 (v_6 + 1) N40 kk0 h
set_option maxHeartbeats 4000000 in
set_option maxRecDepth 100000 in
theorem T_X8_append {G : XG} {Y : XY} (hw : WT Y) {a0 : Nat} {a1 : Int32} {a2 : Int32} {a3 : Int32} {a4 : Int32} {a5 : Int32} {N : XN} (k100 : kc Y a0 = 18) {r9 : Int32} {N9 : XN} (h : f_X8_append Y a0 a1 a2 a3 a4 a5 N = some (r9, N9)) : Cl G yX8_append cX8_append 8 (some .int) (xR 1 0 0) [.ref a0, .int a1, .int a2, .int a3, .int a4, .int a5] (.inl (some (.int r9))) Y N Y N9 := by
  refine x_entry (by decide) (Nat.le_of_ble_eq_true rfl) rfl ?_
  rw [f_X8_append] at h
  refine x_aload_n 0 dX8_append_0 rfl rfl ?_
  refine x_iconst (v := 0) dX8_append_1 rfl ?_
  refine x_puti dX8_append_2 (ci := 8) (f := 0) (M := 19) (C9 := RX8) (T9 := TX8) rfl xin8 tyX8_ok nmX8 (by decide) fl_X8_45 rfl rfl rfl rfl k100 ?_
  obtain ⟨N1, eN1, h⟩ := x_lt h
  refine x_nmN eN1 ?_
  refine x_aload_n 0 dX8_append_5 rfl rfl ?_
  refine x_geti dX8_append_6 (ci := 8) (f := 2) (M := 19) (C9 := RX8) (T9 := TX8) rfl xin8 (by decide) fl_X8_48 rfl k100 ?_
  refine x_bipush (v := 20) dX8_append_9 rfl ?_
  refine x_iadd dX8_append_11 ?_
  refine x_sipush (v := 700) dX8_append_12 rfl ?_
  rcases x_if h with ⟨c2, h⟩ | ⟨c2, h⟩
  · refine x_icmp_le_t (tgt := 20) dX8_append_15 (by decide) c2 ?_
    refine x_iconst (v := 0) dX8_append_20 rfl ?_
    refine x_istore [1, 2, 3, 4, 5, 6, 0] dX8_append_21 (by decide) rfl ?_
    exact T_X8_append_23 (G := G) hw FU a0 a1 a2 a3 a4 a5 0 N1 k100 h
  · refine x_icmp_le_f (tgt := 20) dX8_append_15 (by decide) c2 ?_
    refine x_iconst (v := (-1)) dX8_append_18 rfl ?_
    obtain ⟨rfl, rfl⟩ := Prod.mk.inj (x_so h)
    exact x_iret dX8_append_19 rfl rfl rfl
set_option maxHeartbeats 4000000 in
set_option maxRecDepth 100000 in
theorem T_X8_byteAt {G : XG} {Y : XY} (hw : WT Y) {a0 : Nat} {a1 : Int32} {N : XN} (k100 : kc Y a0 = 18) {r9 : Int32} (h : f_X8_byteAt Y a0 a1 N = some r9) : Cl G yX8_byteAt cX8_byteAt 2 (some .int) (xR 1 0 0) [.ref a0, .int a1] (.inl (some (.int r9))) Y N Y N := by
  refine x_entry (by decide) (Nat.le_of_ble_eq_true rfl) rfl ?_
  rw [f_X8_byteAt] at h
  refine x_iload_n 1 dX8_byteAt_0 rfl rfl ?_
  refine x_aload_n 0 dX8_byteAt_1 rfl rfl ?_
  refine x_geti dX8_byteAt_2 (ci := 8) (f := 3) (M := 19) (C9 := RX8) (T9 := TX8) rfl xin8 (by decide) fl_X8_51 rfl k100 ?_
  rcases x_if h with ⟨c1, h⟩ | ⟨c1, h⟩
  · refine x_icmp_ge_t (tgt := 17) dX8_byteAt_5 (by decide) c1 ?_
    refine x_iconst (v := (-1)) dX8_byteAt_17 rfl ?_
    obtain rfl := x_so h
    exact x_iret dX8_byteAt_18 rfl rfl rfl
  · refine x_icmp_ge_f (tgt := 17) dX8_byteAt_5 (by decide) c1 ?_
    refine x_aload_n 0 dX8_byteAt_8 rfl rfl ?_
    obtain ⟨g2, k3, n4⟩ := wt_X8_1 hw k100
    refine x_getr dX8_byteAt_9 (ci := 8) (f := 1) (M := 19) (C9 := RX8) (T9 := TX8) rfl xin8 (by decide) fl_X8_9 rfl k100 g2 ?_
    refine x_iload_n 1 dX8_byteAt_12 rfl rfl ?_
    obtain ⟨c5, h⟩ := x_ck h
    refine x_iald dX8_byteAt_13 k3 (xb_at n4 c5) rfl ?_
    refine x_goto (tgt := 18) dX8_byteAt_14 (by decide) ?_
    obtain rfl := x_so h
    exact x_iret dX8_byteAt_18 rfl rfl rfl
set_option maxHeartbeats 4000000 in
set_option maxRecDepth 100000 in
theorem T_X8_next_0 {G : XG} {Y : XY} (hw : WT Y) {r9 : Int32} {N9 : XN}: ∀ (D9 : Nat) (p_0 : Nat) (N : XN), kc Y p_0 = 18 → f_X8_next_0 Y D9 p_0 N = some (r9, N9) → Ex G yX8_next cX8_next 1 (some .int) (xR 2 0 0) (.inl (some (.int r9))) Y N9 0 0 0 [(0, .ref p_0)] [] Y N := by
  intro D9
  induction D9 with
  | zero => intro p_0 N kk0 h; exact nomatch (show none = some (r9, N9) from h)
  | succ D9 ih =>
    intro p_0 N kk0 h
    rw [f_X8_next_0] at h
    refine x_aload_n 0 dX8_next_0 rfl rfl ?_
    refine x_aload_n 0 dX8_next_1 rfl rfl ?_
    refine x_geti dX8_next_2 (ci := 8) (f := 4) (M := 19) (C9 := RX8) (T9 := TX8) rfl xin8 (by decide) fl_X8_54 rfl kk0 ?_
    obtain ⟨r2, q1, h⟩ := x_bd1 h
    refine x_cv (b := p_0) (As := [.int (gi N p_0 4)]) (ci := 8) (d' := 1) (zz := yX8_byteAt) dX8_next_5 ml_X8_57 wi_X8_byteAt wv_X8_byteAt wn_X8 wc_X8_byteAt hp_X8_byteAt (by decide) (by decide) rfl (Nat.le_of_ble_eq_true rfl) ⟨Nat.zero_le _, Nat.zero_le _⟩ rfl kk0 (T_X8_byteAt (G := G) hw kk0 q1) ?_
    refine x_bipush (v := 32) dX8_next_8 rfl ?_
    rcases x_if h with ⟨c3, h⟩ | ⟨c3, h⟩
    · refine x_icmp_ne_f (tgt := 26) dX8_next_10 (by decide) c3 ?_
      refine x_aload_n 0 dX8_next_13 rfl rfl ?_
      refine x_dup dX8_next_14 rfl ?_
      refine x_geti dX8_next_15 (ci := 8) (f := 4) (M := 19) (C9 := RX8) (T9 := TX8) rfl xin8 (by decide) fl_X8_54 rfl kk0 ?_
      refine x_iconst (v := 1) dX8_next_18 rfl ?_
      refine x_iadd dX8_next_19 ?_
      refine x_puti dX8_next_20 (ci := 8) (f := 4) (M := 19) (C9 := RX8) (T9 := TX8) rfl xin8 tyX8_ok nmX8 (by decide) fl_X8_54 rfl rfl rfl rfl kk0 ?_
      obtain ⟨N4, eN4, h⟩ := x_lt h
      refine x_nmN eN4 ?_
      refine x_goto (tgt := 0) dX8_next_23 (by decide) ?_
      exact ih p_0 N4 kk0 h
    · refine x_icmp_ne_t (tgt := 26) dX8_next_10 (by decide) c3 ?_
      refine x_aload_n 0 dX8_next_26 rfl rfl ?_
      refine x_aload_n 0 dX8_next_27 rfl rfl ?_
      refine x_geti dX8_next_28 (ci := 8) (f := 4) (M := 19) (C9 := RX8) (T9 := TX8) rfl xin8 (by decide) fl_X8_54 rfl kk0 ?_
      obtain ⟨r6, q5, h⟩ := x_bd1 h
      refine x_cv (b := p_0) (As := [.int (gi N p_0 4)]) (ci := 8) (d' := 1) (zz := yX8_byteAt) dX8_next_31 ml_X8_57 wi_X8_byteAt wv_X8_byteAt wn_X8 wc_X8_byteAt hp_X8_byteAt (by decide) (by decide) rfl (Nat.le_of_ble_eq_true rfl) ⟨Nat.zero_le _, Nat.zero_le _⟩ rfl kk0 (T_X8_byteAt (G := G) hw kk0 q5) ?_
      obtain ⟨rfl, rfl⟩ := Prod.mk.inj (x_so h)
      exact x_iret dX8_next_34 rfl rfl rfl
set_option maxHeartbeats 4000000 in
set_option maxRecDepth 100000 in
theorem T_X8_next {G : XG} {Y : XY} (hw : WT Y) {a0 : Nat} {N : XN} (k100 : kc Y a0 = 18) {r9 : Int32} {N9 : XN} (h : f_X8_next Y a0 N = some (r9, N9)) : Cl G yX8_next cX8_next 1 (some .int) (xR 2 0 0) [.ref a0] (.inl (some (.int r9))) Y N Y N9 := by
  refine x_entry (by decide) (Nat.le_of_ble_eq_true rfl) rfl ?_
  rw [f_X8_next] at h
  exact T_X8_next_0 (G := G) hw FU a0 N k100 h
set_option maxHeartbeats 4000000 in
set_option maxRecDepth 100000 in
theorem T_X8_isGood {G : XG} {Y : XY} (hw : WT Y) {a0 : Nat} {N : XN} (k100 : kc Y a0 = 18) {r9 : Int32} (h : f_X8_isGood Y a0 N = r9) : Cl G yX8_isGood cX8_isGood 1 (some .boolean) (xR 1 0 0) [.ref a0] (.inl (some (.int r9))) Y N Y N := by
  refine x_entry (by decide) (Nat.le_of_ble_eq_true rfl) rfl ?_
  rw [f_X8_isGood] at h
  refine x_aload_n 0 dX8_isGood_0 rfl rfl ?_
  refine x_geti dX8_isGood_1 (ci := 8) (f := 5) (M := 19) (C9 := RX8) (T9 := TX8) rfl xin8 (by decide) fl_X8_61 rfl k100 ?_
  rcases x_if h with ⟨c1, h⟩ | ⟨c1, h⟩
  · refine x_if_ne_f (tgt := 11) dX8_isGood_4 (by decide) c1 ?_
    refine x_iconst (v := 1) dX8_isGood_7 rfl ?_
    refine x_goto (tgt := 12) dX8_isGood_8 (by decide) ?_
    subst h
    exact x_zret dX8_isGood_12 rfl (by decide) rfl rfl
  · refine x_if_ne_t (tgt := 11) dX8_isGood_4 (by decide) c1 ?_
    refine x_iconst (v := 0) dX8_isGood_11 rfl ?_
    subst h
    exact x_zret dX8_isGood_12 rfl (by decide) rfl rfl
set_option maxHeartbeats 4000000 in
set_option maxRecDepth 100000 in
theorem T_X8_report {G : XG} {Y : XY} (hw : WT Y) {a0 : Nat} {a1 : Int32} {a2 : Int32} {N : XN} (k100 : kc Y a0 = 18) {N9 : XN} (h : f_X8_report Y a0 a1 a2 N = some N9) : Cl G yX8_report cX8_report 3 none (xR 1 0 0) [.ref a0, .int a1, .int a2] (.inl none) Y N Y N9 := by
  refine x_entry (by decide) (Nat.le_of_ble_eq_true rfl) rfl ?_
  rw [f_X8_report] at h
  refine x_aload_n 0 dX8_report_0 rfl rfl ?_
  refine x_geti dX8_report_1 (ci := 8) (f := 5) (M := 19) (C9 := RX8) (T9 := TX8) rfl xin8 (by decide) fl_X8_61 rfl k100 ?_
  rcases x_if h with ⟨c1, h⟩ | ⟨c1, h⟩
  · refine x_if_eq_t (tgt := 8) dX8_report_4 (by decide) c1 ?_
    refine x_aload_n 0 dX8_report_8 rfl rfl ?_
    refine x_iload_n 1 dX8_report_9 rfl rfl ?_
    refine x_puti dX8_report_10 (ci := 8) (f := 5) (M := 19) (C9 := RX8) (T9 := TX8) rfl xin8 tyX8_ok nmX8 (by decide) fl_X8_61 rfl rfl rfl rfl k100 ?_
    obtain ⟨N2, eN2, h⟩ := x_lt h
    refine x_nmN eN2 ?_
    refine x_aload_n 0 dX8_report_13 rfl rfl ?_
    refine x_iload_n 2 dX8_report_14 rfl rfl ?_
    refine x_puti dX8_report_15 (ci := 8) (f := 6) (M := 19) (C9 := RX8) (T9 := TX8) rfl xin8 tyX8_ok nmX8 (by decide) fl_X8_64 rfl rfl rfl rfl k100 ?_
    obtain ⟨N3, eN3, h⟩ := x_lt h
    refine x_nmN eN3 ?_
    obtain rfl := x_so h
    exact x_vret dX8_report_18 rfl rfl rfl
  · refine x_if_eq_f (tgt := 8) dX8_report_4 (by decide) c1 ?_
    obtain rfl := x_so h
    exact x_vret dX8_report_7 rfl rfl rfl
set_option maxHeartbeats 4000000 in
set_option maxRecDepth 100000 in
theorem T_X8_isDigit {G : XG} {Y : XY} (hw : WT Y) {a0 : Int32} {N : XN}  {r9 : Int32} (h : f_X8_isDigit Y a0 N = some r9) : Cl G yX8_isDigit cX8_isDigit 1 (some .boolean) (xR 2 0 0) [.int a0] (.inl (some (.int r9))) Y N Y N := by
  refine x_entry (by decide) (Nat.le_of_ble_eq_true rfl) rfl ?_
  rw [f_X8_isDigit] at h
  refine x_iload_n 0 dX8_isDigit_0 rfl rfl ?_
  refine x_bipush (v := 48) dX8_isDigit_1 rfl ?_
  refine x_bipush (v := 57) dX8_isDigit_3 rfl ?_
  refine x_cs (As := [.int a0, .int 48, .int 57]) (d' := 1) (zz := yX8_in) dX8_isDigit_5 ml_X8_67 wt_X8_in wn_X8 wc_X8_in hp_X8_in (by decide) (by decide) rfl (Nat.le_of_ble_eq_true rfl) ⟨Nat.zero_le _, Nat.zero_le _⟩ (T_X8_in (G := G) hw  rfl) ?_
  obtain ⟨c1, h⟩ := x_ck h
  obtain rfl := x_so h
  exact x_zret dX8_isDigit_8 rfl (xz_or c1) rfl rfl
set_option maxHeartbeats 4000000 in
set_option maxRecDepth 100000 in
theorem T_X8_takeWord_16 {G : XG} {Y : XY} (hw : WT Y) {r9 : Int32} {N9 : XN}: ∀ (D9 : Nat) (p_0 : Nat) (t_1 : Nat) (v_2 : Int32) (N : XN), kc Y p_0 = 18 → f_X8_takeWord_16 Y D9 p_0 t_1 v_2 N = some (r9, N9) → Ex G yX8_takeWord cX8_takeWord 3 (some .boolean) (xR 8 0 0) (.inl (some (.int r9))) Y N9 0 0 16 [(0, .ref p_0), (1, .ref (xS G t_1)), (2, .int v_2)] [] Y N := by
  intro D9
  induction D9 with
  | zero => intro p_0 t_1 v_2 N kk0 h; exact nomatch (show none = some (r9, N9) from h)
  | succ D9 ih =>
    intro p_0 t_1 v_2 N kk0 h
    rw [f_X8_takeWord_16] at h
    refine x_iload_n 2 dX8_takeWord_16 rfl rfl ?_
    refine x_aload_n 1 dX8_takeWord_17 rfl rfl ?_
    obtain ⟨c1, h⟩ := x_ck h
    refine x_slen dX8_takeWord_18 js_X8_79 c1 (by decide) (Nat.le_of_ble_eq_true rfl) ⟨Nat.zero_le _, Nat.zero_le _⟩ ?_
    rcases x_if h with ⟨c2, h⟩ | ⟨c2, h⟩
    · refine x_icmp_ge_t (tgt := 48) dX8_takeWord_21 (by decide) c2 ?_
      refine x_iload_n 2 dX8_takeWord_48 rfl rfl ?_
      refine x_aload_n 1 dX8_takeWord_49 rfl rfl ?_
      obtain ⟨c3, h⟩ := x_ck h
      refine x_slen dX8_takeWord_50 js_X8_79 c3 (by decide) (Nat.le_of_ble_eq_true rfl) ⟨Nat.zero_le _, Nat.zero_le _⟩ ?_
      rcases x_if h with ⟨c4, h⟩ | ⟨c4, h⟩
      · refine x_icmp_lt_t (tgt := 76) dX8_takeWord_53 (by decide) c4 ?_
        refine x_iconst (v := 0) dX8_takeWord_76 rfl ?_
        obtain ⟨rfl, rfl⟩ := Prod.mk.inj (x_so h)
        exact x_zret dX8_takeWord_77 rfl (by decide) rfl rfl
      · refine x_icmp_lt_f (tgt := 76) dX8_takeWord_53 (by decide) c4 ?_
        refine x_aload_n 0 dX8_takeWord_56 rfl rfl ?_
        refine x_aload_n 0 dX8_takeWord_57 rfl rfl ?_
        refine x_geti dX8_takeWord_58 (ci := 8) (f := 4) (M := 19) (C9 := RX8) (T9 := TX8) rfl xin8 (by decide) fl_X8_54 rfl kk0 ?_
        refine x_iload_n 2 dX8_takeWord_61 rfl rfl ?_
        refine x_iadd dX8_takeWord_62 ?_
        obtain ⟨r6, q5, h⟩ := x_bd1 h
        refine x_cv (b := p_0) (As := [.int ((gi N p_0 4) + v_2)]) (ci := 8) (d' := 1) (zz := yX8_byteAt) dX8_takeWord_63 ml_X8_57 wi_X8_byteAt wv_X8_byteAt wn_X8 wc_X8_byteAt hp_X8_byteAt (by decide) (by decide) rfl (Nat.le_of_ble_eq_true rfl) ⟨Nat.zero_le _, Nat.zero_le _⟩ rfl kk0 (T_X8_byteAt (G := G) hw kk0 q5) ?_
        refine x_bipush (v := 97) dX8_takeWord_66 rfl ?_
        refine x_bipush (v := 122) dX8_takeWord_68 rfl ?_
        refine x_cs (As := [.int r6, .int 97, .int 122]) (d' := 1) (zz := yX8_in) dX8_takeWord_70 ml_X8_67 wt_X8_in wn_X8 wc_X8_in hp_X8_in (by decide) (by decide) rfl (Nat.le_of_ble_eq_true rfl) ⟨Nat.zero_le _, Nat.zero_le _⟩ (T_X8_in (G := G) hw  rfl) ?_
        rcases x_if h with ⟨c7, h⟩ | ⟨c7, h⟩
        · refine x_if_eq_t (tgt := 78) dX8_takeWord_73 (by decide) c7 ?_
          refine x_aload_n 0 dX8_takeWord_78 rfl rfl ?_
          refine x_dup dX8_takeWord_79 rfl ?_
          refine x_geti dX8_takeWord_80 (ci := 8) (f := 4) (M := 19) (C9 := RX8) (T9 := TX8) rfl xin8 (by decide) fl_X8_54 rfl kk0 ?_
          refine x_iload_n 2 dX8_takeWord_83 rfl rfl ?_
          refine x_iadd dX8_takeWord_84 ?_
          refine x_puti dX8_takeWord_85 (ci := 8) (f := 4) (M := 19) (C9 := RX8) (T9 := TX8) rfl xin8 tyX8_ok nmX8 (by decide) fl_X8_54 rfl rfl rfl rfl kk0 ?_
          obtain ⟨N8, eN8, h⟩ := x_lt h
          refine x_nmN eN8 ?_
          refine x_iconst (v := 1) dX8_takeWord_88 rfl ?_
          obtain ⟨rfl, rfl⟩ := Prod.mk.inj (x_so h)
          exact x_zret dX8_takeWord_89 rfl (by decide) rfl rfl
        · refine x_if_eq_f (tgt := 78) dX8_takeWord_73 (by decide) c7 ?_
          refine x_iconst (v := 0) dX8_takeWord_76 rfl ?_
          obtain ⟨rfl, rfl⟩ := Prod.mk.inj (x_so h)
          exact x_zret dX8_takeWord_77 rfl (by decide) rfl rfl
    · refine x_icmp_ge_f (tgt := 48) dX8_takeWord_21 (by decide) c2 ?_
      refine x_aload_n 0 dX8_takeWord_24 rfl rfl ?_
      refine x_aload_n 0 dX8_takeWord_25 rfl rfl ?_
      refine x_geti dX8_takeWord_26 (ci := 8) (f := 4) (M := 19) (C9 := RX8) (T9 := TX8) rfl xin8 (by decide) fl_X8_54 rfl kk0 ?_
      refine x_iload_n 2 dX8_takeWord_29 rfl rfl ?_
      refine x_iadd dX8_takeWord_30 ?_
      obtain ⟨r10, q9, h⟩ := x_bd1 h
      refine x_cv (b := p_0) (As := [.int ((gi N p_0 4) + v_2)]) (ci := 8) (d' := 1) (zz := yX8_byteAt) dX8_takeWord_31 ml_X8_57 wi_X8_byteAt wv_X8_byteAt wn_X8 wc_X8_byteAt hp_X8_byteAt (by decide) (by decide) rfl (Nat.le_of_ble_eq_true rfl) ⟨Nat.zero_le _, Nat.zero_le _⟩ rfl kk0 (T_X8_byteAt (G := G) hw kk0 q9) ?_
      refine x_aload_n 1 dX8_takeWord_34 rfl rfl ?_
      refine x_iload_n 2 dX8_takeWord_35 rfl rfl ?_
      obtain ⟨c11, h⟩ := x_ck h
      refine x_schar dX8_takeWord_36 js_X8_84 c11.1 (xb_in c11.2) (by decide) (Nat.le_of_ble_eq_true rfl) ⟨Nat.zero_le _, Nat.zero_le _⟩ ?_
      rcases x_if h with ⟨c12, h⟩ | ⟨c12, h⟩
      · refine x_icmp_ne_f (tgt := 48) dX8_takeWord_39 (by decide) c12 ?_
        refine x_iinc 2 [1, 2, 0] dX8_takeWord_42 rfl rfl (by decide) rfl ?_
        refine x_goto (tgt := 16) dX8_takeWord_45 (by decide) ?_
        exact ih p_0 t_1 (v_2 + 1) N kk0 h
      · refine x_icmp_ne_t (tgt := 48) dX8_takeWord_39 (by decide) c12 ?_
        refine x_iload_n 2 dX8_takeWord_48 rfl rfl ?_
        refine x_aload_n 1 dX8_takeWord_49 rfl rfl ?_
        obtain ⟨c13, h⟩ := x_ck h
        refine x_slen dX8_takeWord_50 js_X8_79 c13 (by decide) (Nat.le_of_ble_eq_true rfl) ⟨Nat.zero_le _, Nat.zero_le _⟩ ?_
        rcases x_if h with ⟨c14, h⟩ | ⟨c14, h⟩
        · refine x_icmp_lt_t (tgt := 76) dX8_takeWord_53 (by decide) c14 ?_
          refine x_iconst (v := 0) dX8_takeWord_76 rfl ?_
          obtain ⟨rfl, rfl⟩ := Prod.mk.inj (x_so h)
          exact x_zret dX8_takeWord_77 rfl (by decide) rfl rfl
        · refine x_icmp_lt_f (tgt := 76) dX8_takeWord_53 (by decide) c14 ?_
          refine x_aload_n 0 dX8_takeWord_56 rfl rfl ?_
          refine x_aload_n 0 dX8_takeWord_57 rfl rfl ?_
          refine x_geti dX8_takeWord_58 (ci := 8) (f := 4) (M := 19) (C9 := RX8) (T9 := TX8) rfl xin8 (by decide) fl_X8_54 rfl kk0 ?_
          refine x_iload_n 2 dX8_takeWord_61 rfl rfl ?_
          refine x_iadd dX8_takeWord_62 ?_
          obtain ⟨r16, q15, h⟩ := x_bd1 h
          refine x_cv (b := p_0) (As := [.int ((gi N p_0 4) + v_2)]) (ci := 8) (d' := 1) (zz := yX8_byteAt) dX8_takeWord_63 ml_X8_57 wi_X8_byteAt wv_X8_byteAt wn_X8 wc_X8_byteAt hp_X8_byteAt (by decide) (by decide) rfl (Nat.le_of_ble_eq_true rfl) ⟨Nat.zero_le _, Nat.zero_le _⟩ rfl kk0 (T_X8_byteAt (G := G) hw kk0 q15) ?_
          refine x_bipush (v := 97) dX8_takeWord_66 rfl ?_
          refine x_bipush (v := 122) dX8_takeWord_68 rfl ?_
          refine x_cs (As := [.int r16, .int 97, .int 122]) (d' := 1) (zz := yX8_in) dX8_takeWord_70 ml_X8_67 wt_X8_in wn_X8 wc_X8_in hp_X8_in (by decide) (by decide) rfl (Nat.le_of_ble_eq_true rfl) ⟨Nat.zero_le _, Nat.zero_le _⟩ (T_X8_in (G := G) hw  rfl) ?_
          rcases x_if h with ⟨c17, h⟩ | ⟨c17, h⟩
          · refine x_if_eq_t (tgt := 78) dX8_takeWord_73 (by decide) c17 ?_
            refine x_aload_n 0 dX8_takeWord_78 rfl rfl ?_
            refine x_dup dX8_takeWord_79 rfl ?_
            refine x_geti dX8_takeWord_80 (ci := 8) (f := 4) (M := 19) (C9 := RX8) (T9 := TX8) rfl xin8 (by decide) fl_X8_54 rfl kk0 ?_
            refine x_iload_n 2 dX8_takeWord_83 rfl rfl ?_
            refine x_iadd dX8_takeWord_84 ?_
            refine x_puti dX8_takeWord_85 (ci := 8) (f := 4) (M := 19) (C9 := RX8) (T9 := TX8) rfl xin8 tyX8_ok nmX8 (by decide) fl_X8_54 rfl rfl rfl rfl kk0 ?_
            obtain ⟨N18, eN18, h⟩ := x_lt h
            refine x_nmN eN18 ?_
            refine x_iconst (v := 1) dX8_takeWord_88 rfl ?_
            obtain ⟨rfl, rfl⟩ := Prod.mk.inj (x_so h)
            exact x_zret dX8_takeWord_89 rfl (by decide) rfl rfl
          · refine x_if_eq_f (tgt := 78) dX8_takeWord_73 (by decide) c17 ?_
            refine x_iconst (v := 0) dX8_takeWord_76 rfl ?_
            obtain ⟨rfl, rfl⟩ := Prod.mk.inj (x_so h)
            exact x_zret dX8_takeWord_77 rfl (by decide) rfl rfl
set_option maxHeartbeats 4000000 in
set_option maxRecDepth 100000 in
theorem T_X8_takeWord {G : XG} {Y : XY} (hw : WT Y) {a0 : Nat} {a1 : Nat} {N : XN} (k100 : kc Y a0 = 18) {r9 : Int32} {N9 : XN} (h : f_X8_takeWord Y a0 a1 N = some (r9, N9)) : Cl G yX8_takeWord cX8_takeWord 3 (some .boolean) (xR 8 0 0) [.ref a0, .ref (xS G a1)] (.inl (some (.int r9))) Y N Y N9 := by
  refine x_entry (by decide) (Nat.le_of_ble_eq_true rfl) rfl ?_
  rw [f_X8_takeWord] at h
  refine x_aload_n 0 dX8_takeWord_0 rfl rfl ?_
  refine x_cv (b := a0) (As := []) (ci := 8) (d' := 1) (zz := yX8_isGood) dX8_takeWord_1 ml_X8_71 wi_X8_isGood wv_X8_isGood wn_X8 wc_X8_isGood hp_X8_isGood (by decide) (by decide) rfl (Nat.le_of_ble_eq_true rfl) ⟨Nat.zero_le _, Nat.zero_le _⟩ rfl k100 (T_X8_isGood (G := G) hw k100 rfl) ?_
  rcases x_if h with ⟨c1, h⟩ | ⟨c1, h⟩
  · refine x_if_ne_f (tgt := 9) dX8_takeWord_4 (by decide) c1 ?_
    refine x_iconst (v := 0) dX8_takeWord_7 rfl ?_
    obtain ⟨rfl, rfl⟩ := Prod.mk.inj (x_so h)
    exact x_zret dX8_takeWord_8 rfl (by decide) rfl rfl
  · refine x_if_ne_t (tgt := 9) dX8_takeWord_4 (by decide) c1 ?_
    refine x_aload_n 0 dX8_takeWord_9 rfl rfl ?_
    obtain ⟨r3, N4, q2, h⟩ := x_bd2 h
    refine x_cv (b := a0) (As := []) (ci := 8) (d' := 2) (zz := yX8_next) dX8_takeWord_10 ml_X8_75 wi_X8_next wv_X8_next wn_X8 wc_X8_next hp_X8_next (by decide) (by decide) rfl (Nat.le_of_ble_eq_true rfl) ⟨Nat.zero_le _, Nat.zero_le _⟩ rfl k100 (T_X8_next (G := G) hw k100 q2) ?_
    refine x_pop dX8_takeWord_13 rfl ?_
    refine x_iconst (v := 0) dX8_takeWord_14 rfl ?_
    refine x_istore_n [1, 2, 0] dX8_takeWord_15 rfl (by decide) rfl ?_
    exact T_X8_takeWord_16 (G := G) hw FU a0 a1 0 N4 k100 h
set_option maxHeartbeats 4000000 in
set_option maxRecDepth 100000 in
theorem T_X8_expect {G : XG} {Y : XY} (hw : WT Y) {a0 : Nat} {a1 : Int32} {N : XN} (k100 : kc Y a0 = 18) {N9 : XN} (h : f_X8_expect Y a0 a1 N = some N9) : Cl G yX8_expect cX8_expect 2 none (xR 3 0 0) [.ref a0, .int a1] (.inl none) Y N Y N9 := by
  refine x_entry (by decide) (Nat.le_of_ble_eq_true rfl) rfl ?_
  rw [f_X8_expect] at h
  refine x_aload_n 0 dX8_expect_0 rfl rfl ?_
  refine x_cv (b := a0) (As := []) (ci := 8) (d' := 1) (zz := yX8_isGood) dX8_expect_1 ml_X8_71 wi_X8_isGood wv_X8_isGood wn_X8 wc_X8_isGood hp_X8_isGood (by decide) (by decide) rfl (Nat.le_of_ble_eq_true rfl) ⟨Nat.zero_le _, Nat.zero_le _⟩ rfl k100 (T_X8_isGood (G := G) hw k100 rfl) ?_
  rcases x_if h with ⟨c1, h⟩ | ⟨c1, h⟩
  · refine x_if_ne_f (tgt := 8) dX8_expect_4 (by decide) c1 ?_
    obtain rfl := x_so h
    exact x_vret dX8_expect_7 rfl rfl rfl
  · refine x_if_ne_t (tgt := 8) dX8_expect_4 (by decide) c1 ?_
    refine x_aload_n 0 dX8_expect_8 rfl rfl ?_
    obtain ⟨r3, N4, q2, h⟩ := x_bd2 h
    refine x_cv (b := a0) (As := []) (ci := 8) (d' := 2) (zz := yX8_next) dX8_expect_9 ml_X8_75 wi_X8_next wv_X8_next wn_X8 wc_X8_next hp_X8_next (by decide) (by decide) rfl (Nat.le_of_ble_eq_true rfl) ⟨Nat.zero_le _, Nat.zero_le _⟩ rfl k100 (T_X8_next (G := G) hw k100 q2) ?_
    refine x_iload_n 1 dX8_expect_12 rfl rfl ?_
    rcases x_if h with ⟨c5, h⟩ | ⟨c5, h⟩
    · refine x_icmp_ne_f (tgt := 29) dX8_expect_13 (by decide) c5 ?_
      refine x_aload_n 0 dX8_expect_16 rfl rfl ?_
      refine x_dup dX8_expect_17 rfl ?_
      refine x_geti dX8_expect_18 (ci := 8) (f := 4) (M := 19) (C9 := RX8) (T9 := TX8) rfl xin8 (by decide) fl_X8_54 rfl k100 ?_
      refine x_iconst (v := 1) dX8_expect_21 rfl ?_
      refine x_iadd dX8_expect_22 ?_
      refine x_puti dX8_expect_23 (ci := 8) (f := 4) (M := 19) (C9 := RX8) (T9 := TX8) rfl xin8 tyX8_ok nmX8 (by decide) fl_X8_54 rfl rfl rfl rfl k100 ?_
      obtain ⟨N6, eN6, h⟩ := x_lt h
      refine x_nmN eN6 ?_
      refine x_goto (tgt := 39) dX8_expect_26 (by decide) ?_
      obtain rfl := x_so h
      exact x_vret dX8_expect_39 rfl rfl rfl
    · refine x_icmp_ne_t (tgt := 29) dX8_expect_13 (by decide) c5 ?_
      refine x_aload_n 0 dX8_expect_29 rfl rfl ?_
      refine x_bipush (v := (-2)) dX8_expect_30 rfl ?_
      refine x_aload_n 0 dX8_expect_32 rfl rfl ?_
      refine x_geti dX8_expect_33 (ci := 8) (f := 4) (M := 19) (C9 := RX8) (T9 := TX8) rfl xin8 (by decide) fl_X8_54 rfl k100 ?_
      obtain ⟨N8, q7, h⟩ := x_bd1 h
      refine x_cv (b := a0) (As := [.int (-2), .int (gi N4 a0 4)]) (ci := 8) (d' := 1) (zz := yX8_report) dX8_expect_36 ml_X8_88 wi_X8_report wv_X8_report wn_X8 wc_X8_report hp_X8_report (by decide) (by decide) rfl (Nat.le_of_ble_eq_true rfl) ⟨Nat.zero_le _, Nat.zero_le _⟩ rfl k100 (T_X8_report (G := G) hw k100 q7) ?_
      obtain rfl := x_so h
      exact x_vret dX8_expect_39 rfl rfl rfl
set_option maxHeartbeats 4000000 in
set_option maxRecDepth 100000 in
theorem T_X8_number_41 {G : XG} {Y : XY} (hw : WT Y) {r9 : Int32} {N9 : XN}: ∀ (D9 : Nat) (p_0 : Nat) (v_1 : Int32) (v_2 : Int32) (v_3 : Int32) (N : XN), kc Y p_0 = 18 → f_X8_number_41 Y D9 p_0 v_1 v_2 v_3 N = some (r9, N9) → Ex G yX8_number cX8_number 4 (some .int) (xR 3 0 0) (.inl (some (.int r9))) Y N9 0 0 41 [(0, .ref p_0), (1, .int v_1), (2, .int v_2), (3, .int v_3)] [] Y N := by
  intro D9
  induction D9 with
  | zero => intro p_0 v_1 v_2 v_3 N kk0 h; exact nomatch (show none = some (r9, N9) from h)
  | succ D9 ih =>
    intro p_0 v_1 v_2 v_3 N kk0 h
    rw [f_X8_number_41] at h
    refine x_aload_n 0 dX8_number_41 rfl rfl ?_
    refine x_aload_n 0 dX8_number_42 rfl rfl ?_
    refine x_geti dX8_number_43 (ci := 8) (f := 4) (M := 19) (C9 := RX8) (T9 := TX8) rfl xin8 (by decide) fl_X8_54 rfl kk0 ?_
    obtain ⟨r2, q1, h⟩ := x_bd1 h
    refine x_cv (b := p_0) (As := [.int (gi N p_0 4)]) (ci := 8) (d' := 1) (zz := yX8_byteAt) dX8_number_46 ml_X8_57 wi_X8_byteAt wv_X8_byteAt wn_X8 wc_X8_byteAt hp_X8_byteAt (by decide) (by decide) rfl (Nat.le_of_ble_eq_true rfl) ⟨Nat.zero_le _, Nat.zero_le _⟩ rfl kk0 (T_X8_byteAt (G := G) hw kk0 q1) ?_
    obtain ⟨r4, q3, h⟩ := x_bd1 h
    refine x_cs (As := [.int r2]) (d' := 2) (zz := yX8_isDigit) dX8_number_49 ml_X8_92 wt_X8_isDigit wn_X8 wc_X8_isDigit hp_X8_isDigit (by decide) (by decide) rfl (Nat.le_of_ble_eq_true rfl) ⟨Nat.zero_le _, Nat.zero_le _⟩ (T_X8_isDigit (G := G) hw  q3) ?_
    rcases x_if h with ⟨c5, h⟩ | ⟨c5, h⟩
    · refine x_if_eq_t (tgt := 90) dX8_number_52 (by decide) c5 ?_
      refine x_iload_n 3 dX8_number_90 rfl rfl ?_
      refine x_iload_n 1 dX8_number_91 rfl rfl ?_
      refine x_iload_n 2 dX8_number_92 rfl rfl ?_
      refine x_cs (As := [.int v_3, .int v_1, .int v_2]) (d' := 1) (zz := yX8_in) dX8_number_93 ml_X8_67 wt_X8_in wn_X8 wc_X8_in hp_X8_in (by decide) (by decide) rfl (Nat.le_of_ble_eq_true rfl) ⟨Nat.zero_le _, Nat.zero_le _⟩ (T_X8_in (G := G) hw  rfl) ?_
      rcases x_if h with ⟨c6, h⟩ | ⟨c6, h⟩
      · refine x_if_ne_f (tgt := 109) dX8_number_96 (by decide) c6 ?_
        refine x_aload_n 0 dX8_number_99 rfl rfl ?_
        refine x_bipush (v := (-3)) dX8_number_100 rfl ?_
        refine x_aload_n 0 dX8_number_102 rfl rfl ?_
        refine x_geti dX8_number_103 (ci := 8) (f := 14) (M := 19) (C9 := RX8) (T9 := TX8) rfl xin8 (by decide) fl_X8_96 rfl kk0 ?_
        obtain ⟨N8, q7, h⟩ := x_bd1 h
        refine x_cv (b := p_0) (As := [.int (-3), .int (gi N p_0 14)]) (ci := 8) (d' := 1) (zz := yX8_report) dX8_number_106 ml_X8_88 wi_X8_report wv_X8_report wn_X8 wc_X8_report hp_X8_report (by decide) (by decide) rfl (Nat.le_of_ble_eq_true rfl) ⟨Nat.zero_le _, Nat.zero_le _⟩ rfl kk0 (T_X8_report (G := G) hw kk0 q7) ?_
        refine x_iload_n 3 dX8_number_109 rfl rfl ?_
        obtain ⟨rfl, rfl⟩ := Prod.mk.inj (x_so h)
        exact x_iret dX8_number_110 rfl rfl rfl
      · refine x_if_ne_t (tgt := 109) dX8_number_96 (by decide) c6 ?_
        refine x_iload_n 3 dX8_number_109 rfl rfl ?_
        obtain ⟨rfl, rfl⟩ := Prod.mk.inj (x_so h)
        exact x_iret dX8_number_110 rfl rfl rfl
    · refine x_if_eq_f (tgt := 90) dX8_number_52 (by decide) c5 ?_
      refine x_ldc (v := 1000000) dX8_number_55 kc_X8_99 ?_
      refine x_bipush (v := 10) dX8_number_57 rfl ?_
      refine x_iload_n 3 dX8_number_59 rfl rfl ?_
      refine x_imul dX8_number_60 ?_
      refine x_aload_n 0 dX8_number_61 rfl rfl ?_
      refine x_aload_n 0 dX8_number_62 rfl rfl ?_
      refine x_geti dX8_number_63 (ci := 8) (f := 4) (M := 19) (C9 := RX8) (T9 := TX8) rfl xin8 (by decide) fl_X8_54 rfl kk0 ?_
      obtain ⟨r10, q9, h⟩ := x_bd1 h
      refine x_cv (b := p_0) (As := [.int (gi N p_0 4)]) (ci := 8) (d' := 1) (zz := yX8_byteAt) dX8_number_66 ml_X8_57 wi_X8_byteAt wv_X8_byteAt wn_X8 wc_X8_byteAt hp_X8_byteAt (by decide) (by decide) rfl (Nat.le_of_ble_eq_true rfl) ⟨Nat.zero_le _, Nat.zero_le _⟩ rfl kk0 (T_X8_byteAt (G := G) hw kk0 q9) ?_
      refine x_iadd dX8_number_69 ?_
      refine x_bipush (v := 48) dX8_number_70 rfl ?_
      refine x_isub dX8_number_72 ?_
      refine x_cs (As := [.int 1000000, .int (((10 * v_3) + r10) - 48)]) (d' := 1) (zz := yX8_min) dX8_number_73 ml_X8_100 wt_X8_min wn_X8 wc_X8_min hp_X8_min (by decide) (by decide) rfl (Nat.le_of_ble_eq_true rfl) ⟨Nat.zero_le _, Nat.zero_le _⟩ (T_X8_min (G := G) hw  rfl) ?_
      obtain ⟨v11, ev11, h⟩ := x_lt h
      refine x_nmi ev11 ?_
      refine x_istore_n [1, 2, 3, 0] dX8_number_76 rfl (by decide) rfl ?_
      refine x_aload_n 0 dX8_number_77 rfl rfl ?_
      refine x_dup dX8_number_78 rfl ?_
      refine x_geti dX8_number_79 (ci := 8) (f := 4) (M := 19) (C9 := RX8) (T9 := TX8) rfl xin8 (by decide) fl_X8_54 rfl kk0 ?_
      refine x_iconst (v := 1) dX8_number_82 rfl ?_
      refine x_iadd dX8_number_83 ?_
      refine x_puti dX8_number_84 (ci := 8) (f := 4) (M := 19) (C9 := RX8) (T9 := TX8) rfl xin8 tyX8_ok nmX8 (by decide) fl_X8_54 rfl rfl rfl rfl kk0 ?_
      obtain ⟨N12, eN12, h⟩ := x_lt h
      refine x_nmN eN12 ?_
      refine x_goto (tgt := 41) dX8_number_87 (by decide) ?_
      exact ih p_0 v_1 v_2 v11 N12 kk0 h
set_option maxHeartbeats 4000000 in
set_option maxRecDepth 100000 in
theorem T_X8_number {G : XG} {Y : XY} (hw : WT Y) {a0 : Nat} {a1 : Int32} {a2 : Int32} {N : XN} (k100 : kc Y a0 = 18) {r9 : Int32} {N9 : XN} (h : f_X8_number Y a0 a1 a2 N = some (r9, N9)) : Cl G yX8_number cX8_number 4 (some .int) (xR 3 0 0) [.ref a0, .int a1, .int a2] (.inl (some (.int r9))) Y N Y N9 := by
  refine x_entry (by decide) (Nat.le_of_ble_eq_true rfl) rfl ?_
  rw [f_X8_number] at h
  refine x_aload_n 0 dX8_number_0 rfl rfl ?_
  refine x_cv (b := a0) (As := []) (ci := 8) (d' := 1) (zz := yX8_isGood) dX8_number_1 ml_X8_71 wi_X8_isGood wv_X8_isGood wn_X8 wc_X8_isGood hp_X8_isGood (by decide) (by decide) rfl (Nat.le_of_ble_eq_true rfl) ⟨Nat.zero_le _, Nat.zero_le _⟩ rfl k100 (T_X8_isGood (G := G) hw k100 rfl) ?_
  rcases x_if h with ⟨c1, h⟩ | ⟨c1, h⟩
  · refine x_if_ne_f (tgt := 9) dX8_number_4 (by decide) c1 ?_
    refine x_iconst (v := 0) dX8_number_7 rfl ?_
    obtain ⟨rfl, rfl⟩ := Prod.mk.inj (x_so h)
    exact x_iret dX8_number_8 rfl rfl rfl
  · refine x_if_ne_t (tgt := 9) dX8_number_4 (by decide) c1 ?_
    refine x_aload_n 0 dX8_number_9 rfl rfl ?_
    obtain ⟨r3, N4, q2, h⟩ := x_bd2 h
    refine x_cv (b := a0) (As := []) (ci := 8) (d' := 2) (zz := yX8_next) dX8_number_10 ml_X8_75 wi_X8_next wv_X8_next wn_X8 wc_X8_next hp_X8_next (by decide) (by decide) rfl (Nat.le_of_ble_eq_true rfl) ⟨Nat.zero_le _, Nat.zero_le _⟩ rfl k100 (T_X8_next (G := G) hw k100 q2) ?_
    obtain ⟨r6, q5, h⟩ := x_bd1 h
    refine x_cs (As := [.int r3]) (d' := 2) (zz := yX8_isDigit) dX8_number_13 ml_X8_92 wt_X8_isDigit wn_X8 wc_X8_isDigit hp_X8_isDigit (by decide) (by decide) rfl (Nat.le_of_ble_eq_true rfl) ⟨Nat.zero_le _, Nat.zero_le _⟩ (T_X8_isDigit (G := G) hw  q5) ?_
    rcases x_if h with ⟨c7, h⟩ | ⟨c7, h⟩
    · refine x_if_ne_f (tgt := 31) dX8_number_16 (by decide) c7 ?_
      refine x_aload_n 0 dX8_number_19 rfl rfl ?_
      refine x_bipush (v := (-2)) dX8_number_20 rfl ?_
      refine x_aload_n 0 dX8_number_22 rfl rfl ?_
      refine x_geti dX8_number_23 (ci := 8) (f := 4) (M := 19) (C9 := RX8) (T9 := TX8) rfl xin8 (by decide) fl_X8_54 rfl k100 ?_
      obtain ⟨N9, q8, h⟩ := x_bd1 h
      refine x_cv (b := a0) (As := [.int (-2), .int (gi N4 a0 4)]) (ci := 8) (d' := 1) (zz := yX8_report) dX8_number_26 ml_X8_88 wi_X8_report wv_X8_report wn_X8 wc_X8_report hp_X8_report (by decide) (by decide) rfl (Nat.le_of_ble_eq_true rfl) ⟨Nat.zero_le _, Nat.zero_le _⟩ rfl k100 (T_X8_report (G := G) hw k100 q8) ?_
      refine x_iconst (v := 0) dX8_number_29 rfl ?_
      obtain ⟨rfl, rfl⟩ := Prod.mk.inj (x_so h)
      exact x_iret dX8_number_30 rfl rfl rfl
    · refine x_if_ne_t (tgt := 31) dX8_number_16 (by decide) c7 ?_
      refine x_aload_n 0 dX8_number_31 rfl rfl ?_
      refine x_aload_n 0 dX8_number_32 rfl rfl ?_
      refine x_geti dX8_number_33 (ci := 8) (f := 4) (M := 19) (C9 := RX8) (T9 := TX8) rfl xin8 (by decide) fl_X8_54 rfl k100 ?_
      refine x_puti dX8_number_36 (ci := 8) (f := 14) (M := 19) (C9 := RX8) (T9 := TX8) rfl xin8 tyX8_ok nmX8 (by decide) fl_X8_96 rfl rfl rfl rfl k100 ?_
      obtain ⟨N10, eN10, h⟩ := x_lt h
      refine x_nmN eN10 ?_
      refine x_iconst (v := 0) dX8_number_39 rfl ?_
      refine x_istore_n [1, 2, 3, 0] dX8_number_40 rfl (by decide) rfl ?_
      exact T_X8_number_41 (G := G) hw FU a0 a1 a2 0 N10 k100 h
set_option maxHeartbeats 4000000 in
set_option maxRecDepth 100000 in
theorem T_X8_emit {G : XG} {Y : XY} (hw : WT Y) {a0 : Nat} {a1 : Int32} {N : XN} (k100 : kc Y a0 = 18) {N9 : XN} (h : f_X8_emit Y a0 a1 N = some N9) : Cl G yX8_emit cX8_emit 2 none (xR 2 0 0) [.ref a0, .int a1] (.inl none) Y N Y N9 := by
  refine x_entry (by decide) (Nat.le_of_ble_eq_true rfl) rfl ?_
  rw [f_X8_emit] at h
  refine x_aload_n 0 dX8_emit_0 rfl rfl ?_
  refine x_cv (b := a0) (As := []) (ci := 8) (d' := 1) (zz := yX8_isGood) dX8_emit_1 ml_X8_71 wi_X8_isGood wv_X8_isGood wn_X8 wc_X8_isGood hp_X8_isGood (by decide) (by decide) rfl (Nat.le_of_ble_eq_true rfl) ⟨Nat.zero_le _, Nat.zero_le _⟩ rfl k100 (T_X8_isGood (G := G) hw k100 rfl) ?_
  rcases x_if h with ⟨c1, h⟩ | ⟨c1, h⟩
  · refine x_if_ne_f (tgt := 8) dX8_emit_4 (by decide) c1 ?_
    obtain rfl := x_so h
    exact x_vret dX8_emit_7 rfl rfl rfl
  · refine x_if_ne_t (tgt := 8) dX8_emit_4 (by decide) c1 ?_
    refine x_aload_n 0 dX8_emit_8 rfl rfl ?_
    obtain ⟨g2, k3, n4⟩ := wt_X8_9 hw k100
    refine x_getr dX8_emit_9 (ci := 8) (f := 9) (M := 19) (C9 := RX8) (T9 := TX8) rfl xin8 (by decide) fl_X8_20 rfl k100 g2 ?_
    refine x_sipush (v := 584) dX8_emit_12 rfl ?_
    refine x_aload_n 0 dX8_emit_15 rfl rfl ?_
    refine x_getr dX8_emit_16 (ci := 8) (f := 9) (M := 19) (C9 := RX8) (T9 := TX8) rfl xin8 (by decide) fl_X8_20 rfl k100 g2 ?_
    refine x_bipush (v := 11) dX8_emit_19 rfl ?_
    refine x_iald dX8_emit_21 k3 (xb_at n4 (by decide)) rfl ?_
    refine x_iadd dX8_emit_22 ?_
    refine x_iload_n 1 dX8_emit_23 rfl rfl ?_
    obtain ⟨c5, h⟩ := x_ck h
    refine x_iast dX8_emit_24 k3 (xb_at n4 c5) rfl ?_
    obtain ⟨N6, eN6, h⟩ := x_lt h
    refine x_nmN eN6 ?_
    refine x_aload_n 0 dX8_emit_25 rfl rfl ?_
    refine x_getr dX8_emit_26 (ci := 8) (f := 9) (M := 19) (C9 := RX8) (T9 := TX8) rfl xin8 (by decide) fl_X8_20 rfl k100 g2 ?_
    refine x_bipush (v := 11) dX8_emit_29 rfl ?_
    refine x_dup2 dX8_emit_31 rfl rfl ?_
    refine x_iald dX8_emit_32 k3 (xb_at n4 (by decide)) rfl ?_
    refine x_iconst (v := 1) dX8_emit_33 rfl ?_
    refine x_iadd dX8_emit_34 ?_
    refine x_iast dX8_emit_35 k3 (xb_at n4 (by decide)) rfl ?_
    obtain ⟨N7, eN7, h⟩ := x_lt h
    refine x_nmN eN7 ?_
    obtain rfl := x_so h
    exact x_vret dX8_emit_36 rfl rfl rfl
set_option maxHeartbeats 4000000 in
set_option maxRecDepth 100000 in
theorem T_X8_sum_4 {G : XG} {Y : XY} (hw : WT Y) {D : Nat} {rc : Nat → Nat → XN → Option XN} (hrc_sum : ∀ {a0 : Nat} {N : XN} {N9 : XN}, kc Y a0 = 18 → rc 0 a0 N = some N9 → Cl G yX8_sum cX8_sum 2 none (xR (9 + D) 0 0) [.ref a0] (.inl none) Y N Y N9) (hrc_term : ∀ {a0 : Nat} {N : XN} {N9 : XN}, kc Y a0 = 18 → rc 1 a0 N = some N9 → Cl G yX8_term cX8_term 2 none (xR (9 + D) 0 0) [.ref a0] (.inl none) Y N Y N9) (hrc_factor : ∀ {a0 : Nat} {N : XN} {N9 : XN}, kc Y a0 = 18 → rc 2 a0 N = some N9 → Cl G yX8_factor cX8_factor 4 none (xR (9 + D) 0 0) [.ref a0] (.inl none) Y N Y N9) {N9 : XN}: ∀ (D9 : Nat) (p_0 : Nat) (N : XN), kc Y p_0 = 18 → f_X8_sum_4 Y rc D9 p_0 N = some N9 → Ex G yX8_sum cX8_sum 2 none (xR (9 + D + 1) 0 0) (.inl none) Y N9 0 0 4 [(0, .ref p_0)] [] Y N := by
  intro D9
  induction D9 with
  | zero => intro p_0 N kk0 h; exact nomatch (show none = some N9 from h)
  | succ D9 ih =>
    intro p_0 N kk0 h
    rw [f_X8_sum_4] at h
    refine x_aload_n 0 dX8_sum_4 rfl rfl ?_
    refine x_cv (b := p_0) (As := []) (ci := 8) (d' := 1) (zz := yX8_isGood) dX8_sum_5 ml_X8_71 wi_X8_isGood wv_X8_isGood wn_X8 wc_X8_isGood hp_X8_isGood (by omega) (by decide) rfl (Nat.le_of_ble_eq_true rfl) ⟨Nat.zero_le _, Nat.zero_le _⟩ rfl kk0 (T_X8_isGood (G := G) hw kk0 rfl) ?_
    rcases x_if h with ⟨c1, h⟩ | ⟨c1, h⟩
    · refine x_if_eq_t (tgt := 74) dX8_sum_8 (by decide) c1 ?_
      obtain rfl := x_so h
      exact x_vret dX8_sum_74 rfl rfl rfl
    · refine x_if_eq_f (tgt := 74) dX8_sum_8 (by decide) c1 ?_
      refine x_aload_n 0 dX8_sum_11 rfl rfl ?_
      obtain ⟨r3, N4, q2, h⟩ := x_bd2 h
      refine x_cv (b := p_0) (As := []) (ci := 8) (d' := 2) (zz := yX8_next) dX8_sum_12 ml_X8_75 wi_X8_next wv_X8_next wn_X8 wc_X8_next hp_X8_next (by omega) (by decide) rfl (Nat.le_of_ble_eq_true rfl) ⟨Nat.zero_le _, Nat.zero_le _⟩ rfl kk0 (T_X8_next (G := G) hw kk0 q2) ?_
      refine x_bipush (v := 43) dX8_sum_15 rfl ?_
      rcases x_if h with ⟨c5, h⟩ | ⟨c5, h⟩
      · refine x_icmp_eq_t (tgt := 29) dX8_sum_17 (by decide) c5 ?_
        refine x_aload_n 0 dX8_sum_29 rfl rfl ?_
        obtain ⟨r7, N8, q6, h⟩ := x_bd2 h
        refine x_cv (b := p_0) (As := []) (ci := 8) (d' := 2) (zz := yX8_next) dX8_sum_30 ml_X8_75 wi_X8_next wv_X8_next wn_X8 wc_X8_next hp_X8_next (by omega) (by decide) rfl (Nat.le_of_ble_eq_true rfl) ⟨Nat.zero_le _, Nat.zero_le _⟩ rfl kk0 (T_X8_next (G := G) hw kk0 q6) ?_
        refine x_bipush (v := 43) dX8_sum_33 rfl ?_
        rcases x_if h with ⟨c9, h⟩ | ⟨c9, h⟩
        · refine x_icmp_ne_f (tgt := 42) dX8_sum_35 (by decide) c9 ?_
          refine x_iconst (v := 1) dX8_sum_38 rfl ?_
          refine x_goto (tgt := 43) dX8_sum_39 (by decide) ?_
          refine x_istore_n [1, 0] dX8_sum_43 rfl (by decide) rfl ?_
          refine x_aload_n 0 dX8_sum_44 rfl rfl ?_
          refine x_dup dX8_sum_45 rfl ?_
          refine x_geti dX8_sum_46 (ci := 8) (f := 4) (M := 19) (C9 := RX8) (T9 := TX8) rfl xin8 (by decide) fl_X8_54 rfl kk0 ?_
          refine x_iconst (v := 1) dX8_sum_49 rfl ?_
          refine x_iadd dX8_sum_50 ?_
          refine x_puti dX8_sum_51 (ci := 8) (f := 4) (M := 19) (C9 := RX8) (T9 := TX8) rfl xin8 tyX8_ok nmX8 (by decide) fl_X8_54 rfl rfl rfl rfl kk0 ?_
          obtain ⟨N10, eN10, h⟩ := x_lt h
          refine x_nmN eN10 ?_
          refine x_aload_n 0 dX8_sum_54 rfl rfl ?_
          obtain ⟨N12, q11, h⟩ := x_bd1 h
          refine x_cv (b := p_0) (As := []) (ci := 8) (d' := (9 + D)) (zz := yX8_term) dX8_sum_55 ml_X8_135 wi_X8_term wv_X8_term wn_X8 wc_X8_term hp_X8_term (by omega) (by decide) rfl (Nat.le_of_ble_eq_true rfl) ⟨Nat.zero_le _, Nat.zero_le _⟩ rfl kk0 (hrc_term kk0 q11) ?_
          refine x_aload_n 0 dX8_sum_58 rfl rfl ?_
          refine x_iload_n 1 dX8_sum_59 rfl rfl ?_
          rcases x_if h with ⟨c13, h⟩ | ⟨c13, h⟩
          · refine x_if_eq_t (tgt := 67) dX8_sum_60 (by decide) c13 ?_
            refine x_iconst (v := 3) dX8_sum_67 rfl ?_
            obtain ⟨N15, q14, h⟩ := x_bd1 h
            refine x_cv (b := p_0) (As := [.int 3]) (ci := 8) (d' := 2) (zz := yX8_emit) dX8_sum_68 ml_X8_129 wi_X8_emit wv_X8_emit wn_X8 wc_X8_emit hp_X8_emit (by omega) (by decide) rfl (Nat.le_of_ble_eq_true rfl) ⟨Nat.zero_le _, Nat.zero_le _⟩ rfl kk0 (T_X8_emit (G := G) hw kk0 q14) ?_
            refine x_goto (tgt := 4) dX8_sum_71 (by decide) ?_
            refine x_sub [0] rfl ?_
            exact ih p_0 N15 kk0 h
          · refine x_if_eq_f (tgt := 67) dX8_sum_60 (by decide) c13 ?_
            refine x_iconst (v := 2) dX8_sum_63 rfl ?_
            refine x_goto (tgt := 68) dX8_sum_64 (by decide) ?_
            obtain ⟨N17, q16, h⟩ := x_bd1 h
            refine x_cv (b := p_0) (As := [.int 2]) (ci := 8) (d' := 2) (zz := yX8_emit) dX8_sum_68 ml_X8_129 wi_X8_emit wv_X8_emit wn_X8 wc_X8_emit hp_X8_emit (by omega) (by decide) rfl (Nat.le_of_ble_eq_true rfl) ⟨Nat.zero_le _, Nat.zero_le _⟩ rfl kk0 (T_X8_emit (G := G) hw kk0 q16) ?_
            refine x_goto (tgt := 4) dX8_sum_71 (by decide) ?_
            refine x_sub [0] rfl ?_
            exact ih p_0 N17 kk0 h
        · refine x_icmp_ne_t (tgt := 42) dX8_sum_35 (by decide) c9 ?_
          refine x_iconst (v := 0) dX8_sum_42 rfl ?_
          refine x_istore_n [1, 0] dX8_sum_43 rfl (by decide) rfl ?_
          refine x_aload_n 0 dX8_sum_44 rfl rfl ?_
          refine x_dup dX8_sum_45 rfl ?_
          refine x_geti dX8_sum_46 (ci := 8) (f := 4) (M := 19) (C9 := RX8) (T9 := TX8) rfl xin8 (by decide) fl_X8_54 rfl kk0 ?_
          refine x_iconst (v := 1) dX8_sum_49 rfl ?_
          refine x_iadd dX8_sum_50 ?_
          refine x_puti dX8_sum_51 (ci := 8) (f := 4) (M := 19) (C9 := RX8) (T9 := TX8) rfl xin8 tyX8_ok nmX8 (by decide) fl_X8_54 rfl rfl rfl rfl kk0 ?_
          obtain ⟨N18, eN18, h⟩ := x_lt h
          refine x_nmN eN18 ?_
          refine x_aload_n 0 dX8_sum_54 rfl rfl ?_
          obtain ⟨N20, q19, h⟩ := x_bd1 h
          refine x_cv (b := p_0) (As := []) (ci := 8) (d' := (9 + D)) (zz := yX8_term) dX8_sum_55 ml_X8_135 wi_X8_term wv_X8_term wn_X8 wc_X8_term hp_X8_term (by omega) (by decide) rfl (Nat.le_of_ble_eq_true rfl) ⟨Nat.zero_le _, Nat.zero_le _⟩ rfl kk0 (hrc_term kk0 q19) ?_
          refine x_aload_n 0 dX8_sum_58 rfl rfl ?_
          refine x_iload_n 1 dX8_sum_59 rfl rfl ?_
          rcases x_if h with ⟨c21, h⟩ | ⟨c21, h⟩
          · refine x_if_eq_t (tgt := 67) dX8_sum_60 (by decide) c21 ?_
            refine x_iconst (v := 3) dX8_sum_67 rfl ?_
            obtain ⟨N23, q22, h⟩ := x_bd1 h
            refine x_cv (b := p_0) (As := [.int 3]) (ci := 8) (d' := 2) (zz := yX8_emit) dX8_sum_68 ml_X8_129 wi_X8_emit wv_X8_emit wn_X8 wc_X8_emit hp_X8_emit (by omega) (by decide) rfl (Nat.le_of_ble_eq_true rfl) ⟨Nat.zero_le _, Nat.zero_le _⟩ rfl kk0 (T_X8_emit (G := G) hw kk0 q22) ?_
            refine x_goto (tgt := 4) dX8_sum_71 (by decide) ?_
            refine x_sub [0] rfl ?_
            exact ih p_0 N23 kk0 h
          · refine x_if_eq_f (tgt := 67) dX8_sum_60 (by decide) c21 ?_
            refine x_iconst (v := 2) dX8_sum_63 rfl ?_
            refine x_goto (tgt := 68) dX8_sum_64 (by decide) ?_
            obtain ⟨N25, q24, h⟩ := x_bd1 h
            refine x_cv (b := p_0) (As := [.int 2]) (ci := 8) (d' := 2) (zz := yX8_emit) dX8_sum_68 ml_X8_129 wi_X8_emit wv_X8_emit wn_X8 wc_X8_emit hp_X8_emit (by omega) (by decide) rfl (Nat.le_of_ble_eq_true rfl) ⟨Nat.zero_le _, Nat.zero_le _⟩ rfl kk0 (T_X8_emit (G := G) hw kk0 q24) ?_
            refine x_goto (tgt := 4) dX8_sum_71 (by decide) ?_
            refine x_sub [0] rfl ?_
            exact ih p_0 N25 kk0 h
      · refine x_icmp_eq_f (tgt := 29) dX8_sum_17 (by decide) c5 ?_
        refine x_aload_n 0 dX8_sum_20 rfl rfl ?_
        obtain ⟨r27, N28, q26, h⟩ := x_bd2 h
        refine x_cv (b := p_0) (As := []) (ci := 8) (d' := 2) (zz := yX8_next) dX8_sum_21 ml_X8_75 wi_X8_next wv_X8_next wn_X8 wc_X8_next hp_X8_next (by omega) (by decide) rfl (Nat.le_of_ble_eq_true rfl) ⟨Nat.zero_le _, Nat.zero_le _⟩ rfl kk0 (T_X8_next (G := G) hw kk0 q26) ?_
        refine x_bipush (v := 45) dX8_sum_24 rfl ?_
        rcases x_if h with ⟨c29, h⟩ | ⟨c29, h⟩
        · refine x_icmp_ne_f (tgt := 74) dX8_sum_26 (by decide) c29 ?_
          refine x_aload_n 0 dX8_sum_29 rfl rfl ?_
          obtain ⟨r31, N32, q30, h⟩ := x_bd2 h
          refine x_cv (b := p_0) (As := []) (ci := 8) (d' := 2) (zz := yX8_next) dX8_sum_30 ml_X8_75 wi_X8_next wv_X8_next wn_X8 wc_X8_next hp_X8_next (by omega) (by decide) rfl (Nat.le_of_ble_eq_true rfl) ⟨Nat.zero_le _, Nat.zero_le _⟩ rfl kk0 (T_X8_next (G := G) hw kk0 q30) ?_
          refine x_bipush (v := 43) dX8_sum_33 rfl ?_
          rcases x_if h with ⟨c33, h⟩ | ⟨c33, h⟩
          · refine x_icmp_ne_f (tgt := 42) dX8_sum_35 (by decide) c33 ?_
            refine x_iconst (v := 1) dX8_sum_38 rfl ?_
            refine x_goto (tgt := 43) dX8_sum_39 (by decide) ?_
            refine x_istore_n [1, 0] dX8_sum_43 rfl (by decide) rfl ?_
            refine x_aload_n 0 dX8_sum_44 rfl rfl ?_
            refine x_dup dX8_sum_45 rfl ?_
            refine x_geti dX8_sum_46 (ci := 8) (f := 4) (M := 19) (C9 := RX8) (T9 := TX8) rfl xin8 (by decide) fl_X8_54 rfl kk0 ?_
            refine x_iconst (v := 1) dX8_sum_49 rfl ?_
            refine x_iadd dX8_sum_50 ?_
            refine x_puti dX8_sum_51 (ci := 8) (f := 4) (M := 19) (C9 := RX8) (T9 := TX8) rfl xin8 tyX8_ok nmX8 (by decide) fl_X8_54 rfl rfl rfl rfl kk0 ?_
            obtain ⟨N34, eN34, h⟩ := x_lt h
            refine x_nmN eN34 ?_
            refine x_aload_n 0 dX8_sum_54 rfl rfl ?_
            obtain ⟨N36, q35, h⟩ := x_bd1 h
            refine x_cv (b := p_0) (As := []) (ci := 8) (d' := (9 + D)) (zz := yX8_term) dX8_sum_55 ml_X8_135 wi_X8_term wv_X8_term wn_X8 wc_X8_term hp_X8_term (by omega) (by decide) rfl (Nat.le_of_ble_eq_true rfl) ⟨Nat.zero_le _, Nat.zero_le _⟩ rfl kk0 (hrc_term kk0 q35) ?_
            refine x_aload_n 0 dX8_sum_58 rfl rfl ?_
            refine x_iload_n 1 dX8_sum_59 rfl rfl ?_
            rcases x_if h with ⟨c37, h⟩ | ⟨c37, h⟩
            · refine x_if_eq_t (tgt := 67) dX8_sum_60 (by decide) c37 ?_
              refine x_iconst (v := 3) dX8_sum_67 rfl ?_
              obtain ⟨N39, q38, h⟩ := x_bd1 h
              refine x_cv (b := p_0) (As := [.int 3]) (ci := 8) (d' := 2) (zz := yX8_emit) dX8_sum_68 ml_X8_129 wi_X8_emit wv_X8_emit wn_X8 wc_X8_emit hp_X8_emit (by omega) (by decide) rfl (Nat.le_of_ble_eq_true rfl) ⟨Nat.zero_le _, Nat.zero_le _⟩ rfl kk0 (T_X8_emit (G := G) hw kk0 q38) ?_
              refine x_goto (tgt := 4) dX8_sum_71 (by decide) ?_
              refine x_sub [0] rfl ?_
              exact ih p_0 N39 kk0 h
            · refine x_if_eq_f (tgt := 67) dX8_sum_60 (by decide) c37 ?_
              refine x_iconst (v := 2) dX8_sum_63 rfl ?_
              refine x_goto (tgt := 68) dX8_sum_64 (by decide) ?_
              obtain ⟨N41, q40, h⟩ := x_bd1 h
              refine x_cv (b := p_0) (As := [.int 2]) (ci := 8) (d' := 2) (zz := yX8_emit) dX8_sum_68 ml_X8_129 wi_X8_emit wv_X8_emit wn_X8 wc_X8_emit hp_X8_emit (by omega) (by decide) rfl (Nat.le_of_ble_eq_true rfl) ⟨Nat.zero_le _, Nat.zero_le _⟩ rfl kk0 (T_X8_emit (G := G) hw kk0 q40) ?_
              refine x_goto (tgt := 4) dX8_sum_71 (by decide) ?_
              refine x_sub [0] rfl ?_
              exact ih p_0 N41 kk0 h
          · refine x_icmp_ne_t (tgt := 42) dX8_sum_35 (by decide) c33 ?_
            refine x_iconst (v := 0) dX8_sum_42 rfl ?_
            refine x_istore_n [1, 0] dX8_sum_43 rfl (by decide) rfl ?_
            refine x_aload_n 0 dX8_sum_44 rfl rfl ?_
            refine x_dup dX8_sum_45 rfl ?_
            refine x_geti dX8_sum_46 (ci := 8) (f := 4) (M := 19) (C9 := RX8) (T9 := TX8) rfl xin8 (by decide) fl_X8_54 rfl kk0 ?_
            refine x_iconst (v := 1) dX8_sum_49 rfl ?_
            refine x_iadd dX8_sum_50 ?_
            refine x_puti dX8_sum_51 (ci := 8) (f := 4) (M := 19) (C9 := RX8) (T9 := TX8) rfl xin8 tyX8_ok nmX8 (by decide) fl_X8_54 rfl rfl rfl rfl kk0 ?_
            obtain ⟨N42, eN42, h⟩ := x_lt h
            refine x_nmN eN42 ?_
            refine x_aload_n 0 dX8_sum_54 rfl rfl ?_
            obtain ⟨N44, q43, h⟩ := x_bd1 h
            refine x_cv (b := p_0) (As := []) (ci := 8) (d' := (9 + D)) (zz := yX8_term) dX8_sum_55 ml_X8_135 wi_X8_term wv_X8_term wn_X8 wc_X8_term hp_X8_term (by omega) (by decide) rfl (Nat.le_of_ble_eq_true rfl) ⟨Nat.zero_le _, Nat.zero_le _⟩ rfl kk0 (hrc_term kk0 q43) ?_
            refine x_aload_n 0 dX8_sum_58 rfl rfl ?_
            refine x_iload_n 1 dX8_sum_59 rfl rfl ?_
            rcases x_if h with ⟨c45, h⟩ | ⟨c45, h⟩
            · refine x_if_eq_t (tgt := 67) dX8_sum_60 (by decide) c45 ?_
              refine x_iconst (v := 3) dX8_sum_67 rfl ?_
              obtain ⟨N47, q46, h⟩ := x_bd1 h
              refine x_cv (b := p_0) (As := [.int 3]) (ci := 8) (d' := 2) (zz := yX8_emit) dX8_sum_68 ml_X8_129 wi_X8_emit wv_X8_emit wn_X8 wc_X8_emit hp_X8_emit (by omega) (by decide) rfl (Nat.le_of_ble_eq_true rfl) ⟨Nat.zero_le _, Nat.zero_le _⟩ rfl kk0 (T_X8_emit (G := G) hw kk0 q46) ?_
              refine x_goto (tgt := 4) dX8_sum_71 (by decide) ?_
              refine x_sub [0] rfl ?_
              exact ih p_0 N47 kk0 h
            · refine x_if_eq_f (tgt := 67) dX8_sum_60 (by decide) c45 ?_
              refine x_iconst (v := 2) dX8_sum_63 rfl ?_
              refine x_goto (tgt := 68) dX8_sum_64 (by decide) ?_
              obtain ⟨N49, q48, h⟩ := x_bd1 h
              refine x_cv (b := p_0) (As := [.int 2]) (ci := 8) (d' := 2) (zz := yX8_emit) dX8_sum_68 ml_X8_129 wi_X8_emit wv_X8_emit wn_X8 wc_X8_emit hp_X8_emit (by omega) (by decide) rfl (Nat.le_of_ble_eq_true rfl) ⟨Nat.zero_le _, Nat.zero_le _⟩ rfl kk0 (T_X8_emit (G := G) hw kk0 q48) ?_
              refine x_goto (tgt := 4) dX8_sum_71 (by decide) ?_
              refine x_sub [0] rfl ?_
              exact ih p_0 N49 kk0 h
        · refine x_icmp_ne_t (tgt := 74) dX8_sum_26 (by decide) c29 ?_
          obtain rfl := x_so h
          exact x_vret dX8_sum_74 rfl rfl rfl
set_option maxHeartbeats 4000000 in
set_option maxRecDepth 100000 in
theorem T_X8_sum {G : XG} {Y : XY} (hw : WT Y) {D : Nat} {rc : Nat → Nat → XN → Option XN} (hrc_sum : ∀ {a0 : Nat} {N : XN} {N9 : XN}, kc Y a0 = 18 → rc 0 a0 N = some N9 → Cl G yX8_sum cX8_sum 2 none (xR (9 + D) 0 0) [.ref a0] (.inl none) Y N Y N9) (hrc_term : ∀ {a0 : Nat} {N : XN} {N9 : XN}, kc Y a0 = 18 → rc 1 a0 N = some N9 → Cl G yX8_term cX8_term 2 none (xR (9 + D) 0 0) [.ref a0] (.inl none) Y N Y N9) (hrc_factor : ∀ {a0 : Nat} {N : XN} {N9 : XN}, kc Y a0 = 18 → rc 2 a0 N = some N9 → Cl G yX8_factor cX8_factor 4 none (xR (9 + D) 0 0) [.ref a0] (.inl none) Y N Y N9) {a0 : Nat} {N : XN} (k100 : kc Y a0 = 18) {N9 : XN} (h : b_X8_sum Y rc a0 N = some N9) : Cl G yX8_sum cX8_sum 2 none (xR (9 + D + 1) 0 0) [.ref a0] (.inl none) Y N Y N9 := by
  refine x_entry (by decide) (Nat.le_of_ble_eq_true rfl) rfl ?_
  rw [b_X8_sum] at h
  refine x_aload_n 0 dX8_sum_0 rfl rfl ?_
  obtain ⟨N2, q1, h⟩ := x_bd1 h
  refine x_cv (b := a0) (As := []) (ci := 8) (d' := (9 + D)) (zz := yX8_term) dX8_sum_1 ml_X8_135 wi_X8_term wv_X8_term wn_X8 wc_X8_term hp_X8_term (by omega) (by decide) rfl (Nat.le_of_ble_eq_true rfl) ⟨Nat.zero_le _, Nat.zero_le _⟩ rfl k100 (hrc_term k100 q1) ?_
  exact T_X8_sum_4 (G := G) hw hrc_sum hrc_term hrc_factor FU a0 N2 k100 h
set_option maxHeartbeats 4000000 in
set_option maxRecDepth 100000 in
theorem T_X8_term_4 {G : XG} {Y : XY} (hw : WT Y) {D : Nat} {rc : Nat → Nat → XN → Option XN} (hrc_sum : ∀ {a0 : Nat} {N : XN} {N9 : XN}, kc Y a0 = 18 → rc 0 a0 N = some N9 → Cl G yX8_sum cX8_sum 2 none (xR (9 + D) 0 0) [.ref a0] (.inl none) Y N Y N9) (hrc_term : ∀ {a0 : Nat} {N : XN} {N9 : XN}, kc Y a0 = 18 → rc 1 a0 N = some N9 → Cl G yX8_term cX8_term 2 none (xR (9 + D) 0 0) [.ref a0] (.inl none) Y N Y N9) (hrc_factor : ∀ {a0 : Nat} {N : XN} {N9 : XN}, kc Y a0 = 18 → rc 2 a0 N = some N9 → Cl G yX8_factor cX8_factor 4 none (xR (9 + D) 0 0) [.ref a0] (.inl none) Y N Y N9) {N9 : XN}: ∀ (D9 : Nat) (p_0 : Nat) (N : XN), kc Y p_0 = 18 → f_X8_term_4 Y rc D9 p_0 N = some N9 → Ex G yX8_term cX8_term 2 none (xR (9 + D + 1) 0 0) (.inl none) Y N9 0 0 4 [(0, .ref p_0)] [] Y N := by
  intro D9
  induction D9 with
  | zero => intro p_0 N kk0 h; exact nomatch (show none = some N9 from h)
  | succ D9 ih =>
    intro p_0 N kk0 h
    rw [f_X8_term_4] at h
    refine x_aload_n 0 dX8_term_4 rfl rfl ?_
    refine x_cv (b := p_0) (As := []) (ci := 8) (d' := 1) (zz := yX8_isGood) dX8_term_5 ml_X8_71 wi_X8_isGood wv_X8_isGood wn_X8 wc_X8_isGood hp_X8_isGood (by omega) (by decide) rfl (Nat.le_of_ble_eq_true rfl) ⟨Nat.zero_le _, Nat.zero_le _⟩ rfl kk0 (T_X8_isGood (G := G) hw kk0 rfl) ?_
    rcases x_if h with ⟨c1, h⟩ | ⟨c1, h⟩
    · refine x_if_eq_t (tgt := 74) dX8_term_8 (by decide) c1 ?_
      obtain rfl := x_so h
      exact x_vret dX8_term_74 rfl rfl rfl
    · refine x_if_eq_f (tgt := 74) dX8_term_8 (by decide) c1 ?_
      refine x_aload_n 0 dX8_term_11 rfl rfl ?_
      obtain ⟨r3, N4, q2, h⟩ := x_bd2 h
      refine x_cv (b := p_0) (As := []) (ci := 8) (d' := 2) (zz := yX8_next) dX8_term_12 ml_X8_75 wi_X8_next wv_X8_next wn_X8 wc_X8_next hp_X8_next (by omega) (by decide) rfl (Nat.le_of_ble_eq_true rfl) ⟨Nat.zero_le _, Nat.zero_le _⟩ rfl kk0 (T_X8_next (G := G) hw kk0 q2) ?_
      refine x_bipush (v := 42) dX8_term_15 rfl ?_
      rcases x_if h with ⟨c5, h⟩ | ⟨c5, h⟩
      · refine x_icmp_eq_t (tgt := 29) dX8_term_17 (by decide) c5 ?_
        refine x_aload_n 0 dX8_term_29 rfl rfl ?_
        obtain ⟨r7, N8, q6, h⟩ := x_bd2 h
        refine x_cv (b := p_0) (As := []) (ci := 8) (d' := 2) (zz := yX8_next) dX8_term_30 ml_X8_75 wi_X8_next wv_X8_next wn_X8 wc_X8_next hp_X8_next (by omega) (by decide) rfl (Nat.le_of_ble_eq_true rfl) ⟨Nat.zero_le _, Nat.zero_le _⟩ rfl kk0 (T_X8_next (G := G) hw kk0 q6) ?_
        refine x_bipush (v := 42) dX8_term_33 rfl ?_
        rcases x_if h with ⟨c9, h⟩ | ⟨c9, h⟩
        · refine x_icmp_ne_f (tgt := 42) dX8_term_35 (by decide) c9 ?_
          refine x_iconst (v := 1) dX8_term_38 rfl ?_
          refine x_goto (tgt := 43) dX8_term_39 (by decide) ?_
          refine x_istore_n [1, 0] dX8_term_43 rfl (by decide) rfl ?_
          refine x_aload_n 0 dX8_term_44 rfl rfl ?_
          refine x_dup dX8_term_45 rfl ?_
          refine x_geti dX8_term_46 (ci := 8) (f := 4) (M := 19) (C9 := RX8) (T9 := TX8) rfl xin8 (by decide) fl_X8_54 rfl kk0 ?_
          refine x_iconst (v := 1) dX8_term_49 rfl ?_
          refine x_iadd dX8_term_50 ?_
          refine x_puti dX8_term_51 (ci := 8) (f := 4) (M := 19) (C9 := RX8) (T9 := TX8) rfl xin8 tyX8_ok nmX8 (by decide) fl_X8_54 rfl rfl rfl rfl kk0 ?_
          obtain ⟨N10, eN10, h⟩ := x_lt h
          refine x_nmN eN10 ?_
          refine x_aload_n 0 dX8_term_54 rfl rfl ?_
          obtain ⟨N12, q11, h⟩ := x_bd1 h
          refine x_cv (b := p_0) (As := []) (ci := 8) (d' := (9 + D)) (zz := yX8_factor) dX8_term_55 ml_X8_132 wi_X8_factor wv_X8_factor wn_X8 wc_X8_factor hp_X8_factor (by omega) (by decide) rfl (Nat.le_of_ble_eq_true rfl) ⟨Nat.zero_le _, Nat.zero_le _⟩ rfl kk0 (hrc_factor kk0 q11) ?_
          refine x_aload_n 0 dX8_term_58 rfl rfl ?_
          refine x_iload_n 1 dX8_term_59 rfl rfl ?_
          rcases x_if h with ⟨c13, h⟩ | ⟨c13, h⟩
          · refine x_if_eq_t (tgt := 67) dX8_term_60 (by decide) c13 ?_
            refine x_iconst (v := 5) dX8_term_67 rfl ?_
            obtain ⟨N15, q14, h⟩ := x_bd1 h
            refine x_cv (b := p_0) (As := [.int 5]) (ci := 8) (d' := 2) (zz := yX8_emit) dX8_term_68 ml_X8_129 wi_X8_emit wv_X8_emit wn_X8 wc_X8_emit hp_X8_emit (by omega) (by decide) rfl (Nat.le_of_ble_eq_true rfl) ⟨Nat.zero_le _, Nat.zero_le _⟩ rfl kk0 (T_X8_emit (G := G) hw kk0 q14) ?_
            refine x_goto (tgt := 4) dX8_term_71 (by decide) ?_
            refine x_sub [0] rfl ?_
            exact ih p_0 N15 kk0 h
          · refine x_if_eq_f (tgt := 67) dX8_term_60 (by decide) c13 ?_
            refine x_iconst (v := 4) dX8_term_63 rfl ?_
            refine x_goto (tgt := 68) dX8_term_64 (by decide) ?_
            obtain ⟨N17, q16, h⟩ := x_bd1 h
            refine x_cv (b := p_0) (As := [.int 4]) (ci := 8) (d' := 2) (zz := yX8_emit) dX8_term_68 ml_X8_129 wi_X8_emit wv_X8_emit wn_X8 wc_X8_emit hp_X8_emit (by omega) (by decide) rfl (Nat.le_of_ble_eq_true rfl) ⟨Nat.zero_le _, Nat.zero_le _⟩ rfl kk0 (T_X8_emit (G := G) hw kk0 q16) ?_
            refine x_goto (tgt := 4) dX8_term_71 (by decide) ?_
            refine x_sub [0] rfl ?_
            exact ih p_0 N17 kk0 h
        · refine x_icmp_ne_t (tgt := 42) dX8_term_35 (by decide) c9 ?_
          refine x_iconst (v := 0) dX8_term_42 rfl ?_
          refine x_istore_n [1, 0] dX8_term_43 rfl (by decide) rfl ?_
          refine x_aload_n 0 dX8_term_44 rfl rfl ?_
          refine x_dup dX8_term_45 rfl ?_
          refine x_geti dX8_term_46 (ci := 8) (f := 4) (M := 19) (C9 := RX8) (T9 := TX8) rfl xin8 (by decide) fl_X8_54 rfl kk0 ?_
          refine x_iconst (v := 1) dX8_term_49 rfl ?_
          refine x_iadd dX8_term_50 ?_
          refine x_puti dX8_term_51 (ci := 8) (f := 4) (M := 19) (C9 := RX8) (T9 := TX8) rfl xin8 tyX8_ok nmX8 (by decide) fl_X8_54 rfl rfl rfl rfl kk0 ?_
          obtain ⟨N18, eN18, h⟩ := x_lt h
          refine x_nmN eN18 ?_
          refine x_aload_n 0 dX8_term_54 rfl rfl ?_
          obtain ⟨N20, q19, h⟩ := x_bd1 h
          refine x_cv (b := p_0) (As := []) (ci := 8) (d' := (9 + D)) (zz := yX8_factor) dX8_term_55 ml_X8_132 wi_X8_factor wv_X8_factor wn_X8 wc_X8_factor hp_X8_factor (by omega) (by decide) rfl (Nat.le_of_ble_eq_true rfl) ⟨Nat.zero_le _, Nat.zero_le _⟩ rfl kk0 (hrc_factor kk0 q19) ?_
          refine x_aload_n 0 dX8_term_58 rfl rfl ?_
          refine x_iload_n 1 dX8_term_59 rfl rfl ?_
          rcases x_if h with ⟨c21, h⟩ | ⟨c21, h⟩
          · refine x_if_eq_t (tgt := 67) dX8_term_60 (by decide) c21 ?_
            refine x_iconst (v := 5) dX8_term_67 rfl ?_
            obtain ⟨N23, q22, h⟩ := x_bd1 h
            refine x_cv (b := p_0) (As := [.int 5]) (ci := 8) (d' := 2) (zz := yX8_emit) dX8_term_68 ml_X8_129 wi_X8_emit wv_X8_emit wn_X8 wc_X8_emit hp_X8_emit (by omega) (by decide) rfl (Nat.le_of_ble_eq_true rfl) ⟨Nat.zero_le _, Nat.zero_le _⟩ rfl kk0 (T_X8_emit (G := G) hw kk0 q22) ?_
            refine x_goto (tgt := 4) dX8_term_71 (by decide) ?_
            refine x_sub [0] rfl ?_
            exact ih p_0 N23 kk0 h
          · refine x_if_eq_f (tgt := 67) dX8_term_60 (by decide) c21 ?_
            refine x_iconst (v := 4) dX8_term_63 rfl ?_
            refine x_goto (tgt := 68) dX8_term_64 (by decide) ?_
            obtain ⟨N25, q24, h⟩ := x_bd1 h
            refine x_cv (b := p_0) (As := [.int 4]) (ci := 8) (d' := 2) (zz := yX8_emit) dX8_term_68 ml_X8_129 wi_X8_emit wv_X8_emit wn_X8 wc_X8_emit hp_X8_emit (by omega) (by decide) rfl (Nat.le_of_ble_eq_true rfl) ⟨Nat.zero_le _, Nat.zero_le _⟩ rfl kk0 (T_X8_emit (G := G) hw kk0 q24) ?_
            refine x_goto (tgt := 4) dX8_term_71 (by decide) ?_
            refine x_sub [0] rfl ?_
            exact ih p_0 N25 kk0 h
      · refine x_icmp_eq_f (tgt := 29) dX8_term_17 (by decide) c5 ?_
        refine x_aload_n 0 dX8_term_20 rfl rfl ?_
        obtain ⟨r27, N28, q26, h⟩ := x_bd2 h
        refine x_cv (b := p_0) (As := []) (ci := 8) (d' := 2) (zz := yX8_next) dX8_term_21 ml_X8_75 wi_X8_next wv_X8_next wn_X8 wc_X8_next hp_X8_next (by omega) (by decide) rfl (Nat.le_of_ble_eq_true rfl) ⟨Nat.zero_le _, Nat.zero_le _⟩ rfl kk0 (T_X8_next (G := G) hw kk0 q26) ?_
        refine x_bipush (v := 47) dX8_term_24 rfl ?_
        rcases x_if h with ⟨c29, h⟩ | ⟨c29, h⟩
        · refine x_icmp_ne_f (tgt := 74) dX8_term_26 (by decide) c29 ?_
          refine x_aload_n 0 dX8_term_29 rfl rfl ?_
          obtain ⟨r31, N32, q30, h⟩ := x_bd2 h
          refine x_cv (b := p_0) (As := []) (ci := 8) (d' := 2) (zz := yX8_next) dX8_term_30 ml_X8_75 wi_X8_next wv_X8_next wn_X8 wc_X8_next hp_X8_next (by omega) (by decide) rfl (Nat.le_of_ble_eq_true rfl) ⟨Nat.zero_le _, Nat.zero_le _⟩ rfl kk0 (T_X8_next (G := G) hw kk0 q30) ?_
          refine x_bipush (v := 42) dX8_term_33 rfl ?_
          rcases x_if h with ⟨c33, h⟩ | ⟨c33, h⟩
          · refine x_icmp_ne_f (tgt := 42) dX8_term_35 (by decide) c33 ?_
            refine x_iconst (v := 1) dX8_term_38 rfl ?_
            refine x_goto (tgt := 43) dX8_term_39 (by decide) ?_
            refine x_istore_n [1, 0] dX8_term_43 rfl (by decide) rfl ?_
            refine x_aload_n 0 dX8_term_44 rfl rfl ?_
            refine x_dup dX8_term_45 rfl ?_
            refine x_geti dX8_term_46 (ci := 8) (f := 4) (M := 19) (C9 := RX8) (T9 := TX8) rfl xin8 (by decide) fl_X8_54 rfl kk0 ?_
            refine x_iconst (v := 1) dX8_term_49 rfl ?_
            refine x_iadd dX8_term_50 ?_
            refine x_puti dX8_term_51 (ci := 8) (f := 4) (M := 19) (C9 := RX8) (T9 := TX8) rfl xin8 tyX8_ok nmX8 (by decide) fl_X8_54 rfl rfl rfl rfl kk0 ?_
            obtain ⟨N34, eN34, h⟩ := x_lt h
            refine x_nmN eN34 ?_
            refine x_aload_n 0 dX8_term_54 rfl rfl ?_
            obtain ⟨N36, q35, h⟩ := x_bd1 h
            refine x_cv (b := p_0) (As := []) (ci := 8) (d' := (9 + D)) (zz := yX8_factor) dX8_term_55 ml_X8_132 wi_X8_factor wv_X8_factor wn_X8 wc_X8_factor hp_X8_factor (by omega) (by decide) rfl (Nat.le_of_ble_eq_true rfl) ⟨Nat.zero_le _, Nat.zero_le _⟩ rfl kk0 (hrc_factor kk0 q35) ?_
            refine x_aload_n 0 dX8_term_58 rfl rfl ?_
            refine x_iload_n 1 dX8_term_59 rfl rfl ?_
            rcases x_if h with ⟨c37, h⟩ | ⟨c37, h⟩
            · refine x_if_eq_t (tgt := 67) dX8_term_60 (by decide) c37 ?_
              refine x_iconst (v := 5) dX8_term_67 rfl ?_
              obtain ⟨N39, q38, h⟩ := x_bd1 h
              refine x_cv (b := p_0) (As := [.int 5]) (ci := 8) (d' := 2) (zz := yX8_emit) dX8_term_68 ml_X8_129 wi_X8_emit wv_X8_emit wn_X8 wc_X8_emit hp_X8_emit (by omega) (by decide) rfl (Nat.le_of_ble_eq_true rfl) ⟨Nat.zero_le _, Nat.zero_le _⟩ rfl kk0 (T_X8_emit (G := G) hw kk0 q38) ?_
              refine x_goto (tgt := 4) dX8_term_71 (by decide) ?_
              refine x_sub [0] rfl ?_
              exact ih p_0 N39 kk0 h
            · refine x_if_eq_f (tgt := 67) dX8_term_60 (by decide) c37 ?_
              refine x_iconst (v := 4) dX8_term_63 rfl ?_
              refine x_goto (tgt := 68) dX8_term_64 (by decide) ?_
              obtain ⟨N41, q40, h⟩ := x_bd1 h
              refine x_cv (b := p_0) (As := [.int 4]) (ci := 8) (d' := 2) (zz := yX8_emit) dX8_term_68 ml_X8_129 wi_X8_emit wv_X8_emit wn_X8 wc_X8_emit hp_X8_emit (by omega) (by decide) rfl (Nat.le_of_ble_eq_true rfl) ⟨Nat.zero_le _, Nat.zero_le _⟩ rfl kk0 (T_X8_emit (G := G) hw kk0 q40) ?_
              refine x_goto (tgt := 4) dX8_term_71 (by decide) ?_
              refine x_sub [0] rfl ?_
              exact ih p_0 N41 kk0 h
          · refine x_icmp_ne_t (tgt := 42) dX8_term_35 (by decide) c33 ?_
            refine x_iconst (v := 0) dX8_term_42 rfl ?_
            refine x_istore_n [1, 0] dX8_term_43 rfl (by decide) rfl ?_
            refine x_aload_n 0 dX8_term_44 rfl rfl ?_
            refine x_dup dX8_term_45 rfl ?_
            refine x_geti dX8_term_46 (ci := 8) (f := 4) (M := 19) (C9 := RX8) (T9 := TX8) rfl xin8 (by decide) fl_X8_54 rfl kk0 ?_
            refine x_iconst (v := 1) dX8_term_49 rfl ?_
            refine x_iadd dX8_term_50 ?_
            refine x_puti dX8_term_51 (ci := 8) (f := 4) (M := 19) (C9 := RX8) (T9 := TX8) rfl xin8 tyX8_ok nmX8 (by decide) fl_X8_54 rfl rfl rfl rfl kk0 ?_
            obtain ⟨N42, eN42, h⟩ := x_lt h
            refine x_nmN eN42 ?_
            refine x_aload_n 0 dX8_term_54 rfl rfl ?_
            obtain ⟨N44, q43, h⟩ := x_bd1 h
            refine x_cv (b := p_0) (As := []) (ci := 8) (d' := (9 + D)) (zz := yX8_factor) dX8_term_55 ml_X8_132 wi_X8_factor wv_X8_factor wn_X8 wc_X8_factor hp_X8_factor (by omega) (by decide) rfl (Nat.le_of_ble_eq_true rfl) ⟨Nat.zero_le _, Nat.zero_le _⟩ rfl kk0 (hrc_factor kk0 q43) ?_
            refine x_aload_n 0 dX8_term_58 rfl rfl ?_
            refine x_iload_n 1 dX8_term_59 rfl rfl ?_
            rcases x_if h with ⟨c45, h⟩ | ⟨c45, h⟩
            · refine x_if_eq_t (tgt := 67) dX8_term_60 (by decide) c45 ?_
              refine x_iconst (v := 5) dX8_term_67 rfl ?_
              obtain ⟨N47, q46, h⟩ := x_bd1 h
              refine x_cv (b := p_0) (As := [.int 5]) (ci := 8) (d' := 2) (zz := yX8_emit) dX8_term_68 ml_X8_129 wi_X8_emit wv_X8_emit wn_X8 wc_X8_emit hp_X8_emit (by omega) (by decide) rfl (Nat.le_of_ble_eq_true rfl) ⟨Nat.zero_le _, Nat.zero_le _⟩ rfl kk0 (T_X8_emit (G := G) hw kk0 q46) ?_
              refine x_goto (tgt := 4) dX8_term_71 (by decide) ?_
              refine x_sub [0] rfl ?_
              exact ih p_0 N47 kk0 h
            · refine x_if_eq_f (tgt := 67) dX8_term_60 (by decide) c45 ?_
              refine x_iconst (v := 4) dX8_term_63 rfl ?_
              refine x_goto (tgt := 68) dX8_term_64 (by decide) ?_
              obtain ⟨N49, q48, h⟩ := x_bd1 h
              refine x_cv (b := p_0) (As := [.int 4]) (ci := 8) (d' := 2) (zz := yX8_emit) dX8_term_68 ml_X8_129 wi_X8_emit wv_X8_emit wn_X8 wc_X8_emit hp_X8_emit (by omega) (by decide) rfl (Nat.le_of_ble_eq_true rfl) ⟨Nat.zero_le _, Nat.zero_le _⟩ rfl kk0 (T_X8_emit (G := G) hw kk0 q48) ?_
              refine x_goto (tgt := 4) dX8_term_71 (by decide) ?_
              refine x_sub [0] rfl ?_
              exact ih p_0 N49 kk0 h
        · refine x_icmp_ne_t (tgt := 74) dX8_term_26 (by decide) c29 ?_
          obtain rfl := x_so h
          exact x_vret dX8_term_74 rfl rfl rfl
set_option maxHeartbeats 4000000 in
set_option maxRecDepth 100000 in
theorem T_X8_term {G : XG} {Y : XY} (hw : WT Y) {D : Nat} {rc : Nat → Nat → XN → Option XN} (hrc_sum : ∀ {a0 : Nat} {N : XN} {N9 : XN}, kc Y a0 = 18 → rc 0 a0 N = some N9 → Cl G yX8_sum cX8_sum 2 none (xR (9 + D) 0 0) [.ref a0] (.inl none) Y N Y N9) (hrc_term : ∀ {a0 : Nat} {N : XN} {N9 : XN}, kc Y a0 = 18 → rc 1 a0 N = some N9 → Cl G yX8_term cX8_term 2 none (xR (9 + D) 0 0) [.ref a0] (.inl none) Y N Y N9) (hrc_factor : ∀ {a0 : Nat} {N : XN} {N9 : XN}, kc Y a0 = 18 → rc 2 a0 N = some N9 → Cl G yX8_factor cX8_factor 4 none (xR (9 + D) 0 0) [.ref a0] (.inl none) Y N Y N9) {a0 : Nat} {N : XN} (k100 : kc Y a0 = 18) {N9 : XN} (h : b_X8_term Y rc a0 N = some N9) : Cl G yX8_term cX8_term 2 none (xR (9 + D + 1) 0 0) [.ref a0] (.inl none) Y N Y N9 := by
  refine x_entry (by decide) (Nat.le_of_ble_eq_true rfl) rfl ?_
  rw [b_X8_term] at h
  refine x_aload_n 0 dX8_term_0 rfl rfl ?_
  obtain ⟨N2, q1, h⟩ := x_bd1 h
  refine x_cv (b := a0) (As := []) (ci := 8) (d' := (9 + D)) (zz := yX8_factor) dX8_term_1 ml_X8_132 wi_X8_factor wv_X8_factor wn_X8 wc_X8_factor hp_X8_factor (by omega) (by decide) rfl (Nat.le_of_ble_eq_true rfl) ⟨Nat.zero_le _, Nat.zero_le _⟩ rfl k100 (hrc_factor k100 q1) ?_
  exact T_X8_term_4 (G := G) hw hrc_sum hrc_term hrc_factor FU a0 N2 k100 h
set_option maxHeartbeats 4000000 in
set_option maxRecDepth 100000 in
theorem T_X8_factor {G : XG} {Y : XY} (hw : WT Y) {D : Nat} {rc : Nat → Nat → XN → Option XN} (hrc_sum : ∀ {a0 : Nat} {N : XN} {N9 : XN}, kc Y a0 = 18 → rc 0 a0 N = some N9 → Cl G yX8_sum cX8_sum 2 none (xR (9 + D) 0 0) [.ref a0] (.inl none) Y N Y N9) (hrc_term : ∀ {a0 : Nat} {N : XN} {N9 : XN}, kc Y a0 = 18 → rc 1 a0 N = some N9 → Cl G yX8_term cX8_term 2 none (xR (9 + D) 0 0) [.ref a0] (.inl none) Y N Y N9) (hrc_factor : ∀ {a0 : Nat} {N : XN} {N9 : XN}, kc Y a0 = 18 → rc 2 a0 N = some N9 → Cl G yX8_factor cX8_factor 4 none (xR (9 + D) 0 0) [.ref a0] (.inl none) Y N Y N9) {a0 : Nat} {N : XN} (k100 : kc Y a0 = 18) {N9 : XN} (h : b_X8_factor Y rc a0 N = some N9) : Cl G yX8_factor cX8_factor 4 none (xR (9 + D + 1) 0 0) [.ref a0] (.inl none) Y N Y N9 := by
  refine x_entry (by decide) (Nat.le_of_ble_eq_true rfl) rfl ?_
  rw [b_X8_factor] at h
  refine x_aload_n 0 dX8_factor_0 rfl rfl ?_
  refine x_cv (b := a0) (As := []) (ci := 8) (d' := 1) (zz := yX8_isGood) dX8_factor_1 ml_X8_71 wi_X8_isGood wv_X8_isGood wn_X8 wc_X8_isGood hp_X8_isGood (by omega) (by decide) rfl (Nat.le_of_ble_eq_true rfl) ⟨Nat.zero_le _, Nat.zero_le _⟩ rfl k100 (T_X8_isGood (G := G) hw k100 rfl) ?_
  rcases x_if h with ⟨c1, h⟩ | ⟨c1, h⟩
  · refine x_if_ne_f (tgt := 8) dX8_factor_4 (by decide) c1 ?_
    obtain rfl := x_so h
    exact x_vret dX8_factor_7 rfl rfl rfl
  · refine x_if_ne_t (tgt := 8) dX8_factor_4 (by decide) c1 ?_
    refine x_aload_n 0 dX8_factor_8 rfl rfl ?_
    obtain ⟨r3, N4, q2, h⟩ := x_bd2 h
    refine x_cv (b := a0) (As := []) (ci := 8) (d' := 2) (zz := yX8_next) dX8_factor_9 ml_X8_75 wi_X8_next wv_X8_next wn_X8 wc_X8_next hp_X8_next (by omega) (by decide) rfl (Nat.le_of_ble_eq_true rfl) ⟨Nat.zero_le _, Nat.zero_le _⟩ rfl k100 (T_X8_next (G := G) hw k100 q2) ?_
    refine x_istore_n [1, 0] dX8_factor_12 rfl (by decide) rfl ?_
    refine x_iload_n 1 dX8_factor_13 rfl rfl ?_
    refine x_bipush (v := 40) dX8_factor_14 rfl ?_
    rcases x_if h with ⟨c5, h⟩ | ⟨c5, h⟩
    · refine x_icmp_ne_f (tgt := 78) dX8_factor_16 (by decide) c5 ?_
      refine x_aload_n 0 dX8_factor_19 rfl rfl ?_
      refine x_geti dX8_factor_20 (ci := 8) (f := 15) (M := 19) (C9 := RX8) (T9 := TX8) rfl xin8 (by decide) fl_X8_104 rfl k100 ?_
      refine x_iconst (v := 4) dX8_factor_23 rfl ?_
      rcases x_if h with ⟨c6, h⟩ | ⟨c6, h⟩
      · refine x_icmp_ne_f (tgt := 37) dX8_factor_24 (by decide) c6 ?_
        refine x_aload_n 0 dX8_factor_27 rfl rfl ?_
        refine x_bipush (v := (-6)) dX8_factor_28 rfl ?_
        refine x_aload_n 0 dX8_factor_30 rfl rfl ?_
        refine x_geti dX8_factor_31 (ci := 8) (f := 4) (M := 19) (C9 := RX8) (T9 := TX8) rfl xin8 (by decide) fl_X8_54 rfl k100 ?_
        obtain ⟨N8, q7, h⟩ := x_bd1 h
        refine x_cv (b := a0) (As := [.int (-6), .int (gi N4 a0 4)]) (ci := 8) (d' := 1) (zz := yX8_report) dX8_factor_34 ml_X8_88 wi_X8_report wv_X8_report wn_X8 wc_X8_report hp_X8_report (by omega) (by decide) rfl (Nat.le_of_ble_eq_true rfl) ⟨Nat.zero_le _, Nat.zero_le _⟩ rfl k100 (T_X8_report (G := G) hw k100 q7) ?_
        refine x_aload_n 0 dX8_factor_37 rfl rfl ?_
        refine x_dup dX8_factor_38 rfl ?_
        refine x_geti dX8_factor_39 (ci := 8) (f := 4) (M := 19) (C9 := RX8) (T9 := TX8) rfl xin8 (by decide) fl_X8_54 rfl k100 ?_
        refine x_iconst (v := 1) dX8_factor_42 rfl ?_
        refine x_iadd dX8_factor_43 ?_
        refine x_puti dX8_factor_44 (ci := 8) (f := 4) (M := 19) (C9 := RX8) (T9 := TX8) rfl xin8 tyX8_ok nmX8 (by decide) fl_X8_54 rfl rfl rfl rfl k100 ?_
        obtain ⟨N9, eN9, h⟩ := x_lt h
        refine x_nmN eN9 ?_
        refine x_aload_n 0 dX8_factor_47 rfl rfl ?_
        refine x_dup dX8_factor_48 rfl ?_
        refine x_geti dX8_factor_49 (ci := 8) (f := 15) (M := 19) (C9 := RX8) (T9 := TX8) rfl xin8 (by decide) fl_X8_104 rfl k100 ?_
        refine x_iconst (v := 1) dX8_factor_52 rfl ?_
        refine x_iadd dX8_factor_53 ?_
        refine x_puti dX8_factor_54 (ci := 8) (f := 15) (M := 19) (C9 := RX8) (T9 := TX8) rfl xin8 tyX8_ok nmX8 (by decide) fl_X8_104 rfl rfl rfl rfl k100 ?_
        obtain ⟨N10, eN10, h⟩ := x_lt h
        refine x_nmN eN10 ?_
        refine x_aload_n 0 dX8_factor_57 rfl rfl ?_
        obtain ⟨N12, q11, h⟩ := x_bd1 h
        refine x_cv (b := a0) (As := []) (ci := 8) (d' := (9 + D)) (zz := yX8_sum) dX8_factor_58 ml_X8_107 wi_X8_sum wv_X8_sum wn_X8 wc_X8_sum hp_X8_sum (by omega) (by decide) rfl (Nat.le_of_ble_eq_true rfl) ⟨Nat.zero_le _, Nat.zero_le _⟩ rfl k100 (hrc_sum k100 q11) ?_
        refine x_aload_n 0 dX8_factor_61 rfl rfl ?_
        refine x_bipush (v := 41) dX8_factor_62 rfl ?_
        obtain ⟨N14, q13, h⟩ := x_bd1 h
        refine x_cv (b := a0) (As := [.int 41]) (ci := 8) (d' := 3) (zz := yX8_expect) dX8_factor_64 ml_X8_110 wi_X8_expect wv_X8_expect wn_X8 wc_X8_expect hp_X8_expect (by omega) (by decide) rfl (Nat.le_of_ble_eq_true rfl) ⟨Nat.zero_le _, Nat.zero_le _⟩ rfl k100 (T_X8_expect (G := G) hw k100 q13) ?_
        refine x_aload_n 0 dX8_factor_67 rfl rfl ?_
        refine x_dup dX8_factor_68 rfl ?_
        refine x_geti dX8_factor_69 (ci := 8) (f := 15) (M := 19) (C9 := RX8) (T9 := TX8) rfl xin8 (by decide) fl_X8_104 rfl k100 ?_
        refine x_iconst (v := 1) dX8_factor_72 rfl ?_
        refine x_isub dX8_factor_73 ?_
        refine x_puti dX8_factor_74 (ci := 8) (f := 15) (M := 19) (C9 := RX8) (T9 := TX8) rfl xin8 tyX8_ok nmX8 (by decide) fl_X8_104 rfl rfl rfl rfl k100 ?_
        obtain ⟨N15, eN15, h⟩ := x_lt h
        refine x_nmN eN15 ?_
        obtain rfl := x_so h
        exact x_vret dX8_factor_77 rfl rfl rfl
      · refine x_icmp_ne_t (tgt := 37) dX8_factor_24 (by decide) c6 ?_
        refine x_aload_n 0 dX8_factor_37 rfl rfl ?_
        refine x_dup dX8_factor_38 rfl ?_
        refine x_geti dX8_factor_39 (ci := 8) (f := 4) (M := 19) (C9 := RX8) (T9 := TX8) rfl xin8 (by decide) fl_X8_54 rfl k100 ?_
        refine x_iconst (v := 1) dX8_factor_42 rfl ?_
        refine x_iadd dX8_factor_43 ?_
        refine x_puti dX8_factor_44 (ci := 8) (f := 4) (M := 19) (C9 := RX8) (T9 := TX8) rfl xin8 tyX8_ok nmX8 (by decide) fl_X8_54 rfl rfl rfl rfl k100 ?_
        obtain ⟨N16, eN16, h⟩ := x_lt h
        refine x_nmN eN16 ?_
        refine x_aload_n 0 dX8_factor_47 rfl rfl ?_
        refine x_dup dX8_factor_48 rfl ?_
        refine x_geti dX8_factor_49 (ci := 8) (f := 15) (M := 19) (C9 := RX8) (T9 := TX8) rfl xin8 (by decide) fl_X8_104 rfl k100 ?_
        refine x_iconst (v := 1) dX8_factor_52 rfl ?_
        refine x_iadd dX8_factor_53 ?_
        refine x_puti dX8_factor_54 (ci := 8) (f := 15) (M := 19) (C9 := RX8) (T9 := TX8) rfl xin8 tyX8_ok nmX8 (by decide) fl_X8_104 rfl rfl rfl rfl k100 ?_
        obtain ⟨N17, eN17, h⟩ := x_lt h
        refine x_nmN eN17 ?_
        refine x_aload_n 0 dX8_factor_57 rfl rfl ?_
        obtain ⟨N19, q18, h⟩ := x_bd1 h
        refine x_cv (b := a0) (As := []) (ci := 8) (d' := (9 + D)) (zz := yX8_sum) dX8_factor_58 ml_X8_107 wi_X8_sum wv_X8_sum wn_X8 wc_X8_sum hp_X8_sum (by omega) (by decide) rfl (Nat.le_of_ble_eq_true rfl) ⟨Nat.zero_le _, Nat.zero_le _⟩ rfl k100 (hrc_sum k100 q18) ?_
        refine x_aload_n 0 dX8_factor_61 rfl rfl ?_
        refine x_bipush (v := 41) dX8_factor_62 rfl ?_
        obtain ⟨N21, q20, h⟩ := x_bd1 h
        refine x_cv (b := a0) (As := [.int 41]) (ci := 8) (d' := 3) (zz := yX8_expect) dX8_factor_64 ml_X8_110 wi_X8_expect wv_X8_expect wn_X8 wc_X8_expect hp_X8_expect (by omega) (by decide) rfl (Nat.le_of_ble_eq_true rfl) ⟨Nat.zero_le _, Nat.zero_le _⟩ rfl k100 (T_X8_expect (G := G) hw k100 q20) ?_
        refine x_aload_n 0 dX8_factor_67 rfl rfl ?_
        refine x_dup dX8_factor_68 rfl ?_
        refine x_geti dX8_factor_69 (ci := 8) (f := 15) (M := 19) (C9 := RX8) (T9 := TX8) rfl xin8 (by decide) fl_X8_104 rfl k100 ?_
        refine x_iconst (v := 1) dX8_factor_72 rfl ?_
        refine x_isub dX8_factor_73 ?_
        refine x_puti dX8_factor_74 (ci := 8) (f := 15) (M := 19) (C9 := RX8) (T9 := TX8) rfl xin8 tyX8_ok nmX8 (by decide) fl_X8_104 rfl rfl rfl rfl k100 ?_
        obtain ⟨N22, eN22, h⟩ := x_lt h
        refine x_nmN eN22 ?_
        obtain rfl := x_so h
        exact x_vret dX8_factor_77 rfl rfl rfl
    · refine x_icmp_ne_t (tgt := 78) dX8_factor_16 (by decide) c5 ?_
      refine x_iload_n 1 dX8_factor_78 rfl rfl ?_
      obtain ⟨r24, q23, h⟩ := x_bd1 h
      refine x_cs (As := [.int r3]) (d' := 2) (zz := yX8_isDigit) dX8_factor_79 ml_X8_92 wt_X8_isDigit wn_X8 wc_X8_isDigit hp_X8_isDigit (by omega) (by decide) rfl (Nat.le_of_ble_eq_true rfl) ⟨Nat.zero_le _, Nat.zero_le _⟩ (T_X8_isDigit (G := G) hw  q23) ?_
      rcases x_if h with ⟨c25, h⟩ | ⟨c25, h⟩
      · refine x_if_eq_t (tgt := 89) dX8_factor_82 (by decide) c25 ?_
        refine x_aload_n 0 dX8_factor_89 rfl rfl ?_
        refine x_ldcS (tx := "line") (i := 2) dX8_factor_90 (by decide) ?_
        obtain ⟨r27, N28, q26, h⟩ := x_bd2 h
        refine x_cv (b := a0) (As := [.ref (xS G 2)]) (ci := 8) (d' := 8) (zz := yX8_takeWord) dX8_factor_92 ml_X8_116 wi_X8_takeWord wv_X8_takeWord wn_X8 wc_X8_takeWord hp_X8_takeWord (by omega) (by decide) rfl (Nat.le_of_ble_eq_true rfl) ⟨Nat.zero_le _, Nat.zero_le _⟩ rfl k100 (T_X8_takeWord (G := G) hw k100 q26) ?_
        rcases x_if h with ⟨c29, h⟩ | ⟨c29, h⟩
        · refine x_if_eq_t (tgt := 102) dX8_factor_95 (by decide) c29 ?_
          refine x_aload_n 0 dX8_factor_102 rfl rfl ?_
          refine x_ldcS (tx := "left") (i := 10) dX8_factor_103 (by decide) ?_
          obtain ⟨r31, N32, q30, h⟩ := x_bd2 h
          refine x_cv (b := a0) (As := [.ref (xS G 10)]) (ci := 8) (d' := 8) (zz := yX8_takeWord) dX8_factor_105 ml_X8_116 wi_X8_takeWord wv_X8_takeWord wn_X8 wc_X8_takeWord hp_X8_takeWord (by omega) (by decide) rfl (Nat.le_of_ble_eq_true rfl) ⟨Nat.zero_le _, Nat.zero_le _⟩ rfl k100 (T_X8_takeWord (G := G) hw k100 q30) ?_
          rcases x_if h with ⟨c33, h⟩ | ⟨c33, h⟩
          · refine x_if_eq_t (tgt := 115) dX8_factor_108 (by decide) c33 ?_
            refine x_aload_n 0 dX8_factor_115 rfl rfl ?_
            refine x_ldcS (tx := "held") (i := 11) dX8_factor_116 (by decide) ?_
            obtain ⟨r35, N36, q34, h⟩ := x_bd2 h
            refine x_cv (b := a0) (As := [.ref (xS G 11)]) (ci := 8) (d' := 8) (zz := yX8_takeWord) dX8_factor_118 ml_X8_116 wi_X8_takeWord wv_X8_takeWord wn_X8 wc_X8_takeWord hp_X8_takeWord (by omega) (by decide) rfl (Nat.le_of_ble_eq_true rfl) ⟨Nat.zero_le _, Nat.zero_le _⟩ rfl k100 (T_X8_takeWord (G := G) hw k100 q34) ?_
            rcases x_if h with ⟨c37, h⟩ | ⟨c37, h⟩
            · refine x_if_eq_t (tgt := 128) dX8_factor_121 (by decide) c37 ?_
              refine x_aload_n 0 dX8_factor_128 rfl rfl ?_
              refine x_ldcS (tx := "waited") (i := 12) dX8_factor_129 (by decide) ?_
              obtain ⟨r39, N40, q38, h⟩ := x_bd2 h
              refine x_cv (b := a0) (As := [.ref (xS G 12)]) (ci := 8) (d' := 8) (zz := yX8_takeWord) dX8_factor_131 ml_X8_116 wi_X8_takeWord wv_X8_takeWord wn_X8 wc_X8_takeWord hp_X8_takeWord (by omega) (by decide) rfl (Nat.le_of_ble_eq_true rfl) ⟨Nat.zero_le _, Nat.zero_le _⟩ rfl k100 (T_X8_takeWord (G := G) hw k100 q38) ?_
              rcases x_if h with ⟨c41, h⟩ | ⟨c41, h⟩
              · refine x_if_eq_t (tgt := 141) dX8_factor_134 (by decide) c41 ?_
                refine x_iconst (v := (-1)) dX8_factor_141 rfl ?_
                refine x_istore_n [1, 0] dX8_factor_142 rfl (by decide) rfl ?_
                refine x_iload_n 1 dX8_factor_143 rfl rfl ?_
                rcases x_if h with ⟨c42, h⟩ | ⟨c42, h⟩
                · refine x_if_ge_t (tgt := 158) dX8_factor_144 (by decide) c42 ?_
                  refine x_iload_n 1 dX8_factor_158 rfl rfl ?_
                  refine x_istore_n [1, 2, 0] dX8_factor_159 rfl (by decide) rfl ?_
                  refine x_aload_n 0 dX8_factor_160 rfl rfl ?_
                  refine x_iload_n 1 dX8_factor_161 rfl rfl ?_
                  rcases x_if h with ⟨c43, h⟩ | ⟨c43, h⟩
                  · refine x_if_ge_t (tgt := 169) dX8_factor_162 (by decide) c43 ?_
                    refine x_iconst (v := 1) dX8_factor_169 rfl ?_
                    obtain ⟨N45, q44, h⟩ := x_bd1 h
                    refine x_cv (b := a0) (As := [.int 1]) (ci := 8) (d' := 2) (zz := yX8_emit) dX8_factor_170 ml_X8_129 wi_X8_emit wv_X8_emit wn_X8 wc_X8_emit hp_X8_emit (by omega) (by decide) rfl (Nat.le_of_ble_eq_true rfl) ⟨Nat.zero_le _, Nat.zero_le _⟩ rfl k100 (T_X8_emit (G := G) hw k100 q44) ?_
                    refine x_aload_n 0 dX8_factor_173 rfl rfl ?_
                    refine x_iload_n 2 dX8_factor_174 rfl rfl ?_
                    obtain ⟨N47, q46, h⟩ := x_bd1 h
                    refine x_cv (b := a0) (As := [.int (-1)]) (ci := 8) (d' := 2) (zz := yX8_emit) dX8_factor_175 ml_X8_129 wi_X8_emit wv_X8_emit wn_X8 wc_X8_emit hp_X8_emit (by omega) (by decide) rfl (Nat.le_of_ble_eq_true rfl) ⟨Nat.zero_le _, Nat.zero_le _⟩ rfl k100 (T_X8_emit (G := G) hw k100 q46) ?_
                    obtain rfl := x_so h
                    exact x_vret dX8_factor_178 rfl rfl rfl
                  · refine x_if_ge_f (tgt := 169) dX8_factor_162 (by decide) c43 ?_
                    refine x_iconst (v := 0) dX8_factor_165 rfl ?_
                    refine x_goto (tgt := 170) dX8_factor_166 (by decide) ?_
                    obtain ⟨N49, q48, h⟩ := x_bd1 h
                    refine x_cv (b := a0) (As := [.int 0]) (ci := 8) (d' := 2) (zz := yX8_emit) dX8_factor_170 ml_X8_129 wi_X8_emit wv_X8_emit wn_X8 wc_X8_emit hp_X8_emit (by omega) (by decide) rfl (Nat.le_of_ble_eq_true rfl) ⟨Nat.zero_le _, Nat.zero_le _⟩ rfl k100 (T_X8_emit (G := G) hw k100 q48) ?_
                    refine x_aload_n 0 dX8_factor_173 rfl rfl ?_
                    refine x_iload_n 2 dX8_factor_174 rfl rfl ?_
                    obtain ⟨N51, q50, h⟩ := x_bd1 h
                    refine x_cv (b := a0) (As := [.int (-1)]) (ci := 8) (d' := 2) (zz := yX8_emit) dX8_factor_175 ml_X8_129 wi_X8_emit wv_X8_emit wn_X8 wc_X8_emit hp_X8_emit (by omega) (by decide) rfl (Nat.le_of_ble_eq_true rfl) ⟨Nat.zero_le _, Nat.zero_le _⟩ rfl k100 (T_X8_emit (G := G) hw k100 q50) ?_
                    obtain rfl := x_so h
                    exact x_vret dX8_factor_178 rfl rfl rfl
                · refine x_if_ge_f (tgt := 158) dX8_factor_144 (by decide) c42 ?_
                  refine x_aload_n 0 dX8_factor_147 rfl rfl ?_
                  refine x_iconst (v := 0) dX8_factor_148 rfl ?_
                  refine x_sipush (v := 9999) dX8_factor_149 rfl ?_
                  obtain ⟨r53, N54, q52, h⟩ := x_bd2 h
                  refine x_cv (b := a0) (As := [.int 0, .int 9999]) (ci := 8) (d' := 3) (zz := yX8_number) dX8_factor_152 ml_X8_126 wi_X8_number wv_X8_number wn_X8 wc_X8_number hp_X8_number (by omega) (by decide) rfl (Nat.le_of_ble_eq_true rfl) ⟨Nat.zero_le _, Nat.zero_le _⟩ rfl k100 (T_X8_number (G := G) hw k100 q52) ?_
                  refine x_goto (tgt := 159) dX8_factor_155 (by decide) ?_
                  refine x_istore_n [1, 2, 0] dX8_factor_159 rfl (by decide) rfl ?_
                  refine x_aload_n 0 dX8_factor_160 rfl rfl ?_
                  refine x_iload_n 1 dX8_factor_161 rfl rfl ?_
                  rcases x_if h with ⟨c55, h⟩ | ⟨c55, h⟩
                  · refine x_if_ge_t (tgt := 169) dX8_factor_162 (by decide) c55 ?_
                    refine x_iconst (v := 1) dX8_factor_169 rfl ?_
                    obtain ⟨N57, q56, h⟩ := x_bd1 h
                    refine x_cv (b := a0) (As := [.int 1]) (ci := 8) (d' := 2) (zz := yX8_emit) dX8_factor_170 ml_X8_129 wi_X8_emit wv_X8_emit wn_X8 wc_X8_emit hp_X8_emit (by omega) (by decide) rfl (Nat.le_of_ble_eq_true rfl) ⟨Nat.zero_le _, Nat.zero_le _⟩ rfl k100 (T_X8_emit (G := G) hw k100 q56) ?_
                    refine x_aload_n 0 dX8_factor_173 rfl rfl ?_
                    refine x_iload_n 2 dX8_factor_174 rfl rfl ?_
                    obtain ⟨N59, q58, h⟩ := x_bd1 h
                    refine x_cv (b := a0) (As := [.int r53]) (ci := 8) (d' := 2) (zz := yX8_emit) dX8_factor_175 ml_X8_129 wi_X8_emit wv_X8_emit wn_X8 wc_X8_emit hp_X8_emit (by omega) (by decide) rfl (Nat.le_of_ble_eq_true rfl) ⟨Nat.zero_le _, Nat.zero_le _⟩ rfl k100 (T_X8_emit (G := G) hw k100 q58) ?_
                    obtain rfl := x_so h
                    exact x_vret dX8_factor_178 rfl rfl rfl
                  · refine x_if_ge_f (tgt := 169) dX8_factor_162 (by decide) c55 ?_
                    refine x_iconst (v := 0) dX8_factor_165 rfl ?_
                    refine x_goto (tgt := 170) dX8_factor_166 (by decide) ?_
                    obtain ⟨N61, q60, h⟩ := x_bd1 h
                    refine x_cv (b := a0) (As := [.int 0]) (ci := 8) (d' := 2) (zz := yX8_emit) dX8_factor_170 ml_X8_129 wi_X8_emit wv_X8_emit wn_X8 wc_X8_emit hp_X8_emit (by omega) (by decide) rfl (Nat.le_of_ble_eq_true rfl) ⟨Nat.zero_le _, Nat.zero_le _⟩ rfl k100 (T_X8_emit (G := G) hw k100 q60) ?_
                    refine x_aload_n 0 dX8_factor_173 rfl rfl ?_
                    refine x_iload_n 2 dX8_factor_174 rfl rfl ?_
                    obtain ⟨N63, q62, h⟩ := x_bd1 h
                    refine x_cv (b := a0) (As := [.int r53]) (ci := 8) (d' := 2) (zz := yX8_emit) dX8_factor_175 ml_X8_129 wi_X8_emit wv_X8_emit wn_X8 wc_X8_emit hp_X8_emit (by omega) (by decide) rfl (Nat.le_of_ble_eq_true rfl) ⟨Nat.zero_le _, Nat.zero_le _⟩ rfl k100 (T_X8_emit (G := G) hw k100 q62) ?_
                    obtain rfl := x_so h
                    exact x_vret dX8_factor_178 rfl rfl rfl
              · refine x_if_eq_f (tgt := 141) dX8_factor_134 (by decide) c41 ?_
                refine x_iconst (v := 3) dX8_factor_137 rfl ?_
                refine x_goto (tgt := 142) dX8_factor_138 (by decide) ?_
                refine x_istore_n [1, 0] dX8_factor_142 rfl (by decide) rfl ?_
                refine x_iload_n 1 dX8_factor_143 rfl rfl ?_
                rcases x_if h with ⟨c64, h⟩ | ⟨c64, h⟩
                · refine x_if_ge_t (tgt := 158) dX8_factor_144 (by decide) c64 ?_
                  refine x_iload_n 1 dX8_factor_158 rfl rfl ?_
                  refine x_istore_n [1, 2, 0] dX8_factor_159 rfl (by decide) rfl ?_
                  refine x_aload_n 0 dX8_factor_160 rfl rfl ?_
                  refine x_iload_n 1 dX8_factor_161 rfl rfl ?_
                  rcases x_if h with ⟨c65, h⟩ | ⟨c65, h⟩
                  · refine x_if_ge_t (tgt := 169) dX8_factor_162 (by decide) c65 ?_
                    refine x_iconst (v := 1) dX8_factor_169 rfl ?_
                    obtain ⟨N67, q66, h⟩ := x_bd1 h
                    refine x_cv (b := a0) (As := [.int 1]) (ci := 8) (d' := 2) (zz := yX8_emit) dX8_factor_170 ml_X8_129 wi_X8_emit wv_X8_emit wn_X8 wc_X8_emit hp_X8_emit (by omega) (by decide) rfl (Nat.le_of_ble_eq_true rfl) ⟨Nat.zero_le _, Nat.zero_le _⟩ rfl k100 (T_X8_emit (G := G) hw k100 q66) ?_
                    refine x_aload_n 0 dX8_factor_173 rfl rfl ?_
                    refine x_iload_n 2 dX8_factor_174 rfl rfl ?_
                    obtain ⟨N69, q68, h⟩ := x_bd1 h
                    refine x_cv (b := a0) (As := [.int 3]) (ci := 8) (d' := 2) (zz := yX8_emit) dX8_factor_175 ml_X8_129 wi_X8_emit wv_X8_emit wn_X8 wc_X8_emit hp_X8_emit (by omega) (by decide) rfl (Nat.le_of_ble_eq_true rfl) ⟨Nat.zero_le _, Nat.zero_le _⟩ rfl k100 (T_X8_emit (G := G) hw k100 q68) ?_
                    obtain rfl := x_so h
                    exact x_vret dX8_factor_178 rfl rfl rfl
                  · refine x_if_ge_f (tgt := 169) dX8_factor_162 (by decide) c65 ?_
                    refine x_iconst (v := 0) dX8_factor_165 rfl ?_
                    refine x_goto (tgt := 170) dX8_factor_166 (by decide) ?_
                    obtain ⟨N71, q70, h⟩ := x_bd1 h
                    refine x_cv (b := a0) (As := [.int 0]) (ci := 8) (d' := 2) (zz := yX8_emit) dX8_factor_170 ml_X8_129 wi_X8_emit wv_X8_emit wn_X8 wc_X8_emit hp_X8_emit (by omega) (by decide) rfl (Nat.le_of_ble_eq_true rfl) ⟨Nat.zero_le _, Nat.zero_le _⟩ rfl k100 (T_X8_emit (G := G) hw k100 q70) ?_
                    refine x_aload_n 0 dX8_factor_173 rfl rfl ?_
                    refine x_iload_n 2 dX8_factor_174 rfl rfl ?_
                    obtain ⟨N73, q72, h⟩ := x_bd1 h
                    refine x_cv (b := a0) (As := [.int 3]) (ci := 8) (d' := 2) (zz := yX8_emit) dX8_factor_175 ml_X8_129 wi_X8_emit wv_X8_emit wn_X8 wc_X8_emit hp_X8_emit (by omega) (by decide) rfl (Nat.le_of_ble_eq_true rfl) ⟨Nat.zero_le _, Nat.zero_le _⟩ rfl k100 (T_X8_emit (G := G) hw k100 q72) ?_
                    obtain rfl := x_so h
                    exact x_vret dX8_factor_178 rfl rfl rfl
                · refine x_if_ge_f (tgt := 158) dX8_factor_144 (by decide) c64 ?_
                  refine x_aload_n 0 dX8_factor_147 rfl rfl ?_
                  refine x_iconst (v := 0) dX8_factor_148 rfl ?_
                  refine x_sipush (v := 9999) dX8_factor_149 rfl ?_
                  obtain ⟨r75, N76, q74, h⟩ := x_bd2 h
                  refine x_cv (b := a0) (As := [.int 0, .int 9999]) (ci := 8) (d' := 3) (zz := yX8_number) dX8_factor_152 ml_X8_126 wi_X8_number wv_X8_number wn_X8 wc_X8_number hp_X8_number (by omega) (by decide) rfl (Nat.le_of_ble_eq_true rfl) ⟨Nat.zero_le _, Nat.zero_le _⟩ rfl k100 (T_X8_number (G := G) hw k100 q74) ?_
                  refine x_goto (tgt := 159) dX8_factor_155 (by decide) ?_
                  refine x_istore_n [1, 2, 0] dX8_factor_159 rfl (by decide) rfl ?_
                  refine x_aload_n 0 dX8_factor_160 rfl rfl ?_
                  refine x_iload_n 1 dX8_factor_161 rfl rfl ?_
                  rcases x_if h with ⟨c77, h⟩ | ⟨c77, h⟩
                  · refine x_if_ge_t (tgt := 169) dX8_factor_162 (by decide) c77 ?_
                    refine x_iconst (v := 1) dX8_factor_169 rfl ?_
                    obtain ⟨N79, q78, h⟩ := x_bd1 h
                    refine x_cv (b := a0) (As := [.int 1]) (ci := 8) (d' := 2) (zz := yX8_emit) dX8_factor_170 ml_X8_129 wi_X8_emit wv_X8_emit wn_X8 wc_X8_emit hp_X8_emit (by omega) (by decide) rfl (Nat.le_of_ble_eq_true rfl) ⟨Nat.zero_le _, Nat.zero_le _⟩ rfl k100 (T_X8_emit (G := G) hw k100 q78) ?_
                    refine x_aload_n 0 dX8_factor_173 rfl rfl ?_
                    refine x_iload_n 2 dX8_factor_174 rfl rfl ?_
                    obtain ⟨N81, q80, h⟩ := x_bd1 h
                    refine x_cv (b := a0) (As := [.int r75]) (ci := 8) (d' := 2) (zz := yX8_emit) dX8_factor_175 ml_X8_129 wi_X8_emit wv_X8_emit wn_X8 wc_X8_emit hp_X8_emit (by omega) (by decide) rfl (Nat.le_of_ble_eq_true rfl) ⟨Nat.zero_le _, Nat.zero_le _⟩ rfl k100 (T_X8_emit (G := G) hw k100 q80) ?_
                    obtain rfl := x_so h
                    exact x_vret dX8_factor_178 rfl rfl rfl
                  · refine x_if_ge_f (tgt := 169) dX8_factor_162 (by decide) c77 ?_
                    refine x_iconst (v := 0) dX8_factor_165 rfl ?_
                    refine x_goto (tgt := 170) dX8_factor_166 (by decide) ?_
                    obtain ⟨N83, q82, h⟩ := x_bd1 h
                    refine x_cv (b := a0) (As := [.int 0]) (ci := 8) (d' := 2) (zz := yX8_emit) dX8_factor_170 ml_X8_129 wi_X8_emit wv_X8_emit wn_X8 wc_X8_emit hp_X8_emit (by omega) (by decide) rfl (Nat.le_of_ble_eq_true rfl) ⟨Nat.zero_le _, Nat.zero_le _⟩ rfl k100 (T_X8_emit (G := G) hw k100 q82) ?_
                    refine x_aload_n 0 dX8_factor_173 rfl rfl ?_
                    refine x_iload_n 2 dX8_factor_174 rfl rfl ?_
                    obtain ⟨N85, q84, h⟩ := x_bd1 h
                    refine x_cv (b := a0) (As := [.int r75]) (ci := 8) (d' := 2) (zz := yX8_emit) dX8_factor_175 ml_X8_129 wi_X8_emit wv_X8_emit wn_X8 wc_X8_emit hp_X8_emit (by omega) (by decide) rfl (Nat.le_of_ble_eq_true rfl) ⟨Nat.zero_le _, Nat.zero_le _⟩ rfl k100 (T_X8_emit (G := G) hw k100 q84) ?_
                    obtain rfl := x_so h
                    exact x_vret dX8_factor_178 rfl rfl rfl
            · refine x_if_eq_f (tgt := 128) dX8_factor_121 (by decide) c37 ?_
              refine x_iconst (v := 2) dX8_factor_124 rfl ?_
              refine x_goto (tgt := 142) dX8_factor_125 (by decide) ?_
              refine x_istore_n [1, 0] dX8_factor_142 rfl (by decide) rfl ?_
              refine x_iload_n 1 dX8_factor_143 rfl rfl ?_
              rcases x_if h with ⟨c86, h⟩ | ⟨c86, h⟩
              · refine x_if_ge_t (tgt := 158) dX8_factor_144 (by decide) c86 ?_
                refine x_iload_n 1 dX8_factor_158 rfl rfl ?_
                refine x_istore_n [1, 2, 0] dX8_factor_159 rfl (by decide) rfl ?_
                refine x_aload_n 0 dX8_factor_160 rfl rfl ?_
                refine x_iload_n 1 dX8_factor_161 rfl rfl ?_
                rcases x_if h with ⟨c87, h⟩ | ⟨c87, h⟩
                · refine x_if_ge_t (tgt := 169) dX8_factor_162 (by decide) c87 ?_
                  refine x_iconst (v := 1) dX8_factor_169 rfl ?_
                  obtain ⟨N89, q88, h⟩ := x_bd1 h
                  refine x_cv (b := a0) (As := [.int 1]) (ci := 8) (d' := 2) (zz := yX8_emit) dX8_factor_170 ml_X8_129 wi_X8_emit wv_X8_emit wn_X8 wc_X8_emit hp_X8_emit (by omega) (by decide) rfl (Nat.le_of_ble_eq_true rfl) ⟨Nat.zero_le _, Nat.zero_le _⟩ rfl k100 (T_X8_emit (G := G) hw k100 q88) ?_
                  refine x_aload_n 0 dX8_factor_173 rfl rfl ?_
                  refine x_iload_n 2 dX8_factor_174 rfl rfl ?_
                  obtain ⟨N91, q90, h⟩ := x_bd1 h
                  refine x_cv (b := a0) (As := [.int 2]) (ci := 8) (d' := 2) (zz := yX8_emit) dX8_factor_175 ml_X8_129 wi_X8_emit wv_X8_emit wn_X8 wc_X8_emit hp_X8_emit (by omega) (by decide) rfl (Nat.le_of_ble_eq_true rfl) ⟨Nat.zero_le _, Nat.zero_le _⟩ rfl k100 (T_X8_emit (G := G) hw k100 q90) ?_
                  obtain rfl := x_so h
                  exact x_vret dX8_factor_178 rfl rfl rfl
                · refine x_if_ge_f (tgt := 169) dX8_factor_162 (by decide) c87 ?_
                  refine x_iconst (v := 0) dX8_factor_165 rfl ?_
                  refine x_goto (tgt := 170) dX8_factor_166 (by decide) ?_
                  obtain ⟨N93, q92, h⟩ := x_bd1 h
                  refine x_cv (b := a0) (As := [.int 0]) (ci := 8) (d' := 2) (zz := yX8_emit) dX8_factor_170 ml_X8_129 wi_X8_emit wv_X8_emit wn_X8 wc_X8_emit hp_X8_emit (by omega) (by decide) rfl (Nat.le_of_ble_eq_true rfl) ⟨Nat.zero_le _, Nat.zero_le _⟩ rfl k100 (T_X8_emit (G := G) hw k100 q92) ?_
                  refine x_aload_n 0 dX8_factor_173 rfl rfl ?_
                  refine x_iload_n 2 dX8_factor_174 rfl rfl ?_
                  obtain ⟨N95, q94, h⟩ := x_bd1 h
                  refine x_cv (b := a0) (As := [.int 2]) (ci := 8) (d' := 2) (zz := yX8_emit) dX8_factor_175 ml_X8_129 wi_X8_emit wv_X8_emit wn_X8 wc_X8_emit hp_X8_emit (by omega) (by decide) rfl (Nat.le_of_ble_eq_true rfl) ⟨Nat.zero_le _, Nat.zero_le _⟩ rfl k100 (T_X8_emit (G := G) hw k100 q94) ?_
                  obtain rfl := x_so h
                  exact x_vret dX8_factor_178 rfl rfl rfl
              · refine x_if_ge_f (tgt := 158) dX8_factor_144 (by decide) c86 ?_
                refine x_aload_n 0 dX8_factor_147 rfl rfl ?_
                refine x_iconst (v := 0) dX8_factor_148 rfl ?_
                refine x_sipush (v := 9999) dX8_factor_149 rfl ?_
                obtain ⟨r97, N98, q96, h⟩ := x_bd2 h
                refine x_cv (b := a0) (As := [.int 0, .int 9999]) (ci := 8) (d' := 3) (zz := yX8_number) dX8_factor_152 ml_X8_126 wi_X8_number wv_X8_number wn_X8 wc_X8_number hp_X8_number (by omega) (by decide) rfl (Nat.le_of_ble_eq_true rfl) ⟨Nat.zero_le _, Nat.zero_le _⟩ rfl k100 (T_X8_number (G := G) hw k100 q96) ?_
                refine x_goto (tgt := 159) dX8_factor_155 (by decide) ?_
                refine x_istore_n [1, 2, 0] dX8_factor_159 rfl (by decide) rfl ?_
                refine x_aload_n 0 dX8_factor_160 rfl rfl ?_
                refine x_iload_n 1 dX8_factor_161 rfl rfl ?_
                rcases x_if h with ⟨c99, h⟩ | ⟨c99, h⟩
                · refine x_if_ge_t (tgt := 169) dX8_factor_162 (by decide) c99 ?_
                  refine x_iconst (v := 1) dX8_factor_169 rfl ?_
                  obtain ⟨N101, q100, h⟩ := x_bd1 h
                  refine x_cv (b := a0) (As := [.int 1]) (ci := 8) (d' := 2) (zz := yX8_emit) dX8_factor_170 ml_X8_129 wi_X8_emit wv_X8_emit wn_X8 wc_X8_emit hp_X8_emit (by omega) (by decide) rfl (Nat.le_of_ble_eq_true rfl) ⟨Nat.zero_le _, Nat.zero_le _⟩ rfl k100 (T_X8_emit (G := G) hw k100 q100) ?_
                  refine x_aload_n 0 dX8_factor_173 rfl rfl ?_
                  refine x_iload_n 2 dX8_factor_174 rfl rfl ?_
                  obtain ⟨N103, q102, h⟩ := x_bd1 h
                  refine x_cv (b := a0) (As := [.int r97]) (ci := 8) (d' := 2) (zz := yX8_emit) dX8_factor_175 ml_X8_129 wi_X8_emit wv_X8_emit wn_X8 wc_X8_emit hp_X8_emit (by omega) (by decide) rfl (Nat.le_of_ble_eq_true rfl) ⟨Nat.zero_le _, Nat.zero_le _⟩ rfl k100 (T_X8_emit (G := G) hw k100 q102) ?_
                  obtain rfl := x_so h
                  exact x_vret dX8_factor_178 rfl rfl rfl
                · refine x_if_ge_f (tgt := 169) dX8_factor_162 (by decide) c99 ?_
                  refine x_iconst (v := 0) dX8_factor_165 rfl ?_
                  refine x_goto (tgt := 170) dX8_factor_166 (by decide) ?_
                  obtain ⟨N105, q104, h⟩ := x_bd1 h
                  refine x_cv (b := a0) (As := [.int 0]) (ci := 8) (d' := 2) (zz := yX8_emit) dX8_factor_170 ml_X8_129 wi_X8_emit wv_X8_emit wn_X8 wc_X8_emit hp_X8_emit (by omega) (by decide) rfl (Nat.le_of_ble_eq_true rfl) ⟨Nat.zero_le _, Nat.zero_le _⟩ rfl k100 (T_X8_emit (G := G) hw k100 q104) ?_
                  refine x_aload_n 0 dX8_factor_173 rfl rfl ?_
                  refine x_iload_n 2 dX8_factor_174 rfl rfl ?_
                  obtain ⟨N107, q106, h⟩ := x_bd1 h
                  refine x_cv (b := a0) (As := [.int r97]) (ci := 8) (d' := 2) (zz := yX8_emit) dX8_factor_175 ml_X8_129 wi_X8_emit wv_X8_emit wn_X8 wc_X8_emit hp_X8_emit (by omega) (by decide) rfl (Nat.le_of_ble_eq_true rfl) ⟨Nat.zero_le _, Nat.zero_le _⟩ rfl k100 (T_X8_emit (G := G) hw k100 q106) ?_
                  obtain rfl := x_so h
                  exact x_vret dX8_factor_178 rfl rfl rfl
          · refine x_if_eq_f (tgt := 115) dX8_factor_108 (by decide) c33 ?_
            refine x_iconst (v := 1) dX8_factor_111 rfl ?_
            refine x_goto (tgt := 142) dX8_factor_112 (by decide) ?_
            refine x_istore_n [1, 0] dX8_factor_142 rfl (by decide) rfl ?_
            refine x_iload_n 1 dX8_factor_143 rfl rfl ?_
            rcases x_if h with ⟨c108, h⟩ | ⟨c108, h⟩
            · refine x_if_ge_t (tgt := 158) dX8_factor_144 (by decide) c108 ?_
              refine x_iload_n 1 dX8_factor_158 rfl rfl ?_
              refine x_istore_n [1, 2, 0] dX8_factor_159 rfl (by decide) rfl ?_
              refine x_aload_n 0 dX8_factor_160 rfl rfl ?_
              refine x_iload_n 1 dX8_factor_161 rfl rfl ?_
              rcases x_if h with ⟨c109, h⟩ | ⟨c109, h⟩
              · refine x_if_ge_t (tgt := 169) dX8_factor_162 (by decide) c109 ?_
                refine x_iconst (v := 1) dX8_factor_169 rfl ?_
                obtain ⟨N111, q110, h⟩ := x_bd1 h
                refine x_cv (b := a0) (As := [.int 1]) (ci := 8) (d' := 2) (zz := yX8_emit) dX8_factor_170 ml_X8_129 wi_X8_emit wv_X8_emit wn_X8 wc_X8_emit hp_X8_emit (by omega) (by decide) rfl (Nat.le_of_ble_eq_true rfl) ⟨Nat.zero_le _, Nat.zero_le _⟩ rfl k100 (T_X8_emit (G := G) hw k100 q110) ?_
                refine x_aload_n 0 dX8_factor_173 rfl rfl ?_
                refine x_iload_n 2 dX8_factor_174 rfl rfl ?_
                obtain ⟨N113, q112, h⟩ := x_bd1 h
                refine x_cv (b := a0) (As := [.int 1]) (ci := 8) (d' := 2) (zz := yX8_emit) dX8_factor_175 ml_X8_129 wi_X8_emit wv_X8_emit wn_X8 wc_X8_emit hp_X8_emit (by omega) (by decide) rfl (Nat.le_of_ble_eq_true rfl) ⟨Nat.zero_le _, Nat.zero_le _⟩ rfl k100 (T_X8_emit (G := G) hw k100 q112) ?_
                obtain rfl := x_so h
                exact x_vret dX8_factor_178 rfl rfl rfl
              · refine x_if_ge_f (tgt := 169) dX8_factor_162 (by decide) c109 ?_
                refine x_iconst (v := 0) dX8_factor_165 rfl ?_
                refine x_goto (tgt := 170) dX8_factor_166 (by decide) ?_
                obtain ⟨N115, q114, h⟩ := x_bd1 h
                refine x_cv (b := a0) (As := [.int 0]) (ci := 8) (d' := 2) (zz := yX8_emit) dX8_factor_170 ml_X8_129 wi_X8_emit wv_X8_emit wn_X8 wc_X8_emit hp_X8_emit (by omega) (by decide) rfl (Nat.le_of_ble_eq_true rfl) ⟨Nat.zero_le _, Nat.zero_le _⟩ rfl k100 (T_X8_emit (G := G) hw k100 q114) ?_
                refine x_aload_n 0 dX8_factor_173 rfl rfl ?_
                refine x_iload_n 2 dX8_factor_174 rfl rfl ?_
                obtain ⟨N117, q116, h⟩ := x_bd1 h
                refine x_cv (b := a0) (As := [.int 1]) (ci := 8) (d' := 2) (zz := yX8_emit) dX8_factor_175 ml_X8_129 wi_X8_emit wv_X8_emit wn_X8 wc_X8_emit hp_X8_emit (by omega) (by decide) rfl (Nat.le_of_ble_eq_true rfl) ⟨Nat.zero_le _, Nat.zero_le _⟩ rfl k100 (T_X8_emit (G := G) hw k100 q116) ?_
                obtain rfl := x_so h
                exact x_vret dX8_factor_178 rfl rfl rfl
            · refine x_if_ge_f (tgt := 158) dX8_factor_144 (by decide) c108 ?_
              refine x_aload_n 0 dX8_factor_147 rfl rfl ?_
              refine x_iconst (v := 0) dX8_factor_148 rfl ?_
              refine x_sipush (v := 9999) dX8_factor_149 rfl ?_
              obtain ⟨r119, N120, q118, h⟩ := x_bd2 h
              refine x_cv (b := a0) (As := [.int 0, .int 9999]) (ci := 8) (d' := 3) (zz := yX8_number) dX8_factor_152 ml_X8_126 wi_X8_number wv_X8_number wn_X8 wc_X8_number hp_X8_number (by omega) (by decide) rfl (Nat.le_of_ble_eq_true rfl) ⟨Nat.zero_le _, Nat.zero_le _⟩ rfl k100 (T_X8_number (G := G) hw k100 q118) ?_
              refine x_goto (tgt := 159) dX8_factor_155 (by decide) ?_
              refine x_istore_n [1, 2, 0] dX8_factor_159 rfl (by decide) rfl ?_
              refine x_aload_n 0 dX8_factor_160 rfl rfl ?_
              refine x_iload_n 1 dX8_factor_161 rfl rfl ?_
              rcases x_if h with ⟨c121, h⟩ | ⟨c121, h⟩
              · refine x_if_ge_t (tgt := 169) dX8_factor_162 (by decide) c121 ?_
                refine x_iconst (v := 1) dX8_factor_169 rfl ?_
                obtain ⟨N123, q122, h⟩ := x_bd1 h
                refine x_cv (b := a0) (As := [.int 1]) (ci := 8) (d' := 2) (zz := yX8_emit) dX8_factor_170 ml_X8_129 wi_X8_emit wv_X8_emit wn_X8 wc_X8_emit hp_X8_emit (by omega) (by decide) rfl (Nat.le_of_ble_eq_true rfl) ⟨Nat.zero_le _, Nat.zero_le _⟩ rfl k100 (T_X8_emit (G := G) hw k100 q122) ?_
                refine x_aload_n 0 dX8_factor_173 rfl rfl ?_
                refine x_iload_n 2 dX8_factor_174 rfl rfl ?_
                obtain ⟨N125, q124, h⟩ := x_bd1 h
                refine x_cv (b := a0) (As := [.int r119]) (ci := 8) (d' := 2) (zz := yX8_emit) dX8_factor_175 ml_X8_129 wi_X8_emit wv_X8_emit wn_X8 wc_X8_emit hp_X8_emit (by omega) (by decide) rfl (Nat.le_of_ble_eq_true rfl) ⟨Nat.zero_le _, Nat.zero_le _⟩ rfl k100 (T_X8_emit (G := G) hw k100 q124) ?_
                obtain rfl := x_so h
                exact x_vret dX8_factor_178 rfl rfl rfl
              · refine x_if_ge_f (tgt := 169) dX8_factor_162 (by decide) c121 ?_
                refine x_iconst (v := 0) dX8_factor_165 rfl ?_
                refine x_goto (tgt := 170) dX8_factor_166 (by decide) ?_
                obtain ⟨N127, q126, h⟩ := x_bd1 h
                refine x_cv (b := a0) (As := [.int 0]) (ci := 8) (d' := 2) (zz := yX8_emit) dX8_factor_170 ml_X8_129 wi_X8_emit wv_X8_emit wn_X8 wc_X8_emit hp_X8_emit (by omega) (by decide) rfl (Nat.le_of_ble_eq_true rfl) ⟨Nat.zero_le _, Nat.zero_le _⟩ rfl k100 (T_X8_emit (G := G) hw k100 q126) ?_
                refine x_aload_n 0 dX8_factor_173 rfl rfl ?_
                refine x_iload_n 2 dX8_factor_174 rfl rfl ?_
                obtain ⟨N129, q128, h⟩ := x_bd1 h
                refine x_cv (b := a0) (As := [.int r119]) (ci := 8) (d' := 2) (zz := yX8_emit) dX8_factor_175 ml_X8_129 wi_X8_emit wv_X8_emit wn_X8 wc_X8_emit hp_X8_emit (by omega) (by decide) rfl (Nat.le_of_ble_eq_true rfl) ⟨Nat.zero_le _, Nat.zero_le _⟩ rfl k100 (T_X8_emit (G := G) hw k100 q128) ?_
                obtain rfl := x_so h
                exact x_vret dX8_factor_178 rfl rfl rfl
        · refine x_if_eq_f (tgt := 102) dX8_factor_95 (by decide) c29 ?_
          refine x_iconst (v := 0) dX8_factor_98 rfl ?_
          refine x_goto (tgt := 142) dX8_factor_99 (by decide) ?_
          refine x_istore_n [1, 0] dX8_factor_142 rfl (by decide) rfl ?_
          refine x_iload_n 1 dX8_factor_143 rfl rfl ?_
          rcases x_if h with ⟨c130, h⟩ | ⟨c130, h⟩
          · refine x_if_ge_t (tgt := 158) dX8_factor_144 (by decide) c130 ?_
            refine x_iload_n 1 dX8_factor_158 rfl rfl ?_
            refine x_istore_n [1, 2, 0] dX8_factor_159 rfl (by decide) rfl ?_
            refine x_aload_n 0 dX8_factor_160 rfl rfl ?_
            refine x_iload_n 1 dX8_factor_161 rfl rfl ?_
            rcases x_if h with ⟨c131, h⟩ | ⟨c131, h⟩
            · refine x_if_ge_t (tgt := 169) dX8_factor_162 (by decide) c131 ?_
              refine x_iconst (v := 1) dX8_factor_169 rfl ?_
              obtain ⟨N133, q132, h⟩ := x_bd1 h
              refine x_cv (b := a0) (As := [.int 1]) (ci := 8) (d' := 2) (zz := yX8_emit) dX8_factor_170 ml_X8_129 wi_X8_emit wv_X8_emit wn_X8 wc_X8_emit hp_X8_emit (by omega) (by decide) rfl (Nat.le_of_ble_eq_true rfl) ⟨Nat.zero_le _, Nat.zero_le _⟩ rfl k100 (T_X8_emit (G := G) hw k100 q132) ?_
              refine x_aload_n 0 dX8_factor_173 rfl rfl ?_
              refine x_iload_n 2 dX8_factor_174 rfl rfl ?_
              obtain ⟨N135, q134, h⟩ := x_bd1 h
              refine x_cv (b := a0) (As := [.int 0]) (ci := 8) (d' := 2) (zz := yX8_emit) dX8_factor_175 ml_X8_129 wi_X8_emit wv_X8_emit wn_X8 wc_X8_emit hp_X8_emit (by omega) (by decide) rfl (Nat.le_of_ble_eq_true rfl) ⟨Nat.zero_le _, Nat.zero_le _⟩ rfl k100 (T_X8_emit (G := G) hw k100 q134) ?_
              obtain rfl := x_so h
              exact x_vret dX8_factor_178 rfl rfl rfl
            · refine x_if_ge_f (tgt := 169) dX8_factor_162 (by decide) c131 ?_
              refine x_iconst (v := 0) dX8_factor_165 rfl ?_
              refine x_goto (tgt := 170) dX8_factor_166 (by decide) ?_
              obtain ⟨N137, q136, h⟩ := x_bd1 h
              refine x_cv (b := a0) (As := [.int 0]) (ci := 8) (d' := 2) (zz := yX8_emit) dX8_factor_170 ml_X8_129 wi_X8_emit wv_X8_emit wn_X8 wc_X8_emit hp_X8_emit (by omega) (by decide) rfl (Nat.le_of_ble_eq_true rfl) ⟨Nat.zero_le _, Nat.zero_le _⟩ rfl k100 (T_X8_emit (G := G) hw k100 q136) ?_
              refine x_aload_n 0 dX8_factor_173 rfl rfl ?_
              refine x_iload_n 2 dX8_factor_174 rfl rfl ?_
              obtain ⟨N139, q138, h⟩ := x_bd1 h
              refine x_cv (b := a0) (As := [.int 0]) (ci := 8) (d' := 2) (zz := yX8_emit) dX8_factor_175 ml_X8_129 wi_X8_emit wv_X8_emit wn_X8 wc_X8_emit hp_X8_emit (by omega) (by decide) rfl (Nat.le_of_ble_eq_true rfl) ⟨Nat.zero_le _, Nat.zero_le _⟩ rfl k100 (T_X8_emit (G := G) hw k100 q138) ?_
              obtain rfl := x_so h
              exact x_vret dX8_factor_178 rfl rfl rfl
          · refine x_if_ge_f (tgt := 158) dX8_factor_144 (by decide) c130 ?_
            refine x_aload_n 0 dX8_factor_147 rfl rfl ?_
            refine x_iconst (v := 0) dX8_factor_148 rfl ?_
            refine x_sipush (v := 9999) dX8_factor_149 rfl ?_
            obtain ⟨r141, N142, q140, h⟩ := x_bd2 h
            refine x_cv (b := a0) (As := [.int 0, .int 9999]) (ci := 8) (d' := 3) (zz := yX8_number) dX8_factor_152 ml_X8_126 wi_X8_number wv_X8_number wn_X8 wc_X8_number hp_X8_number (by omega) (by decide) rfl (Nat.le_of_ble_eq_true rfl) ⟨Nat.zero_le _, Nat.zero_le _⟩ rfl k100 (T_X8_number (G := G) hw k100 q140) ?_
            refine x_goto (tgt := 159) dX8_factor_155 (by decide) ?_
            refine x_istore_n [1, 2, 0] dX8_factor_159 rfl (by decide) rfl ?_
            refine x_aload_n 0 dX8_factor_160 rfl rfl ?_
            refine x_iload_n 1 dX8_factor_161 rfl rfl ?_
            rcases x_if h with ⟨c143, h⟩ | ⟨c143, h⟩
            · refine x_if_ge_t (tgt := 169) dX8_factor_162 (by decide) c143 ?_
              refine x_iconst (v := 1) dX8_factor_169 rfl ?_
              obtain ⟨N145, q144, h⟩ := x_bd1 h
              refine x_cv (b := a0) (As := [.int 1]) (ci := 8) (d' := 2) (zz := yX8_emit) dX8_factor_170 ml_X8_129 wi_X8_emit wv_X8_emit wn_X8 wc_X8_emit hp_X8_emit (by omega) (by decide) rfl (Nat.le_of_ble_eq_true rfl) ⟨Nat.zero_le _, Nat.zero_le _⟩ rfl k100 (T_X8_emit (G := G) hw k100 q144) ?_
              refine x_aload_n 0 dX8_factor_173 rfl rfl ?_
              refine x_iload_n 2 dX8_factor_174 rfl rfl ?_
              obtain ⟨N147, q146, h⟩ := x_bd1 h
              refine x_cv (b := a0) (As := [.int r141]) (ci := 8) (d' := 2) (zz := yX8_emit) dX8_factor_175 ml_X8_129 wi_X8_emit wv_X8_emit wn_X8 wc_X8_emit hp_X8_emit (by omega) (by decide) rfl (Nat.le_of_ble_eq_true rfl) ⟨Nat.zero_le _, Nat.zero_le _⟩ rfl k100 (T_X8_emit (G := G) hw k100 q146) ?_
              obtain rfl := x_so h
              exact x_vret dX8_factor_178 rfl rfl rfl
            · refine x_if_ge_f (tgt := 169) dX8_factor_162 (by decide) c143 ?_
              refine x_iconst (v := 0) dX8_factor_165 rfl ?_
              refine x_goto (tgt := 170) dX8_factor_166 (by decide) ?_
              obtain ⟨N149, q148, h⟩ := x_bd1 h
              refine x_cv (b := a0) (As := [.int 0]) (ci := 8) (d' := 2) (zz := yX8_emit) dX8_factor_170 ml_X8_129 wi_X8_emit wv_X8_emit wn_X8 wc_X8_emit hp_X8_emit (by omega) (by decide) rfl (Nat.le_of_ble_eq_true rfl) ⟨Nat.zero_le _, Nat.zero_le _⟩ rfl k100 (T_X8_emit (G := G) hw k100 q148) ?_
              refine x_aload_n 0 dX8_factor_173 rfl rfl ?_
              refine x_iload_n 2 dX8_factor_174 rfl rfl ?_
              obtain ⟨N151, q150, h⟩ := x_bd1 h
              refine x_cv (b := a0) (As := [.int r141]) (ci := 8) (d' := 2) (zz := yX8_emit) dX8_factor_175 ml_X8_129 wi_X8_emit wv_X8_emit wn_X8 wc_X8_emit hp_X8_emit (by omega) (by decide) rfl (Nat.le_of_ble_eq_true rfl) ⟨Nat.zero_le _, Nat.zero_le _⟩ rfl k100 (T_X8_emit (G := G) hw k100 q150) ?_
              obtain rfl := x_so h
              exact x_vret dX8_factor_178 rfl rfl rfl
      · refine x_if_eq_f (tgt := 89) dX8_factor_82 (by decide) c25 ?_
        refine x_iconst (v := (-1)) dX8_factor_85 rfl ?_
        refine x_goto (tgt := 142) dX8_factor_86 (by decide) ?_
        refine x_istore_n [1, 0] dX8_factor_142 rfl (by decide) rfl ?_
        refine x_iload_n 1 dX8_factor_143 rfl rfl ?_
        rcases x_if h with ⟨c152, h⟩ | ⟨c152, h⟩
        · refine x_if_ge_t (tgt := 158) dX8_factor_144 (by decide) c152 ?_
          refine x_iload_n 1 dX8_factor_158 rfl rfl ?_
          refine x_istore_n [1, 2, 0] dX8_factor_159 rfl (by decide) rfl ?_
          refine x_aload_n 0 dX8_factor_160 rfl rfl ?_
          refine x_iload_n 1 dX8_factor_161 rfl rfl ?_
          rcases x_if h with ⟨c153, h⟩ | ⟨c153, h⟩
          · refine x_if_ge_t (tgt := 169) dX8_factor_162 (by decide) c153 ?_
            refine x_iconst (v := 1) dX8_factor_169 rfl ?_
            obtain ⟨N155, q154, h⟩ := x_bd1 h
            refine x_cv (b := a0) (As := [.int 1]) (ci := 8) (d' := 2) (zz := yX8_emit) dX8_factor_170 ml_X8_129 wi_X8_emit wv_X8_emit wn_X8 wc_X8_emit hp_X8_emit (by omega) (by decide) rfl (Nat.le_of_ble_eq_true rfl) ⟨Nat.zero_le _, Nat.zero_le _⟩ rfl k100 (T_X8_emit (G := G) hw k100 q154) ?_
            refine x_aload_n 0 dX8_factor_173 rfl rfl ?_
            refine x_iload_n 2 dX8_factor_174 rfl rfl ?_
            obtain ⟨N157, q156, h⟩ := x_bd1 h
            refine x_cv (b := a0) (As := [.int (-1)]) (ci := 8) (d' := 2) (zz := yX8_emit) dX8_factor_175 ml_X8_129 wi_X8_emit wv_X8_emit wn_X8 wc_X8_emit hp_X8_emit (by omega) (by decide) rfl (Nat.le_of_ble_eq_true rfl) ⟨Nat.zero_le _, Nat.zero_le _⟩ rfl k100 (T_X8_emit (G := G) hw k100 q156) ?_
            obtain rfl := x_so h
            exact x_vret dX8_factor_178 rfl rfl rfl
          · refine x_if_ge_f (tgt := 169) dX8_factor_162 (by decide) c153 ?_
            refine x_iconst (v := 0) dX8_factor_165 rfl ?_
            refine x_goto (tgt := 170) dX8_factor_166 (by decide) ?_
            obtain ⟨N159, q158, h⟩ := x_bd1 h
            refine x_cv (b := a0) (As := [.int 0]) (ci := 8) (d' := 2) (zz := yX8_emit) dX8_factor_170 ml_X8_129 wi_X8_emit wv_X8_emit wn_X8 wc_X8_emit hp_X8_emit (by omega) (by decide) rfl (Nat.le_of_ble_eq_true rfl) ⟨Nat.zero_le _, Nat.zero_le _⟩ rfl k100 (T_X8_emit (G := G) hw k100 q158) ?_
            refine x_aload_n 0 dX8_factor_173 rfl rfl ?_
            refine x_iload_n 2 dX8_factor_174 rfl rfl ?_
            obtain ⟨N161, q160, h⟩ := x_bd1 h
            refine x_cv (b := a0) (As := [.int (-1)]) (ci := 8) (d' := 2) (zz := yX8_emit) dX8_factor_175 ml_X8_129 wi_X8_emit wv_X8_emit wn_X8 wc_X8_emit hp_X8_emit (by omega) (by decide) rfl (Nat.le_of_ble_eq_true rfl) ⟨Nat.zero_le _, Nat.zero_le _⟩ rfl k100 (T_X8_emit (G := G) hw k100 q160) ?_
            obtain rfl := x_so h
            exact x_vret dX8_factor_178 rfl rfl rfl
        · refine x_if_ge_f (tgt := 158) dX8_factor_144 (by decide) c152 ?_
          refine x_aload_n 0 dX8_factor_147 rfl rfl ?_
          refine x_iconst (v := 0) dX8_factor_148 rfl ?_
          refine x_sipush (v := 9999) dX8_factor_149 rfl ?_
          obtain ⟨r163, N164, q162, h⟩ := x_bd2 h
          refine x_cv (b := a0) (As := [.int 0, .int 9999]) (ci := 8) (d' := 3) (zz := yX8_number) dX8_factor_152 ml_X8_126 wi_X8_number wv_X8_number wn_X8 wc_X8_number hp_X8_number (by omega) (by decide) rfl (Nat.le_of_ble_eq_true rfl) ⟨Nat.zero_le _, Nat.zero_le _⟩ rfl k100 (T_X8_number (G := G) hw k100 q162) ?_
          refine x_goto (tgt := 159) dX8_factor_155 (by decide) ?_
          refine x_istore_n [1, 2, 0] dX8_factor_159 rfl (by decide) rfl ?_
          refine x_aload_n 0 dX8_factor_160 rfl rfl ?_
          refine x_iload_n 1 dX8_factor_161 rfl rfl ?_
          rcases x_if h with ⟨c165, h⟩ | ⟨c165, h⟩
          · refine x_if_ge_t (tgt := 169) dX8_factor_162 (by decide) c165 ?_
            refine x_iconst (v := 1) dX8_factor_169 rfl ?_
            obtain ⟨N167, q166, h⟩ := x_bd1 h
            refine x_cv (b := a0) (As := [.int 1]) (ci := 8) (d' := 2) (zz := yX8_emit) dX8_factor_170 ml_X8_129 wi_X8_emit wv_X8_emit wn_X8 wc_X8_emit hp_X8_emit (by omega) (by decide) rfl (Nat.le_of_ble_eq_true rfl) ⟨Nat.zero_le _, Nat.zero_le _⟩ rfl k100 (T_X8_emit (G := G) hw k100 q166) ?_
            refine x_aload_n 0 dX8_factor_173 rfl rfl ?_
            refine x_iload_n 2 dX8_factor_174 rfl rfl ?_
            obtain ⟨N169, q168, h⟩ := x_bd1 h
            refine x_cv (b := a0) (As := [.int r163]) (ci := 8) (d' := 2) (zz := yX8_emit) dX8_factor_175 ml_X8_129 wi_X8_emit wv_X8_emit wn_X8 wc_X8_emit hp_X8_emit (by omega) (by decide) rfl (Nat.le_of_ble_eq_true rfl) ⟨Nat.zero_le _, Nat.zero_le _⟩ rfl k100 (T_X8_emit (G := G) hw k100 q168) ?_
            obtain rfl := x_so h
            exact x_vret dX8_factor_178 rfl rfl rfl
          · refine x_if_ge_f (tgt := 169) dX8_factor_162 (by decide) c165 ?_
            refine x_iconst (v := 0) dX8_factor_165 rfl ?_
            refine x_goto (tgt := 170) dX8_factor_166 (by decide) ?_
            obtain ⟨N171, q170, h⟩ := x_bd1 h
            refine x_cv (b := a0) (As := [.int 0]) (ci := 8) (d' := 2) (zz := yX8_emit) dX8_factor_170 ml_X8_129 wi_X8_emit wv_X8_emit wn_X8 wc_X8_emit hp_X8_emit (by omega) (by decide) rfl (Nat.le_of_ble_eq_true rfl) ⟨Nat.zero_le _, Nat.zero_le _⟩ rfl k100 (T_X8_emit (G := G) hw k100 q170) ?_
            refine x_aload_n 0 dX8_factor_173 rfl rfl ?_
            refine x_iload_n 2 dX8_factor_174 rfl rfl ?_
            obtain ⟨N173, q172, h⟩ := x_bd1 h
            refine x_cv (b := a0) (As := [.int r163]) (ci := 8) (d' := 2) (zz := yX8_emit) dX8_factor_175 ml_X8_129 wi_X8_emit wv_X8_emit wn_X8 wc_X8_emit hp_X8_emit (by omega) (by decide) rfl (Nat.le_of_ble_eq_true rfl) ⟨Nat.zero_le _, Nat.zero_le _⟩ rfl k100 (T_X8_emit (G := G) hw k100 q172) ?_
            obtain rfl := x_so h
            exact x_vret dX8_factor_178 rfl rfl rfl
theorem T_X8_S {G : XG} {Y : XY} (hw : WT Y) : ∀ D : Nat, (∀ {a0 : Nat} {N : XN} {N9 : XN}, kc Y a0 = 18 → f_X8_S Y D 0 a0 N = some N9 → Cl G yX8_sum cX8_sum 2 none (xR (9 + D) 0 0) [.ref a0] (.inl none) Y N Y N9) ∧ (∀ {a0 : Nat} {N : XN} {N9 : XN}, kc Y a0 = 18 → f_X8_S Y D 1 a0 N = some N9 → Cl G yX8_term cX8_term 2 none (xR (9 + D) 0 0) [.ref a0] (.inl none) Y N Y N9) ∧ (∀ {a0 : Nat} {N : XN} {N9 : XN}, kc Y a0 = 18 → f_X8_S Y D 2 a0 N = some N9 → Cl G yX8_factor cX8_factor 4 none (xR (9 + D) 0 0) [.ref a0] (.inl none) Y N Y N9) := by
  intro D
  induction D with
  | zero => exact ⟨fun _ h => nomatch h, fun _ h => nomatch h, fun _ h => nomatch h⟩
  | succ D ih =>
    obtain ⟨h0, h1, h2⟩ := ih
    refine ⟨fun k h => ?_, fun k h => ?_, fun k h => ?_⟩
    · exact T_X8_sum (G := G) hw (rc := f_X8_S Y D) (fun k h => h0 k h) (fun k h => h1 k h) (fun k h => h2 k h) k h
    · exact T_X8_term (G := G) hw (rc := f_X8_S Y D) (fun k h => h0 k h) (fun k h => h1 k h) (fun k h => h2 k h) k h
    · exact T_X8_factor (G := G) hw (rc := f_X8_S Y D) (fun k h => h0 k h) (fun k h => h1 k h) (fun k h => h2 k h) k h
theorem T_X8_S0 {G : XG} {Y : XY} (hw : WT Y) {a0 : Nat} {N : XN} (k : kc Y a0 = 18) (D : Nat) {N9 : XN} (h : f_X8_S Y D 0 a0 N = some N9) : Cl G yX8_sum cX8_sum 2 none (xR (9 + D) 0 0) [.ref a0] (.inl none) Y N Y N9 := (T_X8_S hw D).1 k h
theorem T_X8_S1 {G : XG} {Y : XY} (hw : WT Y) {a0 : Nat} {N : XN} (k : kc Y a0 = 18) (D : Nat) {N9 : XN} (h : f_X8_S Y D 1 a0 N = some N9) : Cl G yX8_term cX8_term 2 none (xR (9 + D) 0 0) [.ref a0] (.inl none) Y N Y N9 := (T_X8_S hw D).2.1 k h
theorem T_X8_S2 {G : XG} {Y : XY} (hw : WT Y) {a0 : Nat} {N : XN} (k : kc Y a0 = 18) (D : Nat) {N9 : XN} (h : f_X8_S Y D 2 a0 N = some N9) : Cl G yX8_factor cX8_factor 4 none (xR (9 + D) 0 0) [.ref a0] (.inl none) Y N Y N9 := (T_X8_S hw D).2.2 k h
set_option maxHeartbeats 4000000 in
set_option maxRecDepth 100000 in
theorem T_X8_once {G : XG} {Y : XY} (hw : WT Y) {a0 : Nat} {a1 : Int32} {a2 : Int32} {N : XN} (k100 : kc Y a0 = 18) {N9 : XN} (h : f_X8_once Y a0 a1 a2 N = some N9) : Cl G yX8_once cX8_once 3 none (xR 2 0 0) [.ref a0, .int a1, .int a2] (.inl none) Y N Y N9 := by
  refine x_entry (by decide) (Nat.le_of_ble_eq_true rfl) rfl ?_
  rw [f_X8_once] at h
  refine x_aload_n 0 dX8_once_0 rfl rfl ?_
  refine x_geti dX8_once_1 (ci := 8) (f := 16) (M := 19) (C9 := RX8) (T9 := TX8) rfl xin8 (by decide) fl_X8_138 rfl k100 ?_
  refine x_iload_n 1 dX8_once_4 rfl rfl ?_
  refine x_ishr dX8_once_5 ?_
  refine x_iconst (v := 1) dX8_once_6 rfl ?_
  refine x_iand dX8_once_7 ?_
  refine x_iconst (v := 1) dX8_once_8 rfl ?_
  rcases x_if h with ⟨c1, h⟩ | ⟨c1, h⟩
  · refine x_icmp_ne_f (tgt := 19) dX8_once_9 (by decide) c1 ?_
    refine x_aload_n 0 dX8_once_12 rfl rfl ?_
    refine x_bipush (v := (-2)) dX8_once_13 rfl ?_
    refine x_iload_n 2 dX8_once_15 rfl rfl ?_
    obtain ⟨N3, q2, h⟩ := x_bd1 h
    refine x_cv (b := a0) (As := [.int (-2), .int a2]) (ci := 8) (d' := 1) (zz := yX8_report) dX8_once_16 ml_X8_88 wi_X8_report wv_X8_report wn_X8 wc_X8_report hp_X8_report (by decide) (by decide) rfl (Nat.le_of_ble_eq_true rfl) ⟨Nat.zero_le _, Nat.zero_le _⟩ rfl k100 (T_X8_report (G := G) hw k100 q2) ?_
    refine x_aload_n 0 dX8_once_19 rfl rfl ?_
    refine x_dup dX8_once_20 rfl ?_
    refine x_geti dX8_once_21 (ci := 8) (f := 16) (M := 19) (C9 := RX8) (T9 := TX8) rfl xin8 (by decide) fl_X8_138 rfl k100 ?_
    refine x_iconst (v := 1) dX8_once_24 rfl ?_
    refine x_iload_n 1 dX8_once_25 rfl rfl ?_
    refine x_ishl dX8_once_26 ?_
    refine x_ior dX8_once_27 ?_
    refine x_puti dX8_once_28 (ci := 8) (f := 16) (M := 19) (C9 := RX8) (T9 := TX8) rfl xin8 tyX8_ok nmX8 (by decide) fl_X8_138 rfl rfl rfl rfl k100 ?_
    obtain ⟨N4, eN4, h⟩ := x_lt h
    refine x_nmN eN4 ?_
    obtain rfl := x_so h
    exact x_vret dX8_once_31 rfl rfl rfl
  · refine x_icmp_ne_t (tgt := 19) dX8_once_9 (by decide) c1 ?_
    refine x_aload_n 0 dX8_once_19 rfl rfl ?_
    refine x_dup dX8_once_20 rfl ?_
    refine x_geti dX8_once_21 (ci := 8) (f := 16) (M := 19) (C9 := RX8) (T9 := TX8) rfl xin8 (by decide) fl_X8_138 rfl k100 ?_
    refine x_iconst (v := 1) dX8_once_24 rfl ?_
    refine x_iload_n 1 dX8_once_25 rfl rfl ?_
    refine x_ishl dX8_once_26 ?_
    refine x_ior dX8_once_27 ?_
    refine x_puti dX8_once_28 (ci := 8) (f := 16) (M := 19) (C9 := RX8) (T9 := TX8) rfl xin8 tyX8_ok nmX8 (by decide) fl_X8_138 rfl rfl rfl rfl k100 ?_
    obtain ⟨N5, eN5, h⟩ := x_lt h
    refine x_nmN eN5 ?_
    obtain rfl := x_so h
    exact x_vret dX8_once_31 rfl rfl rfl
set_option maxHeartbeats 4000000 in
set_option maxRecDepth 100000 in
theorem T_X8_readHandler {G : XG} {Y : XY} (hw : WT Y) {a0 : Nat} {a1 : Int32} {N : XN} (k100 : kc Y a0 = 18) {N9 : XN} (h : f_X8_readHandler Y a0 a1 N = some N9) : Cl G yX8_readHandler cX8_readHandler 4 none (xR 4 0 0) [.ref a0, .int a1] (.inl none) Y N Y N9 := by
  refine x_entry (by decide) (Nat.le_of_ble_eq_true rfl) rfl ?_
  rw [f_X8_readHandler] at h
  refine x_aload_n 0 dX8_readHandler_0 rfl rfl ?_
  obtain ⟨g1, k2, n3⟩ := wt_X8_9 hw k100
  refine x_getr dX8_readHandler_1 (ci := 8) (f := 9) (M := 19) (C9 := RX8) (T9 := TX8) rfl xin8 (by decide) fl_X8_20 rfl k100 g1 ?_
  refine x_iconst (v := 1) dX8_readHandler_4 rfl ?_
  refine x_iald dX8_readHandler_5 k2 (xb_at n3 (by decide)) rfl ?_
  refine x_bipush (v := 6) dX8_readHandler_6 rfl ?_
  rcases x_if h with ⟨c4, h⟩ | ⟨c4, h⟩
  · refine x_icmp_ne_f (tgt := 18) dX8_readHandler_8 (by decide) c4 ?_
    refine x_aload_n 0 dX8_readHandler_11 rfl rfl ?_
    refine x_bipush (v := (-5)) dX8_readHandler_12 rfl ?_
    refine x_iload_n 1 dX8_readHandler_14 rfl rfl ?_
    obtain ⟨N6, q5, h⟩ := x_bd1 h
    refine x_cv (b := a0) (As := [.int (-5), .int a1]) (ci := 8) (d' := 1) (zz := yX8_report) dX8_readHandler_15 ml_X8_88 wi_X8_report wv_X8_report wn_X8 wc_X8_report hp_X8_report (by decide) (by decide) rfl (Nat.le_of_ble_eq_true rfl) ⟨Nat.zero_le _, Nat.zero_le _⟩ rfl k100 (T_X8_report (G := G) hw k100 q5) ?_
    refine x_aload_n 0 dX8_readHandler_18 rfl rfl ?_
    refine x_iconst (v := 0) dX8_readHandler_19 rfl ?_
    refine x_sipush (v := 9999) dX8_readHandler_20 rfl ?_
    obtain ⟨r8, N9, q7, h⟩ := x_bd2 h
    refine x_cv (b := a0) (As := [.int 0, .int 9999]) (ci := 8) (d' := 3) (zz := yX8_number) dX8_readHandler_23 ml_X8_126 wi_X8_number wv_X8_number wn_X8 wc_X8_number hp_X8_number (by decide) (by decide) rfl (Nat.le_of_ble_eq_true rfl) ⟨Nat.zero_le _, Nat.zero_le _⟩ rfl k100 (T_X8_number (G := G) hw k100 q7) ?_
    refine x_istore_n [1, 0] dX8_readHandler_26 rfl (by decide) rfl ?_
    refine x_aload_n 0 dX8_readHandler_27 rfl rfl ?_
    refine x_iconst (v := 1) dX8_readHandler_28 rfl ?_
    refine x_bipush (v := 20) dX8_readHandler_29 rfl ?_
    obtain ⟨r11, N12, q10, h⟩ := x_bd2 h
    refine x_cv (b := a0) (As := [.int 1, .int 20]) (ci := 8) (d' := 3) (zz := yX8_number) dX8_readHandler_31 ml_X8_126 wi_X8_number wv_X8_number wn_X8 wc_X8_number hp_X8_number (by decide) (by decide) rfl (Nat.le_of_ble_eq_true rfl) ⟨Nat.zero_le _, Nat.zero_le _⟩ rfl k100 (T_X8_number (G := G) hw k100 q10) ?_
    refine x_istore_n [1, 2, 0] dX8_readHandler_34 rfl (by decide) rfl ?_
    refine x_aload_n 0 dX8_readHandler_35 rfl rfl ?_
    refine x_cv (b := a0) (As := []) (ci := 8) (d' := 1) (zz := yX8_isGood) dX8_readHandler_36 ml_X8_71 wi_X8_isGood wv_X8_isGood wn_X8 wc_X8_isGood hp_X8_isGood (by decide) (by decide) rfl (Nat.le_of_ble_eq_true rfl) ⟨Nat.zero_le _, Nat.zero_le _⟩ rfl k100 (T_X8_isGood (G := G) hw k100 rfl) ?_
    rcases x_if h with ⟨c13, h⟩ | ⟨c13, h⟩
    · refine x_if_ne_f (tgt := 43) dX8_readHandler_39 (by decide) c13 ?_
      obtain rfl := x_so h
      exact x_vret dX8_readHandler_42 rfl rfl rfl
    · refine x_if_ne_t (tgt := 43) dX8_readHandler_39 (by decide) c13 ?_
      refine x_aload_n 0 dX8_readHandler_43 rfl rfl ?_
      refine x_getr dX8_readHandler_44 (ci := 8) (f := 9) (M := 19) (C9 := RX8) (T9 := TX8) rfl xin8 (by decide) fl_X8_20 rfl k100 g1 ?_
      refine x_bipush (v := 12) dX8_readHandler_47 rfl ?_
      refine x_bipush (v := 6) dX8_readHandler_49 rfl ?_
      refine x_aload_n 0 dX8_readHandler_51 rfl rfl ?_
      refine x_getr dX8_readHandler_52 (ci := 8) (f := 9) (M := 19) (C9 := RX8) (T9 := TX8) rfl xin8 (by decide) fl_X8_20 rfl k100 g1 ?_
      refine x_iconst (v := 1) dX8_readHandler_55 rfl ?_
      refine x_iald dX8_readHandler_56 k2 (xb_at n3 (by decide)) rfl ?_
      refine x_imul dX8_readHandler_57 ?_
      refine x_iadd dX8_readHandler_58 ?_
      refine x_iconst (v := 0) dX8_readHandler_59 rfl ?_
      refine x_iadd dX8_readHandler_60 ?_
      refine x_iload_n 1 dX8_readHandler_61 rfl rfl ?_
      obtain ⟨c14, h⟩ := x_ck h
      refine x_iast dX8_readHandler_62 k2 (xb_at n3 c14) rfl ?_
      obtain ⟨N15, eN15, h⟩ := x_lt h
      refine x_nmN eN15 ?_
      refine x_aload_n 0 dX8_readHandler_63 rfl rfl ?_
      refine x_getr dX8_readHandler_64 (ci := 8) (f := 9) (M := 19) (C9 := RX8) (T9 := TX8) rfl xin8 (by decide) fl_X8_20 rfl k100 g1 ?_
      refine x_bipush (v := 12) dX8_readHandler_67 rfl ?_
      refine x_bipush (v := 6) dX8_readHandler_69 rfl ?_
      refine x_aload_n 0 dX8_readHandler_71 rfl rfl ?_
      refine x_getr dX8_readHandler_72 (ci := 8) (f := 9) (M := 19) (C9 := RX8) (T9 := TX8) rfl xin8 (by decide) fl_X8_20 rfl k100 g1 ?_
      refine x_iconst (v := 1) dX8_readHandler_75 rfl ?_
      refine x_iald dX8_readHandler_76 k2 (xb_at n3 (by decide)) rfl ?_
      refine x_imul dX8_readHandler_77 ?_
      refine x_iadd dX8_readHandler_78 ?_
      refine x_iconst (v := 1) dX8_readHandler_79 rfl ?_
      refine x_iadd dX8_readHandler_80 ?_
      refine x_iload_n 2 dX8_readHandler_81 rfl rfl ?_
      obtain ⟨c16, h⟩ := x_ck h
      refine x_iast dX8_readHandler_82 k2 (xb_at n3 c16) rfl ?_
      obtain ⟨N17, eN17, h⟩ := x_lt h
      refine x_nmN eN17 ?_
      refine x_aload_n 0 dX8_readHandler_83 rfl rfl ?_
      refine x_getr dX8_readHandler_84 (ci := 8) (f := 9) (M := 19) (C9 := RX8) (T9 := TX8) rfl xin8 (by decide) fl_X8_20 rfl k100 g1 ?_
      refine x_iconst (v := 1) dX8_readHandler_87 rfl ?_
      refine x_dup2 dX8_readHandler_88 rfl rfl ?_
      refine x_iald dX8_readHandler_89 k2 (xb_at n3 (by decide)) rfl ?_
      refine x_iconst (v := 1) dX8_readHandler_90 rfl ?_
      refine x_iadd dX8_readHandler_91 ?_
      refine x_iast dX8_readHandler_92 k2 (xb_at n3 (by decide)) rfl ?_
      obtain ⟨N18, eN18, h⟩ := x_lt h
      refine x_nmN eN18 ?_
      obtain rfl := x_so h
      exact x_vret dX8_readHandler_93 rfl rfl rfl
  · refine x_icmp_ne_t (tgt := 18) dX8_readHandler_8 (by decide) c4 ?_
    refine x_aload_n 0 dX8_readHandler_18 rfl rfl ?_
    refine x_iconst (v := 0) dX8_readHandler_19 rfl ?_
    refine x_sipush (v := 9999) dX8_readHandler_20 rfl ?_
    obtain ⟨r20, N21, q19, h⟩ := x_bd2 h
    refine x_cv (b := a0) (As := [.int 0, .int 9999]) (ci := 8) (d' := 3) (zz := yX8_number) dX8_readHandler_23 ml_X8_126 wi_X8_number wv_X8_number wn_X8 wc_X8_number hp_X8_number (by decide) (by decide) rfl (Nat.le_of_ble_eq_true rfl) ⟨Nat.zero_le _, Nat.zero_le _⟩ rfl k100 (T_X8_number (G := G) hw k100 q19) ?_
    refine x_istore_n [1, 0] dX8_readHandler_26 rfl (by decide) rfl ?_
    refine x_aload_n 0 dX8_readHandler_27 rfl rfl ?_
    refine x_iconst (v := 1) dX8_readHandler_28 rfl ?_
    refine x_bipush (v := 20) dX8_readHandler_29 rfl ?_
    obtain ⟨r23, N24, q22, h⟩ := x_bd2 h
    refine x_cv (b := a0) (As := [.int 1, .int 20]) (ci := 8) (d' := 3) (zz := yX8_number) dX8_readHandler_31 ml_X8_126 wi_X8_number wv_X8_number wn_X8 wc_X8_number hp_X8_number (by decide) (by decide) rfl (Nat.le_of_ble_eq_true rfl) ⟨Nat.zero_le _, Nat.zero_le _⟩ rfl k100 (T_X8_number (G := G) hw k100 q22) ?_
    refine x_istore_n [1, 2, 0] dX8_readHandler_34 rfl (by decide) rfl ?_
    refine x_aload_n 0 dX8_readHandler_35 rfl rfl ?_
    refine x_cv (b := a0) (As := []) (ci := 8) (d' := 1) (zz := yX8_isGood) dX8_readHandler_36 ml_X8_71 wi_X8_isGood wv_X8_isGood wn_X8 wc_X8_isGood hp_X8_isGood (by decide) (by decide) rfl (Nat.le_of_ble_eq_true rfl) ⟨Nat.zero_le _, Nat.zero_le _⟩ rfl k100 (T_X8_isGood (G := G) hw k100 rfl) ?_
    rcases x_if h with ⟨c25, h⟩ | ⟨c25, h⟩
    · refine x_if_ne_f (tgt := 43) dX8_readHandler_39 (by decide) c25 ?_
      obtain rfl := x_so h
      exact x_vret dX8_readHandler_42 rfl rfl rfl
    · refine x_if_ne_t (tgt := 43) dX8_readHandler_39 (by decide) c25 ?_
      refine x_aload_n 0 dX8_readHandler_43 rfl rfl ?_
      refine x_getr dX8_readHandler_44 (ci := 8) (f := 9) (M := 19) (C9 := RX8) (T9 := TX8) rfl xin8 (by decide) fl_X8_20 rfl k100 g1 ?_
      refine x_bipush (v := 12) dX8_readHandler_47 rfl ?_
      refine x_bipush (v := 6) dX8_readHandler_49 rfl ?_
      refine x_aload_n 0 dX8_readHandler_51 rfl rfl ?_
      refine x_getr dX8_readHandler_52 (ci := 8) (f := 9) (M := 19) (C9 := RX8) (T9 := TX8) rfl xin8 (by decide) fl_X8_20 rfl k100 g1 ?_
      refine x_iconst (v := 1) dX8_readHandler_55 rfl ?_
      refine x_iald dX8_readHandler_56 k2 (xb_at n3 (by decide)) rfl ?_
      refine x_imul dX8_readHandler_57 ?_
      refine x_iadd dX8_readHandler_58 ?_
      refine x_iconst (v := 0) dX8_readHandler_59 rfl ?_
      refine x_iadd dX8_readHandler_60 ?_
      refine x_iload_n 1 dX8_readHandler_61 rfl rfl ?_
      obtain ⟨c26, h⟩ := x_ck h
      refine x_iast dX8_readHandler_62 k2 (xb_at n3 c26) rfl ?_
      obtain ⟨N27, eN27, h⟩ := x_lt h
      refine x_nmN eN27 ?_
      refine x_aload_n 0 dX8_readHandler_63 rfl rfl ?_
      refine x_getr dX8_readHandler_64 (ci := 8) (f := 9) (M := 19) (C9 := RX8) (T9 := TX8) rfl xin8 (by decide) fl_X8_20 rfl k100 g1 ?_
      refine x_bipush (v := 12) dX8_readHandler_67 rfl ?_
      refine x_bipush (v := 6) dX8_readHandler_69 rfl ?_
      refine x_aload_n 0 dX8_readHandler_71 rfl rfl ?_
      refine x_getr dX8_readHandler_72 (ci := 8) (f := 9) (M := 19) (C9 := RX8) (T9 := TX8) rfl xin8 (by decide) fl_X8_20 rfl k100 g1 ?_
      refine x_iconst (v := 1) dX8_readHandler_75 rfl ?_
      refine x_iald dX8_readHandler_76 k2 (xb_at n3 (by decide)) rfl ?_
      refine x_imul dX8_readHandler_77 ?_
      refine x_iadd dX8_readHandler_78 ?_
      refine x_iconst (v := 1) dX8_readHandler_79 rfl ?_
      refine x_iadd dX8_readHandler_80 ?_
      refine x_iload_n 2 dX8_readHandler_81 rfl rfl ?_
      obtain ⟨c28, h⟩ := x_ck h
      refine x_iast dX8_readHandler_82 k2 (xb_at n3 c28) rfl ?_
      obtain ⟨N29, eN29, h⟩ := x_lt h
      refine x_nmN eN29 ?_
      refine x_aload_n 0 dX8_readHandler_83 rfl rfl ?_
      refine x_getr dX8_readHandler_84 (ci := 8) (f := 9) (M := 19) (C9 := RX8) (T9 := TX8) rfl xin8 (by decide) fl_X8_20 rfl k100 g1 ?_
      refine x_iconst (v := 1) dX8_readHandler_87 rfl ?_
      refine x_dup2 dX8_readHandler_88 rfl rfl ?_
      refine x_iald dX8_readHandler_89 k2 (xb_at n3 (by decide)) rfl ?_
      refine x_iconst (v := 1) dX8_readHandler_90 rfl ?_
      refine x_iadd dX8_readHandler_91 ?_
      refine x_iast dX8_readHandler_92 k2 (xb_at n3 (by decide)) rfl ?_
      obtain ⟨N30, eN30, h⟩ := x_lt h
      refine x_nmN eN30 ?_
      obtain rfl := x_so h
      exact x_vret dX8_readHandler_93 rfl rfl rfl
set_option maxHeartbeats 4000000 in
set_option maxRecDepth 100000 in
theorem T_X8_tenantPlace_11 {G : XG} {Y : XY} (hw : WT Y) {r9 : Int32}: ∀ (D9 : Nat) (p_0 : Nat) (v_2 : Int32) (v_3 : Int32) (v_4 : Int32) (N : XN), kc Y p_0 = 1 → f_X8_tenantPlace_11 Y D9 p_0 v_2 v_3 v_4 N = some r9 → Ex G yX8_tenantPlace cX8_tenantPlace 5 (some .int) (xR 1 0 0) (.inl (some (.int r9))) Y N 0 0 11 [(0, .ref p_0), (2, .int v_2), (3, .int v_3), (4, .int v_4)] [] Y N := by
  intro D9
  induction D9 with
  | zero => intro p_0 v_2 v_3 v_4 N kk0 h; exact nomatch (show none = some r9 from h)
  | succ D9 ih =>
    intro p_0 v_2 v_3 v_4 N kk0 h
    rw [f_X8_tenantPlace_11] at h
    refine x_iload 3 dX8_tenantPlace_11 rfl ?_
    refine x_aload_n 0 dX8_tenantPlace_13 rfl rfl ?_
    refine x_iload_n 2 dX8_tenantPlace_14 rfl rfl ?_
    refine x_iconst (v := 3) dX8_tenantPlace_15 rfl ?_
    refine x_iadd dX8_tenantPlace_16 ?_
    obtain ⟨c1, h⟩ := x_ck h
    refine x_iald dX8_tenantPlace_17 kk0 (xb_in c1) rfl ?_
    rcases x_if h with ⟨c2, h⟩ | ⟨c2, h⟩
    · refine x_icmp_ge_t (tgt := 42) dX8_tenantPlace_18 (by decide) c2 ?_
      refine x_iconst (v := (-1)) dX8_tenantPlace_42 rfl ?_
      obtain rfl := x_so h
      exact x_iret dX8_tenantPlace_43 rfl rfl rfl
    · refine x_icmp_ge_f (tgt := 42) dX8_tenantPlace_18 (by decide) c2 ?_
      refine x_aload_n 0 dX8_tenantPlace_21 rfl rfl ?_
      refine x_iload_n 2 dX8_tenantPlace_22 rfl rfl ?_
      refine x_iconst (v := 4) dX8_tenantPlace_23 rfl ?_
      refine x_iadd dX8_tenantPlace_24 ?_
      refine x_iload 3 dX8_tenantPlace_25 rfl ?_
      refine x_iadd dX8_tenantPlace_27 ?_
      obtain ⟨c3, h⟩ := x_ck h
      refine x_iald dX8_tenantPlace_28 kk0 (xb_in c3) rfl ?_
      refine x_iload_n 1 dX8_tenantPlace_29 rfl rfl ?_
      rcases x_if h with ⟨c4, h⟩ | ⟨c4, h⟩
      · refine x_icmp_ne_f (tgt := 36) dX8_tenantPlace_30 (by decide) c4 ?_
        refine x_iload 3 dX8_tenantPlace_33 rfl ?_
        obtain rfl := x_so h
        exact x_iret dX8_tenantPlace_35 rfl rfl rfl
      · refine x_icmp_ne_t (tgt := 36) dX8_tenantPlace_30 (by decide) c4 ?_
        refine x_iinc 3 [1, 2, 3, 0] dX8_tenantPlace_36 rfl rfl (by decide) rfl ?_
        refine x_goto (tgt := 11) dX8_tenantPlace_39 (by decide) ?_
        exact ih p_0 v_2 v_3 (v_4 + 1) N kk0 h
set_option maxHeartbeats 4000000 in
set_option maxRecDepth 100000 in
theorem T_X8_tenantPlace {G : XG} {Y : XY} (hw : WT Y) {a0 : Nat} {a1 : Int32} {a2 : Int32} {N : XN} (k100 : kc Y a0 = 1) {r9 : Int32} (h : f_X8_tenantPlace Y a0 a1 a2 N = some r9) : Cl G yX8_tenantPlace cX8_tenantPlace 5 (some .int) (xR 1 0 0) [.ref a0, .int a1, .int a2] (.inl (some (.int r9))) Y N Y N := by
  refine x_entry (by decide) (Nat.le_of_ble_eq_true rfl) rfl ?_
  rw [f_X8_tenantPlace] at h
  refine x_bipush (v := 48) dX8_tenantPlace_0 rfl ?_
  refine x_bipush (v := 7) dX8_tenantPlace_2 rfl ?_
  refine x_iload_n 1 dX8_tenantPlace_4 rfl rfl ?_
  refine x_imul dX8_tenantPlace_5 ?_
  refine x_iadd dX8_tenantPlace_6 ?_
  refine x_istore_n [1, 3, 0] dX8_tenantPlace_7 rfl (by decide) rfl ?_
  refine x_iconst (v := 0) dX8_tenantPlace_8 rfl ?_
  refine x_istore [1, 2, 3, 0] dX8_tenantPlace_9 (by decide) rfl ?_
  exact T_X8_tenantPlace_11 (G := G) hw FU a0 a2 (48 + (7 * a1)) 0 N k100 h
set_option maxHeartbeats 4000000 in
set_option maxRecDepth 100000 in
theorem T_X8_readLine_101 {G : XG} {Y : XY} (hw : WT Y) {N9 : XN}: ∀ (D9 : Nat) (p_0 : Nat) (v_5 : Int32) (v_6 : Int32) (N : XN), kc Y p_0 = 18 → f_X8_readLine_101 Y D9 p_0 v_5 v_6 N = some N9 → Ex G yX8_readLine cX8_readLine 8 none (xR 4 0 0) (.inl none) Y N9 0 0 101 [(0, .ref p_0), (5, .int v_5), (6, .int v_6)] [] Y N := by
  intro D9
  induction D9 with
  | zero => intro p_0 v_5 v_6 N kk0 h; exact nomatch (show none = some N9 from h)
  | succ D9 ih =>
    intro p_0 v_5 v_6 N kk0 h
    rw [f_X8_readLine_101] at h
    refine x_aload_n 0 dX8_readLine_101 rfl rfl ?_
    refine x_cv (b := p_0) (As := []) (ci := 8) (d' := 1) (zz := yX8_isGood) dX8_readLine_102 ml_X8_71 wi_X8_isGood wv_X8_isGood wn_X8 wc_X8_isGood hp_X8_isGood (by decide) (by decide) rfl (Nat.le_of_ble_eq_true rfl) ⟨Nat.zero_le _, Nat.zero_le _⟩ rfl kk0 (T_X8_isGood (G := G) hw kk0 rfl) ?_
    rcases x_if h with ⟨c1, h⟩ | ⟨c1, h⟩
    · refine x_if_eq_t (tgt := 240) dX8_readLine_105 (by decide) c1 ?_
      refine x_aload_n 0 dX8_readLine_240 rfl rfl ?_
      obtain ⟨g2, k3, n4⟩ := wt_X8_9 hw kk0
      refine x_getr dX8_readLine_241 (ci := 8) (f := 9) (M := 19) (C9 := RX8) (T9 := TX8) rfl xin8 (by decide) fl_X8_20 rfl kk0 g2 ?_
      refine x_iconst (v := 2) dX8_readLine_244 rfl ?_
      refine x_dup2 dX8_readLine_245 rfl rfl ?_
      refine x_iald dX8_readLine_246 k3 (xb_at n4 (by decide)) rfl ?_
      refine x_iconst (v := 1) dX8_readLine_247 rfl ?_
      refine x_iadd dX8_readLine_248 ?_
      refine x_iast dX8_readLine_249 k3 (xb_at n4 (by decide)) rfl ?_
      obtain ⟨N5, eN5, h⟩ := x_lt h
      refine x_nmN eN5 ?_
      obtain rfl := x_so h
      exact x_vret dX8_readLine_250 rfl rfl rfl
    · refine x_if_eq_f (tgt := 240) dX8_readLine_105 (by decide) c1 ?_
      refine x_aload_n 0 dX8_readLine_108 rfl rfl ?_
      obtain ⟨r7, N8, q6, h⟩ := x_bd2 h
      refine x_cv (b := p_0) (As := []) (ci := 8) (d' := 2) (zz := yX8_next) dX8_readLine_109 ml_X8_75 wi_X8_next wv_X8_next wn_X8 wc_X8_next hp_X8_next (by decide) (by decide) rfl (Nat.le_of_ble_eq_true rfl) ⟨Nat.zero_le _, Nat.zero_le _⟩ rfl kk0 (T_X8_next (G := G) hw kk0 q6) ?_
      obtain ⟨r10, q9, h⟩ := x_bd1 h
      refine x_cs (As := [.int r7]) (d' := 2) (zz := yX8_isDigit) dX8_readLine_112 ml_X8_92 wt_X8_isDigit wn_X8 wc_X8_isDigit hp_X8_isDigit (by decide) (by decide) rfl (Nat.le_of_ble_eq_true rfl) ⟨Nat.zero_le _, Nat.zero_le _⟩ (T_X8_isDigit (G := G) hw  q9) ?_
      rcases x_if h with ⟨c11, h⟩ | ⟨c11, h⟩
      · refine x_if_eq_t (tgt := 240) dX8_readLine_115 (by decide) c11 ?_
        refine x_aload_n 0 dX8_readLine_240 rfl rfl ?_
        obtain ⟨g12, k13, n14⟩ := wt_X8_9 hw kk0
        refine x_getr dX8_readLine_241 (ci := 8) (f := 9) (M := 19) (C9 := RX8) (T9 := TX8) rfl xin8 (by decide) fl_X8_20 rfl kk0 g12 ?_
        refine x_iconst (v := 2) dX8_readLine_244 rfl ?_
        refine x_dup2 dX8_readLine_245 rfl rfl ?_
        refine x_iald dX8_readLine_246 k13 (xb_at n14 (by decide)) rfl ?_
        refine x_iconst (v := 1) dX8_readLine_247 rfl ?_
        refine x_iadd dX8_readLine_248 ?_
        refine x_iast dX8_readLine_249 k13 (xb_at n14 (by decide)) rfl ?_
        obtain ⟨N15, eN15, h⟩ := x_lt h
        refine x_nmN eN15 ?_
        obtain rfl := x_so h
        exact x_vret dX8_readLine_250 rfl rfl rfl
      · refine x_if_eq_f (tgt := 240) dX8_readLine_115 (by decide) c11 ?_
        refine x_aload_n 0 dX8_readLine_118 rfl rfl ?_
        refine x_iconst (v := 0) dX8_readLine_119 rfl ?_
        refine x_aload_n 0 dX8_readLine_120 rfl rfl ?_
        obtain ⟨g16, k17, n18⟩ := wt_X8_9 hw kk0
        refine x_getr dX8_readLine_121 (ci := 8) (f := 9) (M := 19) (C9 := RX8) (T9 := TX8) rfl xin8 (by decide) fl_X8_20 rfl kk0 g16 ?_
        refine x_iconst (v := 1) dX8_readLine_124 rfl ?_
        refine x_iald dX8_readLine_125 k17 (xb_at n18 (by decide)) rfl ?_
        refine x_iconst (v := 1) dX8_readLine_126 rfl ?_
        refine x_isub dX8_readLine_127 ?_
        obtain ⟨r20, N21, q19, h⟩ := x_bd2 h
        refine x_cv (b := p_0) (As := [.int 0, .int ((gi N8 (gp Y p_0 9) 1) - 1)]) (ci := 8) (d' := 3) (zz := yX8_number) dX8_readLine_128 ml_X8_126 wi_X8_number wv_X8_number wn_X8 wc_X8_number hp_X8_number (by decide) (by decide) rfl (Nat.le_of_ble_eq_true rfl) ⟨Nat.zero_le _, Nat.zero_le _⟩ rfl kk0 (T_X8_number (G := G) hw kk0 q19) ?_
        refine x_istore [1, 2, 3, 0] dX8_readLine_131 (by decide) rfl ?_
        refine x_aload_n 0 dX8_readLine_133 rfl rfl ?_
        refine x_cv (b := p_0) (As := []) (ci := 8) (d' := 1) (zz := yX8_isGood) dX8_readLine_134 ml_X8_71 wi_X8_isGood wv_X8_isGood wn_X8 wc_X8_isGood hp_X8_isGood (by decide) (by decide) rfl (Nat.le_of_ble_eq_true rfl) ⟨Nat.zero_le _, Nat.zero_le _⟩ rfl kk0 (T_X8_isGood (G := G) hw kk0 rfl) ?_
        rcases x_if h with ⟨c22, h⟩ | ⟨c22, h⟩
        · refine x_if_eq_t (tgt := 165) dX8_readLine_137 (by decide) c22 ?_
          refine x_aload_n 0 dX8_readLine_165 rfl rfl ?_
          refine x_cv (b := p_0) (As := []) (ci := 8) (d' := 1) (zz := yX8_isGood) dX8_readLine_166 ml_X8_71 wi_X8_isGood wv_X8_isGood wn_X8 wc_X8_isGood hp_X8_isGood (by decide) (by decide) rfl (Nat.le_of_ble_eq_true rfl) ⟨Nat.zero_le _, Nat.zero_le _⟩ rfl kk0 (T_X8_isGood (G := G) hw kk0 rfl) ?_
          rcases x_if h with ⟨c23, h⟩ | ⟨c23, h⟩
          · refine x_if_eq_t (tgt := 195) dX8_readLine_169 (by decide) c23 ?_
            refine x_aload_n 0 dX8_readLine_195 rfl rfl ?_
            refine x_cv (b := p_0) (As := []) (ci := 8) (d' := 1) (zz := yX8_isGood) dX8_readLine_196 ml_X8_71 wi_X8_isGood wv_X8_isGood wn_X8 wc_X8_isGood hp_X8_isGood (by decide) (by decide) rfl (Nat.le_of_ble_eq_true rfl) ⟨Nat.zero_le _, Nat.zero_le _⟩ rfl kk0 (T_X8_isGood (G := G) hw kk0 rfl) ?_
            rcases x_if h with ⟨c24, h⟩ | ⟨c24, h⟩
            · refine x_if_ne_f (tgt := 203) dX8_readLine_199 (by decide) c24 ?_
              obtain rfl := x_so h
              exact x_vret dX8_readLine_202 rfl rfl rfl
            · refine x_if_ne_t (tgt := 203) dX8_readLine_199 (by decide) c24 ?_
              refine x_aload_n 0 dX8_readLine_203 rfl rfl ?_
              refine x_getr dX8_readLine_204 (ci := 8) (f := 9) (M := 19) (C9 := RX8) (T9 := TX8) rfl xin8 (by decide) fl_X8_20 rfl kk0 g16 ?_
              refine x_iload 2 dX8_readLine_207 rfl ?_
              refine x_iconst (v := 4) dX8_readLine_209 rfl ?_
              refine x_iadd dX8_readLine_210 ?_
              refine x_aload_n 0 dX8_readLine_211 rfl rfl ?_
              refine x_getr dX8_readLine_212 (ci := 8) (f := 9) (M := 19) (C9 := RX8) (T9 := TX8) rfl xin8 (by decide) fl_X8_20 rfl kk0 g16 ?_
              refine x_iload 2 dX8_readLine_215 rfl ?_
              refine x_iconst (v := 3) dX8_readLine_217 rfl ?_
              refine x_iadd dX8_readLine_218 ?_
              obtain ⟨c25, h⟩ := x_ck h
              refine x_iald dX8_readLine_219 k17 (xb_at n18 c25) rfl ?_
              refine x_iadd dX8_readLine_220 ?_
              refine x_iload 3 dX8_readLine_221 rfl ?_
              obtain ⟨c26, h⟩ := x_ck h
              refine x_iast dX8_readLine_223 k17 (xb_at n18 c26) rfl ?_
              obtain ⟨N27, eN27, h⟩ := x_lt h
              refine x_nmN eN27 ?_
              refine x_aload_n 0 dX8_readLine_224 rfl rfl ?_
              refine x_getr dX8_readLine_225 (ci := 8) (f := 9) (M := 19) (C9 := RX8) (T9 := TX8) rfl xin8 (by decide) fl_X8_20 rfl kk0 g16 ?_
              refine x_iload 2 dX8_readLine_228 rfl ?_
              refine x_iconst (v := 3) dX8_readLine_230 rfl ?_
              refine x_iadd dX8_readLine_231 ?_
              refine x_dup2 dX8_readLine_232 rfl rfl ?_
              obtain ⟨c28, h⟩ := x_ck h
              refine x_iald dX8_readLine_233 k17 (xb_at n18 c28) rfl ?_
              refine x_iconst (v := 1) dX8_readLine_234 rfl ?_
              refine x_iadd dX8_readLine_235 ?_
              obtain ⟨c29, h⟩ := x_ck h
              refine x_iast dX8_readLine_236 k17 (xb_at n18 c29) rfl ?_
              obtain ⟨N30, eN30, h⟩ := x_lt h
              refine x_nmN eN30 ?_
              refine x_goto (tgt := 101) dX8_readLine_237 (by decide) ?_
              refine x_sub [0, 1, 2] rfl ?_
              exact ih p_0 v_5 v_6 N30 kk0 h
          · refine x_if_eq_f (tgt := 195) dX8_readLine_169 (by decide) c23 ?_
            refine x_aload_n 0 dX8_readLine_172 rfl rfl ?_
            refine x_getr dX8_readLine_173 (ci := 8) (f := 9) (M := 19) (C9 := RX8) (T9 := TX8) rfl xin8 (by decide) fl_X8_20 rfl kk0 g16 ?_
            refine x_iload 2 dX8_readLine_176 rfl ?_
            refine x_iconst (v := 3) dX8_readLine_178 rfl ?_
            refine x_iadd dX8_readLine_179 ?_
            obtain ⟨c31, h⟩ := x_ck h
            refine x_iald dX8_readLine_180 k17 (xb_at n18 c31) rfl ?_
            refine x_iconst (v := 3) dX8_readLine_181 rfl ?_
            rcases x_if h with ⟨c32, h⟩ | ⟨c32, h⟩
            · refine x_icmp_ne_f (tgt := 195) dX8_readLine_182 (by decide) c32 ?_
              refine x_aload_n 0 dX8_readLine_185 rfl rfl ?_
              refine x_bipush (v := (-5)) dX8_readLine_186 rfl ?_
              refine x_aload_n 0 dX8_readLine_188 rfl rfl ?_
              refine x_geti dX8_readLine_189 (ci := 8) (f := 14) (M := 19) (C9 := RX8) (T9 := TX8) rfl xin8 (by decide) fl_X8_96 rfl kk0 ?_
              obtain ⟨N34, q33, h⟩ := x_bd1 h
              refine x_cv (b := p_0) (As := [.int (-5), .int (gi N21 p_0 14)]) (ci := 8) (d' := 1) (zz := yX8_report) dX8_readLine_192 ml_X8_88 wi_X8_report wv_X8_report wn_X8 wc_X8_report hp_X8_report (by decide) (by decide) rfl (Nat.le_of_ble_eq_true rfl) ⟨Nat.zero_le _, Nat.zero_le _⟩ rfl kk0 (T_X8_report (G := G) hw kk0 q33) ?_
              refine x_aload_n 0 dX8_readLine_195 rfl rfl ?_
              refine x_cv (b := p_0) (As := []) (ci := 8) (d' := 1) (zz := yX8_isGood) dX8_readLine_196 ml_X8_71 wi_X8_isGood wv_X8_isGood wn_X8 wc_X8_isGood hp_X8_isGood (by decide) (by decide) rfl (Nat.le_of_ble_eq_true rfl) ⟨Nat.zero_le _, Nat.zero_le _⟩ rfl kk0 (T_X8_isGood (G := G) hw kk0 rfl) ?_
              rcases x_if h with ⟨c35, h⟩ | ⟨c35, h⟩
              · refine x_if_ne_f (tgt := 203) dX8_readLine_199 (by decide) c35 ?_
                obtain rfl := x_so h
                exact x_vret dX8_readLine_202 rfl rfl rfl
              · refine x_if_ne_t (tgt := 203) dX8_readLine_199 (by decide) c35 ?_
                refine x_aload_n 0 dX8_readLine_203 rfl rfl ?_
                refine x_getr dX8_readLine_204 (ci := 8) (f := 9) (M := 19) (C9 := RX8) (T9 := TX8) rfl xin8 (by decide) fl_X8_20 rfl kk0 g16 ?_
                refine x_iload 2 dX8_readLine_207 rfl ?_
                refine x_iconst (v := 4) dX8_readLine_209 rfl ?_
                refine x_iadd dX8_readLine_210 ?_
                refine x_aload_n 0 dX8_readLine_211 rfl rfl ?_
                refine x_getr dX8_readLine_212 (ci := 8) (f := 9) (M := 19) (C9 := RX8) (T9 := TX8) rfl xin8 (by decide) fl_X8_20 rfl kk0 g16 ?_
                refine x_iload 2 dX8_readLine_215 rfl ?_
                refine x_iconst (v := 3) dX8_readLine_217 rfl ?_
                refine x_iadd dX8_readLine_218 ?_
                obtain ⟨c36, h⟩ := x_ck h
                refine x_iald dX8_readLine_219 k17 (xb_at n18 c36) rfl ?_
                refine x_iadd dX8_readLine_220 ?_
                refine x_iload 3 dX8_readLine_221 rfl ?_
                obtain ⟨c37, h⟩ := x_ck h
                refine x_iast dX8_readLine_223 k17 (xb_at n18 c37) rfl ?_
                obtain ⟨N38, eN38, h⟩ := x_lt h
                refine x_nmN eN38 ?_
                refine x_aload_n 0 dX8_readLine_224 rfl rfl ?_
                refine x_getr dX8_readLine_225 (ci := 8) (f := 9) (M := 19) (C9 := RX8) (T9 := TX8) rfl xin8 (by decide) fl_X8_20 rfl kk0 g16 ?_
                refine x_iload 2 dX8_readLine_228 rfl ?_
                refine x_iconst (v := 3) dX8_readLine_230 rfl ?_
                refine x_iadd dX8_readLine_231 ?_
                refine x_dup2 dX8_readLine_232 rfl rfl ?_
                obtain ⟨c39, h⟩ := x_ck h
                refine x_iald dX8_readLine_233 k17 (xb_at n18 c39) rfl ?_
                refine x_iconst (v := 1) dX8_readLine_234 rfl ?_
                refine x_iadd dX8_readLine_235 ?_
                obtain ⟨c40, h⟩ := x_ck h
                refine x_iast dX8_readLine_236 k17 (xb_at n18 c40) rfl ?_
                obtain ⟨N41, eN41, h⟩ := x_lt h
                refine x_nmN eN41 ?_
                refine x_goto (tgt := 101) dX8_readLine_237 (by decide) ?_
                refine x_sub [0, 1, 2] rfl ?_
                exact ih p_0 v_5 v_6 N41 kk0 h
            · refine x_icmp_ne_t (tgt := 195) dX8_readLine_182 (by decide) c32 ?_
              refine x_aload_n 0 dX8_readLine_195 rfl rfl ?_
              refine x_cv (b := p_0) (As := []) (ci := 8) (d' := 1) (zz := yX8_isGood) dX8_readLine_196 ml_X8_71 wi_X8_isGood wv_X8_isGood wn_X8 wc_X8_isGood hp_X8_isGood (by decide) (by decide) rfl (Nat.le_of_ble_eq_true rfl) ⟨Nat.zero_le _, Nat.zero_le _⟩ rfl kk0 (T_X8_isGood (G := G) hw kk0 rfl) ?_
              rcases x_if h with ⟨c42, h⟩ | ⟨c42, h⟩
              · refine x_if_ne_f (tgt := 203) dX8_readLine_199 (by decide) c42 ?_
                obtain rfl := x_so h
                exact x_vret dX8_readLine_202 rfl rfl rfl
              · refine x_if_ne_t (tgt := 203) dX8_readLine_199 (by decide) c42 ?_
                refine x_aload_n 0 dX8_readLine_203 rfl rfl ?_
                refine x_getr dX8_readLine_204 (ci := 8) (f := 9) (M := 19) (C9 := RX8) (T9 := TX8) rfl xin8 (by decide) fl_X8_20 rfl kk0 g16 ?_
                refine x_iload 2 dX8_readLine_207 rfl ?_
                refine x_iconst (v := 4) dX8_readLine_209 rfl ?_
                refine x_iadd dX8_readLine_210 ?_
                refine x_aload_n 0 dX8_readLine_211 rfl rfl ?_
                refine x_getr dX8_readLine_212 (ci := 8) (f := 9) (M := 19) (C9 := RX8) (T9 := TX8) rfl xin8 (by decide) fl_X8_20 rfl kk0 g16 ?_
                refine x_iload 2 dX8_readLine_215 rfl ?_
                refine x_iconst (v := 3) dX8_readLine_217 rfl ?_
                refine x_iadd dX8_readLine_218 ?_
                obtain ⟨c43, h⟩ := x_ck h
                refine x_iald dX8_readLine_219 k17 (xb_at n18 c43) rfl ?_
                refine x_iadd dX8_readLine_220 ?_
                refine x_iload 3 dX8_readLine_221 rfl ?_
                obtain ⟨c44, h⟩ := x_ck h
                refine x_iast dX8_readLine_223 k17 (xb_at n18 c44) rfl ?_
                obtain ⟨N45, eN45, h⟩ := x_lt h
                refine x_nmN eN45 ?_
                refine x_aload_n 0 dX8_readLine_224 rfl rfl ?_
                refine x_getr dX8_readLine_225 (ci := 8) (f := 9) (M := 19) (C9 := RX8) (T9 := TX8) rfl xin8 (by decide) fl_X8_20 rfl kk0 g16 ?_
                refine x_iload 2 dX8_readLine_228 rfl ?_
                refine x_iconst (v := 3) dX8_readLine_230 rfl ?_
                refine x_iadd dX8_readLine_231 ?_
                refine x_dup2 dX8_readLine_232 rfl rfl ?_
                obtain ⟨c46, h⟩ := x_ck h
                refine x_iald dX8_readLine_233 k17 (xb_at n18 c46) rfl ?_
                refine x_iconst (v := 1) dX8_readLine_234 rfl ?_
                refine x_iadd dX8_readLine_235 ?_
                obtain ⟨c47, h⟩ := x_ck h
                refine x_iast dX8_readLine_236 k17 (xb_at n18 c47) rfl ?_
                obtain ⟨N48, eN48, h⟩ := x_lt h
                refine x_nmN eN48 ?_
                refine x_goto (tgt := 101) dX8_readLine_237 (by decide) ?_
                refine x_sub [0, 1, 2] rfl ?_
                exact ih p_0 v_5 v_6 N48 kk0 h
        · refine x_if_eq_f (tgt := 165) dX8_readLine_137 (by decide) c22 ?_
          refine x_aload_n 0 dX8_readLine_140 rfl rfl ?_
          refine x_getr dX8_readLine_141 (ci := 8) (f := 9) (M := 19) (C9 := RX8) (T9 := TX8) rfl xin8 (by decide) fl_X8_20 rfl kk0 g16 ?_
          refine x_iload 1 dX8_readLine_144 rfl ?_
          refine x_iload 3 dX8_readLine_146 rfl ?_
          obtain ⟨r50, q49, h⟩ := x_bd1 h
          refine x_cs (As := [.ref (gp Y p_0 9), .int v_5, .int r20]) (d' := 1) (zz := yX8_tenantPlace) dX8_readLine_148 ml_X8_141 wt_X8_tenantPlace wn_X8 wc_X8_tenantPlace hp_X8_tenantPlace (by decide) (by decide) rfl (Nat.le_of_ble_eq_true rfl) ⟨Nat.zero_le _, Nat.zero_le _⟩ (T_X8_tenantPlace (G := G) hw k17 q49) ?_
          refine x_iconst (v := (-1)) dX8_readLine_151 rfl ?_
          rcases x_if h with ⟨c51, h⟩ | ⟨c51, h⟩
          · refine x_icmp_eq_t (tgt := 165) dX8_readLine_152 (by decide) c51 ?_
            refine x_aload_n 0 dX8_readLine_165 rfl rfl ?_
            refine x_cv (b := p_0) (As := []) (ci := 8) (d' := 1) (zz := yX8_isGood) dX8_readLine_166 ml_X8_71 wi_X8_isGood wv_X8_isGood wn_X8 wc_X8_isGood hp_X8_isGood (by decide) (by decide) rfl (Nat.le_of_ble_eq_true rfl) ⟨Nat.zero_le _, Nat.zero_le _⟩ rfl kk0 (T_X8_isGood (G := G) hw kk0 rfl) ?_
            rcases x_if h with ⟨c52, h⟩ | ⟨c52, h⟩
            · refine x_if_eq_t (tgt := 195) dX8_readLine_169 (by decide) c52 ?_
              refine x_aload_n 0 dX8_readLine_195 rfl rfl ?_
              refine x_cv (b := p_0) (As := []) (ci := 8) (d' := 1) (zz := yX8_isGood) dX8_readLine_196 ml_X8_71 wi_X8_isGood wv_X8_isGood wn_X8 wc_X8_isGood hp_X8_isGood (by decide) (by decide) rfl (Nat.le_of_ble_eq_true rfl) ⟨Nat.zero_le _, Nat.zero_le _⟩ rfl kk0 (T_X8_isGood (G := G) hw kk0 rfl) ?_
              rcases x_if h with ⟨c53, h⟩ | ⟨c53, h⟩
              · refine x_if_ne_f (tgt := 203) dX8_readLine_199 (by decide) c53 ?_
                obtain rfl := x_so h
                exact x_vret dX8_readLine_202 rfl rfl rfl
              · refine x_if_ne_t (tgt := 203) dX8_readLine_199 (by decide) c53 ?_
                refine x_aload_n 0 dX8_readLine_203 rfl rfl ?_
                refine x_getr dX8_readLine_204 (ci := 8) (f := 9) (M := 19) (C9 := RX8) (T9 := TX8) rfl xin8 (by decide) fl_X8_20 rfl kk0 g16 ?_
                refine x_iload 2 dX8_readLine_207 rfl ?_
                refine x_iconst (v := 4) dX8_readLine_209 rfl ?_
                refine x_iadd dX8_readLine_210 ?_
                refine x_aload_n 0 dX8_readLine_211 rfl rfl ?_
                refine x_getr dX8_readLine_212 (ci := 8) (f := 9) (M := 19) (C9 := RX8) (T9 := TX8) rfl xin8 (by decide) fl_X8_20 rfl kk0 g16 ?_
                refine x_iload 2 dX8_readLine_215 rfl ?_
                refine x_iconst (v := 3) dX8_readLine_217 rfl ?_
                refine x_iadd dX8_readLine_218 ?_
                obtain ⟨c54, h⟩ := x_ck h
                refine x_iald dX8_readLine_219 k17 (xb_at n18 c54) rfl ?_
                refine x_iadd dX8_readLine_220 ?_
                refine x_iload 3 dX8_readLine_221 rfl ?_
                obtain ⟨c55, h⟩ := x_ck h
                refine x_iast dX8_readLine_223 k17 (xb_at n18 c55) rfl ?_
                obtain ⟨N56, eN56, h⟩ := x_lt h
                refine x_nmN eN56 ?_
                refine x_aload_n 0 dX8_readLine_224 rfl rfl ?_
                refine x_getr dX8_readLine_225 (ci := 8) (f := 9) (M := 19) (C9 := RX8) (T9 := TX8) rfl xin8 (by decide) fl_X8_20 rfl kk0 g16 ?_
                refine x_iload 2 dX8_readLine_228 rfl ?_
                refine x_iconst (v := 3) dX8_readLine_230 rfl ?_
                refine x_iadd dX8_readLine_231 ?_
                refine x_dup2 dX8_readLine_232 rfl rfl ?_
                obtain ⟨c57, h⟩ := x_ck h
                refine x_iald dX8_readLine_233 k17 (xb_at n18 c57) rfl ?_
                refine x_iconst (v := 1) dX8_readLine_234 rfl ?_
                refine x_iadd dX8_readLine_235 ?_
                obtain ⟨c58, h⟩ := x_ck h
                refine x_iast dX8_readLine_236 k17 (xb_at n18 c58) rfl ?_
                obtain ⟨N59, eN59, h⟩ := x_lt h
                refine x_nmN eN59 ?_
                refine x_goto (tgt := 101) dX8_readLine_237 (by decide) ?_
                refine x_sub [0, 1, 2] rfl ?_
                exact ih p_0 v_5 v_6 N59 kk0 h
            · refine x_if_eq_f (tgt := 195) dX8_readLine_169 (by decide) c52 ?_
              refine x_aload_n 0 dX8_readLine_172 rfl rfl ?_
              refine x_getr dX8_readLine_173 (ci := 8) (f := 9) (M := 19) (C9 := RX8) (T9 := TX8) rfl xin8 (by decide) fl_X8_20 rfl kk0 g16 ?_
              refine x_iload 2 dX8_readLine_176 rfl ?_
              refine x_iconst (v := 3) dX8_readLine_178 rfl ?_
              refine x_iadd dX8_readLine_179 ?_
              obtain ⟨c60, h⟩ := x_ck h
              refine x_iald dX8_readLine_180 k17 (xb_at n18 c60) rfl ?_
              refine x_iconst (v := 3) dX8_readLine_181 rfl ?_
              rcases x_if h with ⟨c61, h⟩ | ⟨c61, h⟩
              · refine x_icmp_ne_f (tgt := 195) dX8_readLine_182 (by decide) c61 ?_
                refine x_aload_n 0 dX8_readLine_185 rfl rfl ?_
                refine x_bipush (v := (-5)) dX8_readLine_186 rfl ?_
                refine x_aload_n 0 dX8_readLine_188 rfl rfl ?_
                refine x_geti dX8_readLine_189 (ci := 8) (f := 14) (M := 19) (C9 := RX8) (T9 := TX8) rfl xin8 (by decide) fl_X8_96 rfl kk0 ?_
                obtain ⟨N63, q62, h⟩ := x_bd1 h
                refine x_cv (b := p_0) (As := [.int (-5), .int (gi N21 p_0 14)]) (ci := 8) (d' := 1) (zz := yX8_report) dX8_readLine_192 ml_X8_88 wi_X8_report wv_X8_report wn_X8 wc_X8_report hp_X8_report (by decide) (by decide) rfl (Nat.le_of_ble_eq_true rfl) ⟨Nat.zero_le _, Nat.zero_le _⟩ rfl kk0 (T_X8_report (G := G) hw kk0 q62) ?_
                refine x_aload_n 0 dX8_readLine_195 rfl rfl ?_
                refine x_cv (b := p_0) (As := []) (ci := 8) (d' := 1) (zz := yX8_isGood) dX8_readLine_196 ml_X8_71 wi_X8_isGood wv_X8_isGood wn_X8 wc_X8_isGood hp_X8_isGood (by decide) (by decide) rfl (Nat.le_of_ble_eq_true rfl) ⟨Nat.zero_le _, Nat.zero_le _⟩ rfl kk0 (T_X8_isGood (G := G) hw kk0 rfl) ?_
                rcases x_if h with ⟨c64, h⟩ | ⟨c64, h⟩
                · refine x_if_ne_f (tgt := 203) dX8_readLine_199 (by decide) c64 ?_
                  obtain rfl := x_so h
                  exact x_vret dX8_readLine_202 rfl rfl rfl
                · refine x_if_ne_t (tgt := 203) dX8_readLine_199 (by decide) c64 ?_
                  refine x_aload_n 0 dX8_readLine_203 rfl rfl ?_
                  refine x_getr dX8_readLine_204 (ci := 8) (f := 9) (M := 19) (C9 := RX8) (T9 := TX8) rfl xin8 (by decide) fl_X8_20 rfl kk0 g16 ?_
                  refine x_iload 2 dX8_readLine_207 rfl ?_
                  refine x_iconst (v := 4) dX8_readLine_209 rfl ?_
                  refine x_iadd dX8_readLine_210 ?_
                  refine x_aload_n 0 dX8_readLine_211 rfl rfl ?_
                  refine x_getr dX8_readLine_212 (ci := 8) (f := 9) (M := 19) (C9 := RX8) (T9 := TX8) rfl xin8 (by decide) fl_X8_20 rfl kk0 g16 ?_
                  refine x_iload 2 dX8_readLine_215 rfl ?_
                  refine x_iconst (v := 3) dX8_readLine_217 rfl ?_
                  refine x_iadd dX8_readLine_218 ?_
                  obtain ⟨c65, h⟩ := x_ck h
                  refine x_iald dX8_readLine_219 k17 (xb_at n18 c65) rfl ?_
                  refine x_iadd dX8_readLine_220 ?_
                  refine x_iload 3 dX8_readLine_221 rfl ?_
                  obtain ⟨c66, h⟩ := x_ck h
                  refine x_iast dX8_readLine_223 k17 (xb_at n18 c66) rfl ?_
                  obtain ⟨N67, eN67, h⟩ := x_lt h
                  refine x_nmN eN67 ?_
                  refine x_aload_n 0 dX8_readLine_224 rfl rfl ?_
                  refine x_getr dX8_readLine_225 (ci := 8) (f := 9) (M := 19) (C9 := RX8) (T9 := TX8) rfl xin8 (by decide) fl_X8_20 rfl kk0 g16 ?_
                  refine x_iload 2 dX8_readLine_228 rfl ?_
                  refine x_iconst (v := 3) dX8_readLine_230 rfl ?_
                  refine x_iadd dX8_readLine_231 ?_
                  refine x_dup2 dX8_readLine_232 rfl rfl ?_
                  obtain ⟨c68, h⟩ := x_ck h
                  refine x_iald dX8_readLine_233 k17 (xb_at n18 c68) rfl ?_
                  refine x_iconst (v := 1) dX8_readLine_234 rfl ?_
                  refine x_iadd dX8_readLine_235 ?_
                  obtain ⟨c69, h⟩ := x_ck h
                  refine x_iast dX8_readLine_236 k17 (xb_at n18 c69) rfl ?_
                  obtain ⟨N70, eN70, h⟩ := x_lt h
                  refine x_nmN eN70 ?_
                  refine x_goto (tgt := 101) dX8_readLine_237 (by decide) ?_
                  refine x_sub [0, 1, 2] rfl ?_
                  exact ih p_0 v_5 v_6 N70 kk0 h
              · refine x_icmp_ne_t (tgt := 195) dX8_readLine_182 (by decide) c61 ?_
                refine x_aload_n 0 dX8_readLine_195 rfl rfl ?_
                refine x_cv (b := p_0) (As := []) (ci := 8) (d' := 1) (zz := yX8_isGood) dX8_readLine_196 ml_X8_71 wi_X8_isGood wv_X8_isGood wn_X8 wc_X8_isGood hp_X8_isGood (by decide) (by decide) rfl (Nat.le_of_ble_eq_true rfl) ⟨Nat.zero_le _, Nat.zero_le _⟩ rfl kk0 (T_X8_isGood (G := G) hw kk0 rfl) ?_
                rcases x_if h with ⟨c71, h⟩ | ⟨c71, h⟩
                · refine x_if_ne_f (tgt := 203) dX8_readLine_199 (by decide) c71 ?_
                  obtain rfl := x_so h
                  exact x_vret dX8_readLine_202 rfl rfl rfl
                · refine x_if_ne_t (tgt := 203) dX8_readLine_199 (by decide) c71 ?_
                  refine x_aload_n 0 dX8_readLine_203 rfl rfl ?_
                  refine x_getr dX8_readLine_204 (ci := 8) (f := 9) (M := 19) (C9 := RX8) (T9 := TX8) rfl xin8 (by decide) fl_X8_20 rfl kk0 g16 ?_
                  refine x_iload 2 dX8_readLine_207 rfl ?_
                  refine x_iconst (v := 4) dX8_readLine_209 rfl ?_
                  refine x_iadd dX8_readLine_210 ?_
                  refine x_aload_n 0 dX8_readLine_211 rfl rfl ?_
                  refine x_getr dX8_readLine_212 (ci := 8) (f := 9) (M := 19) (C9 := RX8) (T9 := TX8) rfl xin8 (by decide) fl_X8_20 rfl kk0 g16 ?_
                  refine x_iload 2 dX8_readLine_215 rfl ?_
                  refine x_iconst (v := 3) dX8_readLine_217 rfl ?_
                  refine x_iadd dX8_readLine_218 ?_
                  obtain ⟨c72, h⟩ := x_ck h
                  refine x_iald dX8_readLine_219 k17 (xb_at n18 c72) rfl ?_
                  refine x_iadd dX8_readLine_220 ?_
                  refine x_iload 3 dX8_readLine_221 rfl ?_
                  obtain ⟨c73, h⟩ := x_ck h
                  refine x_iast dX8_readLine_223 k17 (xb_at n18 c73) rfl ?_
                  obtain ⟨N74, eN74, h⟩ := x_lt h
                  refine x_nmN eN74 ?_
                  refine x_aload_n 0 dX8_readLine_224 rfl rfl ?_
                  refine x_getr dX8_readLine_225 (ci := 8) (f := 9) (M := 19) (C9 := RX8) (T9 := TX8) rfl xin8 (by decide) fl_X8_20 rfl kk0 g16 ?_
                  refine x_iload 2 dX8_readLine_228 rfl ?_
                  refine x_iconst (v := 3) dX8_readLine_230 rfl ?_
                  refine x_iadd dX8_readLine_231 ?_
                  refine x_dup2 dX8_readLine_232 rfl rfl ?_
                  obtain ⟨c75, h⟩ := x_ck h
                  refine x_iald dX8_readLine_233 k17 (xb_at n18 c75) rfl ?_
                  refine x_iconst (v := 1) dX8_readLine_234 rfl ?_
                  refine x_iadd dX8_readLine_235 ?_
                  obtain ⟨c76, h⟩ := x_ck h
                  refine x_iast dX8_readLine_236 k17 (xb_at n18 c76) rfl ?_
                  obtain ⟨N77, eN77, h⟩ := x_lt h
                  refine x_nmN eN77 ?_
                  refine x_goto (tgt := 101) dX8_readLine_237 (by decide) ?_
                  refine x_sub [0, 1, 2] rfl ?_
                  exact ih p_0 v_5 v_6 N77 kk0 h
          · refine x_icmp_eq_f (tgt := 165) dX8_readLine_152 (by decide) c51 ?_
            refine x_aload_n 0 dX8_readLine_155 rfl rfl ?_
            refine x_bipush (v := (-4)) dX8_readLine_156 rfl ?_
            refine x_aload_n 0 dX8_readLine_158 rfl rfl ?_
            refine x_geti dX8_readLine_159 (ci := 8) (f := 14) (M := 19) (C9 := RX8) (T9 := TX8) rfl xin8 (by decide) fl_X8_96 rfl kk0 ?_
            obtain ⟨N79, q78, h⟩ := x_bd1 h
            refine x_cv (b := p_0) (As := [.int (-4), .int (gi N21 p_0 14)]) (ci := 8) (d' := 1) (zz := yX8_report) dX8_readLine_162 ml_X8_88 wi_X8_report wv_X8_report wn_X8 wc_X8_report hp_X8_report (by decide) (by decide) rfl (Nat.le_of_ble_eq_true rfl) ⟨Nat.zero_le _, Nat.zero_le _⟩ rfl kk0 (T_X8_report (G := G) hw kk0 q78) ?_
            refine x_aload_n 0 dX8_readLine_165 rfl rfl ?_
            refine x_cv (b := p_0) (As := []) (ci := 8) (d' := 1) (zz := yX8_isGood) dX8_readLine_166 ml_X8_71 wi_X8_isGood wv_X8_isGood wn_X8 wc_X8_isGood hp_X8_isGood (by decide) (by decide) rfl (Nat.le_of_ble_eq_true rfl) ⟨Nat.zero_le _, Nat.zero_le _⟩ rfl kk0 (T_X8_isGood (G := G) hw kk0 rfl) ?_
            rcases x_if h with ⟨c80, h⟩ | ⟨c80, h⟩
            · refine x_if_eq_t (tgt := 195) dX8_readLine_169 (by decide) c80 ?_
              refine x_aload_n 0 dX8_readLine_195 rfl rfl ?_
              refine x_cv (b := p_0) (As := []) (ci := 8) (d' := 1) (zz := yX8_isGood) dX8_readLine_196 ml_X8_71 wi_X8_isGood wv_X8_isGood wn_X8 wc_X8_isGood hp_X8_isGood (by decide) (by decide) rfl (Nat.le_of_ble_eq_true rfl) ⟨Nat.zero_le _, Nat.zero_le _⟩ rfl kk0 (T_X8_isGood (G := G) hw kk0 rfl) ?_
              rcases x_if h with ⟨c81, h⟩ | ⟨c81, h⟩
              · refine x_if_ne_f (tgt := 203) dX8_readLine_199 (by decide) c81 ?_
                obtain rfl := x_so h
                exact x_vret dX8_readLine_202 rfl rfl rfl
              · refine x_if_ne_t (tgt := 203) dX8_readLine_199 (by decide) c81 ?_
                refine x_aload_n 0 dX8_readLine_203 rfl rfl ?_
                refine x_getr dX8_readLine_204 (ci := 8) (f := 9) (M := 19) (C9 := RX8) (T9 := TX8) rfl xin8 (by decide) fl_X8_20 rfl kk0 g16 ?_
                refine x_iload 2 dX8_readLine_207 rfl ?_
                refine x_iconst (v := 4) dX8_readLine_209 rfl ?_
                refine x_iadd dX8_readLine_210 ?_
                refine x_aload_n 0 dX8_readLine_211 rfl rfl ?_
                refine x_getr dX8_readLine_212 (ci := 8) (f := 9) (M := 19) (C9 := RX8) (T9 := TX8) rfl xin8 (by decide) fl_X8_20 rfl kk0 g16 ?_
                refine x_iload 2 dX8_readLine_215 rfl ?_
                refine x_iconst (v := 3) dX8_readLine_217 rfl ?_
                refine x_iadd dX8_readLine_218 ?_
                obtain ⟨c82, h⟩ := x_ck h
                refine x_iald dX8_readLine_219 k17 (xb_at n18 c82) rfl ?_
                refine x_iadd dX8_readLine_220 ?_
                refine x_iload 3 dX8_readLine_221 rfl ?_
                obtain ⟨c83, h⟩ := x_ck h
                refine x_iast dX8_readLine_223 k17 (xb_at n18 c83) rfl ?_
                obtain ⟨N84, eN84, h⟩ := x_lt h
                refine x_nmN eN84 ?_
                refine x_aload_n 0 dX8_readLine_224 rfl rfl ?_
                refine x_getr dX8_readLine_225 (ci := 8) (f := 9) (M := 19) (C9 := RX8) (T9 := TX8) rfl xin8 (by decide) fl_X8_20 rfl kk0 g16 ?_
                refine x_iload 2 dX8_readLine_228 rfl ?_
                refine x_iconst (v := 3) dX8_readLine_230 rfl ?_
                refine x_iadd dX8_readLine_231 ?_
                refine x_dup2 dX8_readLine_232 rfl rfl ?_
                obtain ⟨c85, h⟩ := x_ck h
                refine x_iald dX8_readLine_233 k17 (xb_at n18 c85) rfl ?_
                refine x_iconst (v := 1) dX8_readLine_234 rfl ?_
                refine x_iadd dX8_readLine_235 ?_
                obtain ⟨c86, h⟩ := x_ck h
                refine x_iast dX8_readLine_236 k17 (xb_at n18 c86) rfl ?_
                obtain ⟨N87, eN87, h⟩ := x_lt h
                refine x_nmN eN87 ?_
                refine x_goto (tgt := 101) dX8_readLine_237 (by decide) ?_
                refine x_sub [0, 1, 2] rfl ?_
                exact ih p_0 v_5 v_6 N87 kk0 h
            · refine x_if_eq_f (tgt := 195) dX8_readLine_169 (by decide) c80 ?_
              refine x_aload_n 0 dX8_readLine_172 rfl rfl ?_
              refine x_getr dX8_readLine_173 (ci := 8) (f := 9) (M := 19) (C9 := RX8) (T9 := TX8) rfl xin8 (by decide) fl_X8_20 rfl kk0 g16 ?_
              refine x_iload 2 dX8_readLine_176 rfl ?_
              refine x_iconst (v := 3) dX8_readLine_178 rfl ?_
              refine x_iadd dX8_readLine_179 ?_
              obtain ⟨c88, h⟩ := x_ck h
              refine x_iald dX8_readLine_180 k17 (xb_at n18 c88) rfl ?_
              refine x_iconst (v := 3) dX8_readLine_181 rfl ?_
              rcases x_if h with ⟨c89, h⟩ | ⟨c89, h⟩
              · refine x_icmp_ne_f (tgt := 195) dX8_readLine_182 (by decide) c89 ?_
                refine x_aload_n 0 dX8_readLine_185 rfl rfl ?_
                refine x_bipush (v := (-5)) dX8_readLine_186 rfl ?_
                refine x_aload_n 0 dX8_readLine_188 rfl rfl ?_
                refine x_geti dX8_readLine_189 (ci := 8) (f := 14) (M := 19) (C9 := RX8) (T9 := TX8) rfl xin8 (by decide) fl_X8_96 rfl kk0 ?_
                obtain ⟨N91, q90, h⟩ := x_bd1 h
                refine x_cv (b := p_0) (As := [.int (-5), .int (gi N79 p_0 14)]) (ci := 8) (d' := 1) (zz := yX8_report) dX8_readLine_192 ml_X8_88 wi_X8_report wv_X8_report wn_X8 wc_X8_report hp_X8_report (by decide) (by decide) rfl (Nat.le_of_ble_eq_true rfl) ⟨Nat.zero_le _, Nat.zero_le _⟩ rfl kk0 (T_X8_report (G := G) hw kk0 q90) ?_
                refine x_aload_n 0 dX8_readLine_195 rfl rfl ?_
                refine x_cv (b := p_0) (As := []) (ci := 8) (d' := 1) (zz := yX8_isGood) dX8_readLine_196 ml_X8_71 wi_X8_isGood wv_X8_isGood wn_X8 wc_X8_isGood hp_X8_isGood (by decide) (by decide) rfl (Nat.le_of_ble_eq_true rfl) ⟨Nat.zero_le _, Nat.zero_le _⟩ rfl kk0 (T_X8_isGood (G := G) hw kk0 rfl) ?_
                rcases x_if h with ⟨c92, h⟩ | ⟨c92, h⟩
                · refine x_if_ne_f (tgt := 203) dX8_readLine_199 (by decide) c92 ?_
                  obtain rfl := x_so h
                  exact x_vret dX8_readLine_202 rfl rfl rfl
                · refine x_if_ne_t (tgt := 203) dX8_readLine_199 (by decide) c92 ?_
                  refine x_aload_n 0 dX8_readLine_203 rfl rfl ?_
                  refine x_getr dX8_readLine_204 (ci := 8) (f := 9) (M := 19) (C9 := RX8) (T9 := TX8) rfl xin8 (by decide) fl_X8_20 rfl kk0 g16 ?_
                  refine x_iload 2 dX8_readLine_207 rfl ?_
                  refine x_iconst (v := 4) dX8_readLine_209 rfl ?_
                  refine x_iadd dX8_readLine_210 ?_
                  refine x_aload_n 0 dX8_readLine_211 rfl rfl ?_
                  refine x_getr dX8_readLine_212 (ci := 8) (f := 9) (M := 19) (C9 := RX8) (T9 := TX8) rfl xin8 (by decide) fl_X8_20 rfl kk0 g16 ?_
                  refine x_iload 2 dX8_readLine_215 rfl ?_
                  refine x_iconst (v := 3) dX8_readLine_217 rfl ?_
                  refine x_iadd dX8_readLine_218 ?_
                  obtain ⟨c93, h⟩ := x_ck h
                  refine x_iald dX8_readLine_219 k17 (xb_at n18 c93) rfl ?_
                  refine x_iadd dX8_readLine_220 ?_
                  refine x_iload 3 dX8_readLine_221 rfl ?_
                  obtain ⟨c94, h⟩ := x_ck h
                  refine x_iast dX8_readLine_223 k17 (xb_at n18 c94) rfl ?_
                  obtain ⟨N95, eN95, h⟩ := x_lt h
                  refine x_nmN eN95 ?_
                  refine x_aload_n 0 dX8_readLine_224 rfl rfl ?_
                  refine x_getr dX8_readLine_225 (ci := 8) (f := 9) (M := 19) (C9 := RX8) (T9 := TX8) rfl xin8 (by decide) fl_X8_20 rfl kk0 g16 ?_
                  refine x_iload 2 dX8_readLine_228 rfl ?_
                  refine x_iconst (v := 3) dX8_readLine_230 rfl ?_
                  refine x_iadd dX8_readLine_231 ?_
                  refine x_dup2 dX8_readLine_232 rfl rfl ?_
                  obtain ⟨c96, h⟩ := x_ck h
                  refine x_iald dX8_readLine_233 k17 (xb_at n18 c96) rfl ?_
                  refine x_iconst (v := 1) dX8_readLine_234 rfl ?_
                  refine x_iadd dX8_readLine_235 ?_
                  obtain ⟨c97, h⟩ := x_ck h
                  refine x_iast dX8_readLine_236 k17 (xb_at n18 c97) rfl ?_
                  obtain ⟨N98, eN98, h⟩ := x_lt h
                  refine x_nmN eN98 ?_
                  refine x_goto (tgt := 101) dX8_readLine_237 (by decide) ?_
                  refine x_sub [0, 1, 2] rfl ?_
                  exact ih p_0 v_5 v_6 N98 kk0 h
              · refine x_icmp_ne_t (tgt := 195) dX8_readLine_182 (by decide) c89 ?_
                refine x_aload_n 0 dX8_readLine_195 rfl rfl ?_
                refine x_cv (b := p_0) (As := []) (ci := 8) (d' := 1) (zz := yX8_isGood) dX8_readLine_196 ml_X8_71 wi_X8_isGood wv_X8_isGood wn_X8 wc_X8_isGood hp_X8_isGood (by decide) (by decide) rfl (Nat.le_of_ble_eq_true rfl) ⟨Nat.zero_le _, Nat.zero_le _⟩ rfl kk0 (T_X8_isGood (G := G) hw kk0 rfl) ?_
                rcases x_if h with ⟨c99, h⟩ | ⟨c99, h⟩
                · refine x_if_ne_f (tgt := 203) dX8_readLine_199 (by decide) c99 ?_
                  obtain rfl := x_so h
                  exact x_vret dX8_readLine_202 rfl rfl rfl
                · refine x_if_ne_t (tgt := 203) dX8_readLine_199 (by decide) c99 ?_
                  refine x_aload_n 0 dX8_readLine_203 rfl rfl ?_
                  refine x_getr dX8_readLine_204 (ci := 8) (f := 9) (M := 19) (C9 := RX8) (T9 := TX8) rfl xin8 (by decide) fl_X8_20 rfl kk0 g16 ?_
                  refine x_iload 2 dX8_readLine_207 rfl ?_
                  refine x_iconst (v := 4) dX8_readLine_209 rfl ?_
                  refine x_iadd dX8_readLine_210 ?_
                  refine x_aload_n 0 dX8_readLine_211 rfl rfl ?_
                  refine x_getr dX8_readLine_212 (ci := 8) (f := 9) (M := 19) (C9 := RX8) (T9 := TX8) rfl xin8 (by decide) fl_X8_20 rfl kk0 g16 ?_
                  refine x_iload 2 dX8_readLine_215 rfl ?_
                  refine x_iconst (v := 3) dX8_readLine_217 rfl ?_
                  refine x_iadd dX8_readLine_218 ?_
                  obtain ⟨c100, h⟩ := x_ck h
                  refine x_iald dX8_readLine_219 k17 (xb_at n18 c100) rfl ?_
                  refine x_iadd dX8_readLine_220 ?_
                  refine x_iload 3 dX8_readLine_221 rfl ?_
                  obtain ⟨c101, h⟩ := x_ck h
                  refine x_iast dX8_readLine_223 k17 (xb_at n18 c101) rfl ?_
                  obtain ⟨N102, eN102, h⟩ := x_lt h
                  refine x_nmN eN102 ?_
                  refine x_aload_n 0 dX8_readLine_224 rfl rfl ?_
                  refine x_getr dX8_readLine_225 (ci := 8) (f := 9) (M := 19) (C9 := RX8) (T9 := TX8) rfl xin8 (by decide) fl_X8_20 rfl kk0 g16 ?_
                  refine x_iload 2 dX8_readLine_228 rfl ?_
                  refine x_iconst (v := 3) dX8_readLine_230 rfl ?_
                  refine x_iadd dX8_readLine_231 ?_
                  refine x_dup2 dX8_readLine_232 rfl rfl ?_
                  obtain ⟨c103, h⟩ := x_ck h
                  refine x_iald dX8_readLine_233 k17 (xb_at n18 c103) rfl ?_
                  refine x_iconst (v := 1) dX8_readLine_234 rfl ?_
                  refine x_iadd dX8_readLine_235 ?_
                  obtain ⟨c104, h⟩ := x_ck h
                  refine x_iast dX8_readLine_236 k17 (xb_at n18 c104) rfl ?_
                  obtain ⟨N105, eN105, h⟩ := x_lt h
                  refine x_nmN eN105 ?_
                  refine x_goto (tgt := 101) dX8_readLine_237 (by decide) ?_
                  refine x_sub [0, 1, 2] rfl ?_
                  exact ih p_0 v_5 v_6 N105 kk0 h
set_option maxHeartbeats 4000000 in
set_option maxRecDepth 100000 in
theorem T_X8_readLine {G : XG} {Y : XY} (hw : WT Y) {a0 : Nat} {a1 : Int32} {N : XN} (k100 : kc Y a0 = 18) {N9 : XN} (h : f_X8_readLine Y a0 a1 N = some N9) : Cl G yX8_readLine cX8_readLine 8 none (xR 4 0 0) [.ref a0, .int a1] (.inl none) Y N Y N9 := by
  refine x_entry (by decide) (Nat.le_of_ble_eq_true rfl) rfl ?_
  rw [f_X8_readLine] at h
  refine x_aload_n 0 dX8_readLine_0 rfl rfl ?_
  obtain ⟨g1, k2, n3⟩ := wt_X8_9 hw k100
  refine x_getr dX8_readLine_1 (ci := 8) (f := 9) (M := 19) (C9 := RX8) (T9 := TX8) rfl xin8 (by decide) fl_X8_20 rfl k100 g1 ?_
  refine x_iconst (v := 2) dX8_readLine_4 rfl ?_
  refine x_iald dX8_readLine_5 k2 (xb_at n3 (by decide)) rfl ?_
  refine x_bipush (v := 8) dX8_readLine_6 rfl ?_
  rcases x_if h with ⟨c4, h⟩ | ⟨c4, h⟩
  · refine x_icmp_ne_f (tgt := 18) dX8_readLine_8 (by decide) c4 ?_
    refine x_aload_n 0 dX8_readLine_11 rfl rfl ?_
    refine x_bipush (v := (-5)) dX8_readLine_12 rfl ?_
    refine x_iload_n 1 dX8_readLine_14 rfl rfl ?_
    obtain ⟨N6, q5, h⟩ := x_bd1 h
    refine x_cv (b := a0) (As := [.int (-5), .int a1]) (ci := 8) (d' := 1) (zz := yX8_report) dX8_readLine_15 ml_X8_88 wi_X8_report wv_X8_report wn_X8 wc_X8_report hp_X8_report (by decide) (by decide) rfl (Nat.le_of_ble_eq_true rfl) ⟨Nat.zero_le _, Nat.zero_le _⟩ rfl k100 (T_X8_report (G := G) hw k100 q5) ?_
    refine x_aload_n 0 dX8_readLine_18 rfl rfl ?_
    refine x_iconst (v := 0) dX8_readLine_19 rfl ?_
    refine x_bipush (v := 99) dX8_readLine_20 rfl ?_
    obtain ⟨r8, N9, q7, h⟩ := x_bd2 h
    refine x_cv (b := a0) (As := [.int 0, .int 99]) (ci := 8) (d' := 3) (zz := yX8_number) dX8_readLine_22 ml_X8_126 wi_X8_number wv_X8_number wn_X8 wc_X8_number hp_X8_number (by decide) (by decide) rfl (Nat.le_of_ble_eq_true rfl) ⟨Nat.zero_le _, Nat.zero_le _⟩ rfl k100 (T_X8_number (G := G) hw k100 q7) ?_
    refine x_istore_n [1, 0] dX8_readLine_25 rfl (by decide) rfl ?_
    refine x_aload_n 0 dX8_readLine_26 rfl rfl ?_
    refine x_iconst (v := 1) dX8_readLine_27 rfl ?_
    refine x_bipush (v := 20) dX8_readLine_28 rfl ?_
    obtain ⟨r11, N12, q10, h⟩ := x_bd2 h
    refine x_cv (b := a0) (As := [.int 1, .int 20]) (ci := 8) (d' := 3) (zz := yX8_number) dX8_readLine_30 ml_X8_126 wi_X8_number wv_X8_number wn_X8 wc_X8_number hp_X8_number (by decide) (by decide) rfl (Nat.le_of_ble_eq_true rfl) ⟨Nat.zero_le _, Nat.zero_le _⟩ rfl k100 (T_X8_number (G := G) hw k100 q10) ?_
    refine x_istore_n [1, 2, 0] dX8_readLine_33 rfl (by decide) rfl ?_
    refine x_aload_n 0 dX8_readLine_34 rfl rfl ?_
    refine x_iconst (v := 0) dX8_readLine_35 rfl ?_
    refine x_sipush (v := 9999) dX8_readLine_36 rfl ?_
    obtain ⟨r14, N15, q13, h⟩ := x_bd2 h
    refine x_cv (b := a0) (As := [.int 0, .int 9999]) (ci := 8) (d' := 3) (zz := yX8_number) dX8_readLine_39 ml_X8_126 wi_X8_number wv_X8_number wn_X8 wc_X8_number hp_X8_number (by decide) (by decide) rfl (Nat.le_of_ble_eq_true rfl) ⟨Nat.zero_le _, Nat.zero_le _⟩ rfl k100 (T_X8_number (G := G) hw k100 q13) ?_
    refine x_istore [1, 2, 3, 0] dX8_readLine_42 (by decide) rfl ?_
    refine x_aload_n 0 dX8_readLine_44 rfl rfl ?_
    refine x_cv (b := a0) (As := []) (ci := 8) (d' := 1) (zz := yX8_isGood) dX8_readLine_45 ml_X8_71 wi_X8_isGood wv_X8_isGood wn_X8 wc_X8_isGood hp_X8_isGood (by decide) (by decide) rfl (Nat.le_of_ble_eq_true rfl) ⟨Nat.zero_le _, Nat.zero_le _⟩ rfl k100 (T_X8_isGood (G := G) hw k100 rfl) ?_
    rcases x_if h with ⟨c16, h⟩ | ⟨c16, h⟩
    · refine x_if_ne_f (tgt := 52) dX8_readLine_48 (by decide) c16 ?_
      obtain rfl := x_so h
      exact x_vret dX8_readLine_51 rfl rfl rfl
    · refine x_if_ne_t (tgt := 52) dX8_readLine_48 (by decide) c16 ?_
      refine x_aload_n 0 dX8_readLine_52 rfl rfl ?_
      refine x_getr dX8_readLine_53 (ci := 8) (f := 9) (M := 19) (C9 := RX8) (T9 := TX8) rfl xin8 (by decide) fl_X8_20 rfl k100 g1 ?_
      refine x_iconst (v := 2) dX8_readLine_56 rfl ?_
      refine x_iald dX8_readLine_57 k2 (xb_at n3 (by decide)) rfl ?_
      refine x_istore [1, 2, 3, 4, 0] dX8_readLine_58 (by decide) rfl ?_
      refine x_bipush (v := 48) dX8_readLine_60 rfl ?_
      refine x_bipush (v := 7) dX8_readLine_62 rfl ?_
      refine x_iload 4 dX8_readLine_64 rfl ?_
      refine x_imul dX8_readLine_66 ?_
      refine x_iadd dX8_readLine_67 ?_
      obtain ⟨v17, ev17, h⟩ := x_lt h
      refine x_nmi ev17 ?_
      refine x_istore [1, 2, 3, 4, 5, 0] dX8_readLine_68 (by decide) rfl ?_
      refine x_aload_n 0 dX8_readLine_70 rfl rfl ?_
      refine x_getr dX8_readLine_71 (ci := 8) (f := 9) (M := 19) (C9 := RX8) (T9 := TX8) rfl xin8 (by decide) fl_X8_20 rfl k100 g1 ?_
      refine x_iload 5 dX8_readLine_74 rfl ?_
      refine x_iconst (v := 0) dX8_readLine_76 rfl ?_
      refine x_iadd dX8_readLine_77 ?_
      refine x_iload_n 1 dX8_readLine_78 rfl rfl ?_
      obtain ⟨c18, h⟩ := x_ck h
      refine x_iast dX8_readLine_79 k2 (xb_at n3 c18) rfl ?_
      obtain ⟨N19, eN19, h⟩ := x_lt h
      refine x_nmN eN19 ?_
      refine x_aload_n 0 dX8_readLine_80 rfl rfl ?_
      refine x_getr dX8_readLine_81 (ci := 8) (f := 9) (M := 19) (C9 := RX8) (T9 := TX8) rfl xin8 (by decide) fl_X8_20 rfl k100 g1 ?_
      refine x_iload 5 dX8_readLine_84 rfl ?_
      refine x_iconst (v := 1) dX8_readLine_86 rfl ?_
      refine x_iadd dX8_readLine_87 ?_
      refine x_iload_n 2 dX8_readLine_88 rfl rfl ?_
      obtain ⟨c20, h⟩ := x_ck h
      refine x_iast dX8_readLine_89 k2 (xb_at n3 c20) rfl ?_
      obtain ⟨N21, eN21, h⟩ := x_lt h
      refine x_nmN eN21 ?_
      refine x_aload_n 0 dX8_readLine_90 rfl rfl ?_
      refine x_getr dX8_readLine_91 (ci := 8) (f := 9) (M := 19) (C9 := RX8) (T9 := TX8) rfl xin8 (by decide) fl_X8_20 rfl k100 g1 ?_
      refine x_iload 5 dX8_readLine_94 rfl ?_
      refine x_iconst (v := 2) dX8_readLine_96 rfl ?_
      refine x_iadd dX8_readLine_97 ?_
      refine x_iload 3 dX8_readLine_98 rfl ?_
      obtain ⟨c22, h⟩ := x_ck h
      refine x_iast dX8_readLine_100 k2 (xb_at n3 c22) rfl ?_
      obtain ⟨N23, eN23, h⟩ := x_lt h
      refine x_nmN eN23 ?_
      refine x_sub [0, 4, 5] rfl ?_
      exact T_X8_readLine_101 (G := G) hw FU a0 (gi N15 (gp Y a0 9) 2) v17 N23 k100 h
  · refine x_icmp_ne_t (tgt := 18) dX8_readLine_8 (by decide) c4 ?_
    refine x_aload_n 0 dX8_readLine_18 rfl rfl ?_
    refine x_iconst (v := 0) dX8_readLine_19 rfl ?_
    refine x_bipush (v := 99) dX8_readLine_20 rfl ?_
    obtain ⟨r25, N26, q24, h⟩ := x_bd2 h
    refine x_cv (b := a0) (As := [.int 0, .int 99]) (ci := 8) (d' := 3) (zz := yX8_number) dX8_readLine_22 ml_X8_126 wi_X8_number wv_X8_number wn_X8 wc_X8_number hp_X8_number (by decide) (by decide) rfl (Nat.le_of_ble_eq_true rfl) ⟨Nat.zero_le _, Nat.zero_le _⟩ rfl k100 (T_X8_number (G := G) hw k100 q24) ?_
    refine x_istore_n [1, 0] dX8_readLine_25 rfl (by decide) rfl ?_
    refine x_aload_n 0 dX8_readLine_26 rfl rfl ?_
    refine x_iconst (v := 1) dX8_readLine_27 rfl ?_
    refine x_bipush (v := 20) dX8_readLine_28 rfl ?_
    obtain ⟨r28, N29, q27, h⟩ := x_bd2 h
    refine x_cv (b := a0) (As := [.int 1, .int 20]) (ci := 8) (d' := 3) (zz := yX8_number) dX8_readLine_30 ml_X8_126 wi_X8_number wv_X8_number wn_X8 wc_X8_number hp_X8_number (by decide) (by decide) rfl (Nat.le_of_ble_eq_true rfl) ⟨Nat.zero_le _, Nat.zero_le _⟩ rfl k100 (T_X8_number (G := G) hw k100 q27) ?_
    refine x_istore_n [1, 2, 0] dX8_readLine_33 rfl (by decide) rfl ?_
    refine x_aload_n 0 dX8_readLine_34 rfl rfl ?_
    refine x_iconst (v := 0) dX8_readLine_35 rfl ?_
    refine x_sipush (v := 9999) dX8_readLine_36 rfl ?_
    obtain ⟨r31, N32, q30, h⟩ := x_bd2 h
    refine x_cv (b := a0) (As := [.int 0, .int 9999]) (ci := 8) (d' := 3) (zz := yX8_number) dX8_readLine_39 ml_X8_126 wi_X8_number wv_X8_number wn_X8 wc_X8_number hp_X8_number (by decide) (by decide) rfl (Nat.le_of_ble_eq_true rfl) ⟨Nat.zero_le _, Nat.zero_le _⟩ rfl k100 (T_X8_number (G := G) hw k100 q30) ?_
    refine x_istore [1, 2, 3, 0] dX8_readLine_42 (by decide) rfl ?_
    refine x_aload_n 0 dX8_readLine_44 rfl rfl ?_
    refine x_cv (b := a0) (As := []) (ci := 8) (d' := 1) (zz := yX8_isGood) dX8_readLine_45 ml_X8_71 wi_X8_isGood wv_X8_isGood wn_X8 wc_X8_isGood hp_X8_isGood (by decide) (by decide) rfl (Nat.le_of_ble_eq_true rfl) ⟨Nat.zero_le _, Nat.zero_le _⟩ rfl k100 (T_X8_isGood (G := G) hw k100 rfl) ?_
    rcases x_if h with ⟨c33, h⟩ | ⟨c33, h⟩
    · refine x_if_ne_f (tgt := 52) dX8_readLine_48 (by decide) c33 ?_
      obtain rfl := x_so h
      exact x_vret dX8_readLine_51 rfl rfl rfl
    · refine x_if_ne_t (tgt := 52) dX8_readLine_48 (by decide) c33 ?_
      refine x_aload_n 0 dX8_readLine_52 rfl rfl ?_
      refine x_getr dX8_readLine_53 (ci := 8) (f := 9) (M := 19) (C9 := RX8) (T9 := TX8) rfl xin8 (by decide) fl_X8_20 rfl k100 g1 ?_
      refine x_iconst (v := 2) dX8_readLine_56 rfl ?_
      refine x_iald dX8_readLine_57 k2 (xb_at n3 (by decide)) rfl ?_
      refine x_istore [1, 2, 3, 4, 0] dX8_readLine_58 (by decide) rfl ?_
      refine x_bipush (v := 48) dX8_readLine_60 rfl ?_
      refine x_bipush (v := 7) dX8_readLine_62 rfl ?_
      refine x_iload 4 dX8_readLine_64 rfl ?_
      refine x_imul dX8_readLine_66 ?_
      refine x_iadd dX8_readLine_67 ?_
      obtain ⟨v34, ev34, h⟩ := x_lt h
      refine x_nmi ev34 ?_
      refine x_istore [1, 2, 3, 4, 5, 0] dX8_readLine_68 (by decide) rfl ?_
      refine x_aload_n 0 dX8_readLine_70 rfl rfl ?_
      refine x_getr dX8_readLine_71 (ci := 8) (f := 9) (M := 19) (C9 := RX8) (T9 := TX8) rfl xin8 (by decide) fl_X8_20 rfl k100 g1 ?_
      refine x_iload 5 dX8_readLine_74 rfl ?_
      refine x_iconst (v := 0) dX8_readLine_76 rfl ?_
      refine x_iadd dX8_readLine_77 ?_
      refine x_iload_n 1 dX8_readLine_78 rfl rfl ?_
      obtain ⟨c35, h⟩ := x_ck h
      refine x_iast dX8_readLine_79 k2 (xb_at n3 c35) rfl ?_
      obtain ⟨N36, eN36, h⟩ := x_lt h
      refine x_nmN eN36 ?_
      refine x_aload_n 0 dX8_readLine_80 rfl rfl ?_
      refine x_getr dX8_readLine_81 (ci := 8) (f := 9) (M := 19) (C9 := RX8) (T9 := TX8) rfl xin8 (by decide) fl_X8_20 rfl k100 g1 ?_
      refine x_iload 5 dX8_readLine_84 rfl ?_
      refine x_iconst (v := 1) dX8_readLine_86 rfl ?_
      refine x_iadd dX8_readLine_87 ?_
      refine x_iload_n 2 dX8_readLine_88 rfl rfl ?_
      obtain ⟨c37, h⟩ := x_ck h
      refine x_iast dX8_readLine_89 k2 (xb_at n3 c37) rfl ?_
      obtain ⟨N38, eN38, h⟩ := x_lt h
      refine x_nmN eN38 ?_
      refine x_aload_n 0 dX8_readLine_90 rfl rfl ?_
      refine x_getr dX8_readLine_91 (ci := 8) (f := 9) (M := 19) (C9 := RX8) (T9 := TX8) rfl xin8 (by decide) fl_X8_20 rfl k100 g1 ?_
      refine x_iload 5 dX8_readLine_94 rfl ?_
      refine x_iconst (v := 2) dX8_readLine_96 rfl ?_
      refine x_iadd dX8_readLine_97 ?_
      refine x_iload 3 dX8_readLine_98 rfl ?_
      obtain ⟨c39, h⟩ := x_ck h
      refine x_iast dX8_readLine_100 k2 (xb_at n3 c39) rfl ?_
      obtain ⟨N40, eN40, h⟩ := x_lt h
      refine x_nmN eN40 ?_
      refine x_sub [0, 4, 5] rfl ?_
      exact T_X8_readLine_101 (G := G) hw FU a0 (gi N32 (gp Y a0 9) 2) v34 N40 k100 h
set_option maxHeartbeats 4000000 in
set_option maxRecDepth 100000 in
theorem T_X8_putRequest {G : XG} {Y : XY} (hw : WT Y) {a0 : Nat} {a1 : Int32} {a2 : Int32} {a3 : Int32} {N : XN} (k100 : kc Y a0 = 1) {N9 : XN} (h : f_X8_putRequest Y a0 a1 a2 a3 N = some N9) : Cl G yX8_putRequest cX8_putRequest 5 none (xR 1 0 0) [.ref a0, .int a1, .int a2, .int a3] (.inl none) Y N Y N9 := by
  refine x_entry (by decide) (Nat.le_of_ble_eq_true rfl) rfl ?_
  rw [f_X8_putRequest] at h
  refine x_bipush (v := 104) dX8_putRequest_0 rfl ?_
  refine x_bipush (v := 8) dX8_putRequest_2 rfl ?_
  refine x_aload_n 0 dX8_putRequest_4 rfl rfl ?_
  refine x_iconst (v := 3) dX8_putRequest_5 rfl ?_
  obtain ⟨c1, h⟩ := x_ck h
  refine x_iald dX8_putRequest_6 k100 (xb_in c1) rfl ?_
  refine x_imul dX8_putRequest_7 ?_
  refine x_iadd dX8_putRequest_8 ?_
  obtain ⟨v2, ev2, h⟩ := x_lt h
  refine x_nmi ev2 ?_
  refine x_istore [1, 2, 3, 4, 0] dX8_putRequest_9 (by decide) rfl ?_
  refine x_aload_n 0 dX8_putRequest_11 rfl rfl ?_
  refine x_iload 4 dX8_putRequest_12 rfl ?_
  refine x_iconst (v := 0) dX8_putRequest_14 rfl ?_
  refine x_iadd dX8_putRequest_15 ?_
  refine x_iload_n 1 dX8_putRequest_16 rfl rfl ?_
  obtain ⟨c3, h⟩ := x_ck h
  refine x_iast dX8_putRequest_17 k100 (xb_in c3) rfl ?_
  obtain ⟨N4, eN4, h⟩ := x_lt h
  refine x_nmN eN4 ?_
  refine x_aload_n 0 dX8_putRequest_18 rfl rfl ?_
  refine x_iload 4 dX8_putRequest_19 rfl ?_
  refine x_iconst (v := 1) dX8_putRequest_21 rfl ?_
  refine x_iadd dX8_putRequest_22 ?_
  refine x_iload_n 2 dX8_putRequest_23 rfl rfl ?_
  obtain ⟨c5, h⟩ := x_ck h
  refine x_iast dX8_putRequest_24 k100 (xb_in c5) rfl ?_
  obtain ⟨N6, eN6, h⟩ := x_lt h
  refine x_nmN eN6 ?_
  refine x_aload_n 0 dX8_putRequest_25 rfl rfl ?_
  refine x_iload 4 dX8_putRequest_26 rfl ?_
  refine x_iconst (v := 2) dX8_putRequest_28 rfl ?_
  refine x_iadd dX8_putRequest_29 ?_
  refine x_iload_n 3 dX8_putRequest_30 rfl rfl ?_
  obtain ⟨c7, h⟩ := x_ck h
  refine x_iast dX8_putRequest_31 k100 (xb_in c7) rfl ?_
  obtain ⟨N8, eN8, h⟩ := x_lt h
  refine x_nmN eN8 ?_
  refine x_aload_n 0 dX8_putRequest_32 rfl rfl ?_
  refine x_iload 4 dX8_putRequest_33 rfl ?_
  refine x_iconst (v := 3) dX8_putRequest_35 rfl ?_
  refine x_iadd dX8_putRequest_36 ?_
  refine x_iconst (v := 0) dX8_putRequest_37 rfl ?_
  obtain ⟨c9, h⟩ := x_ck h
  refine x_iast dX8_putRequest_38 k100 (xb_in c9) rfl ?_
  obtain ⟨N10, eN10, h⟩ := x_lt h
  refine x_nmN eN10 ?_
  refine x_aload_n 0 dX8_putRequest_39 rfl rfl ?_
  refine x_iload 4 dX8_putRequest_40 rfl ?_
  refine x_iconst (v := 4) dX8_putRequest_42 rfl ?_
  refine x_iadd dX8_putRequest_43 ?_
  refine x_iconst (v := (-1)) dX8_putRequest_44 rfl ?_
  obtain ⟨c11, h⟩ := x_ck h
  refine x_iast dX8_putRequest_45 k100 (xb_in c11) rfl ?_
  obtain ⟨N12, eN12, h⟩ := x_lt h
  refine x_nmN eN12 ?_
  refine x_aload_n 0 dX8_putRequest_46 rfl rfl ?_
  refine x_iload 4 dX8_putRequest_47 rfl ?_
  refine x_iconst (v := 5) dX8_putRequest_49 rfl ?_
  refine x_iadd dX8_putRequest_50 ?_
  refine x_iconst (v := 0) dX8_putRequest_51 rfl ?_
  obtain ⟨c13, h⟩ := x_ck h
  refine x_iast dX8_putRequest_52 k100 (xb_in c13) rfl ?_
  obtain ⟨N14, eN14, h⟩ := x_lt h
  refine x_nmN eN14 ?_
  refine x_aload_n 0 dX8_putRequest_53 rfl rfl ?_
  refine x_iload 4 dX8_putRequest_54 rfl ?_
  refine x_bipush (v := 6) dX8_putRequest_56 rfl ?_
  refine x_iadd dX8_putRequest_58 ?_
  refine x_iconst (v := (-1)) dX8_putRequest_59 rfl ?_
  obtain ⟨c15, h⟩ := x_ck h
  refine x_iast dX8_putRequest_60 k100 (xb_in c15) rfl ?_
  obtain ⟨N16, eN16, h⟩ := x_lt h
  refine x_nmN eN16 ?_
  refine x_aload_n 0 dX8_putRequest_61 rfl rfl ?_
  refine x_iload 4 dX8_putRequest_62 rfl ?_
  refine x_bipush (v := 7) dX8_putRequest_64 rfl ?_
  refine x_iadd dX8_putRequest_66 ?_
  refine x_iconst (v := 0) dX8_putRequest_67 rfl ?_
  obtain ⟨c17, h⟩ := x_ck h
  refine x_iast dX8_putRequest_68 k100 (xb_in c17) rfl ?_
  obtain ⟨N18, eN18, h⟩ := x_lt h
  refine x_nmN eN18 ?_
  refine x_aload_n 0 dX8_putRequest_69 rfl rfl ?_
  refine x_iconst (v := 3) dX8_putRequest_70 rfl ?_
  refine x_dup2 dX8_putRequest_71 rfl rfl ?_
  obtain ⟨c19, h⟩ := x_ck h
  refine x_iald dX8_putRequest_72 k100 (xb_in c19) rfl ?_
  refine x_iconst (v := 1) dX8_putRequest_73 rfl ?_
  refine x_iadd dX8_putRequest_74 ?_
  obtain ⟨c20, h⟩ := x_ck h
  refine x_iast dX8_putRequest_75 k100 (xb_in c20) rfl ?_
  obtain ⟨N21, eN21, h⟩ := x_lt h
  refine x_nmN eN21 ?_
  obtain rfl := x_so h
  exact x_vret dX8_putRequest_76 rfl rfl rfl
set_option maxHeartbeats 4000000 in
set_option maxRecDepth 100000 in
theorem T_X8_readRequest {G : XG} {Y : XY} (hw : WT Y) {a0 : Nat} {a1 : Int32} {N : XN} (k100 : kc Y a0 = 18) {N9 : XN} (h : f_X8_readRequest Y a0 a1 N = some N9) : Cl G yX8_readRequest cX8_readRequest 5 none (xR 4 0 0) [.ref a0, .int a1] (.inl none) Y N Y N9 := by
  refine x_entry (by decide) (Nat.le_of_ble_eq_true rfl) rfl ?_
  rw [f_X8_readRequest] at h
  refine x_aload_n 0 dX8_readRequest_0 rfl rfl ?_
  obtain ⟨g1, k2, n3⟩ := wt_X8_9 hw k100
  refine x_getr dX8_readRequest_1 (ci := 8) (f := 9) (M := 19) (C9 := RX8) (T9 := TX8) rfl xin8 (by decide) fl_X8_20 rfl k100 g1 ?_
  refine x_iconst (v := 3) dX8_readRequest_4 rfl ?_
  refine x_iald dX8_readRequest_5 k2 (xb_at n3 (by decide)) rfl ?_
  refine x_bipush (v := 60) dX8_readRequest_6 rfl ?_
  rcases x_if h with ⟨c4, h⟩ | ⟨c4, h⟩
  · refine x_icmp_ne_f (tgt := 18) dX8_readRequest_8 (by decide) c4 ?_
    refine x_aload_n 0 dX8_readRequest_11 rfl rfl ?_
    refine x_bipush (v := (-5)) dX8_readRequest_12 rfl ?_
    refine x_iload_n 1 dX8_readRequest_14 rfl rfl ?_
    obtain ⟨N6, q5, h⟩ := x_bd1 h
    refine x_cv (b := a0) (As := [.int (-5), .int a1]) (ci := 8) (d' := 1) (zz := yX8_report) dX8_readRequest_15 ml_X8_88 wi_X8_report wv_X8_report wn_X8 wc_X8_report hp_X8_report (by decide) (by decide) rfl (Nat.le_of_ble_eq_true rfl) ⟨Nat.zero_le _, Nat.zero_le _⟩ rfl k100 (T_X8_report (G := G) hw k100 q5) ?_
    refine x_aload_n 0 dX8_readRequest_18 rfl rfl ?_
    refine x_iconst (v := 0) dX8_readRequest_19 rfl ?_
    refine x_aload_n 0 dX8_readRequest_20 rfl rfl ?_
    refine x_getr dX8_readRequest_21 (ci := 8) (f := 9) (M := 19) (C9 := RX8) (T9 := TX8) rfl xin8 (by decide) fl_X8_20 rfl k100 g1 ?_
    refine x_iconst (v := 2) dX8_readRequest_24 rfl ?_
    refine x_iald dX8_readRequest_25 k2 (xb_at n3 (by decide)) rfl ?_
    refine x_iconst (v := 1) dX8_readRequest_26 rfl ?_
    refine x_isub dX8_readRequest_27 ?_
    obtain ⟨r8, N9, q7, h⟩ := x_bd2 h
    refine x_cv (b := a0) (As := [.int 0, .int ((gi N6 (gp Y a0 9) 2) - 1)]) (ci := 8) (d' := 3) (zz := yX8_number) dX8_readRequest_28 ml_X8_126 wi_X8_number wv_X8_number wn_X8 wc_X8_number hp_X8_number (by decide) (by decide) rfl (Nat.le_of_ble_eq_true rfl) ⟨Nat.zero_le _, Nat.zero_le _⟩ rfl k100 (T_X8_number (G := G) hw k100 q7) ?_
    refine x_istore_n [1, 0] dX8_readRequest_31 rfl (by decide) rfl ?_
    refine x_aload_n 0 dX8_readRequest_32 rfl rfl ?_
    refine x_iconst (v := 0) dX8_readRequest_33 rfl ?_
    refine x_sipush (v := 999) dX8_readRequest_34 rfl ?_
    obtain ⟨r11, N12, q10, h⟩ := x_bd2 h
    refine x_cv (b := a0) (As := [.int 0, .int 999]) (ci := 8) (d' := 3) (zz := yX8_number) dX8_readRequest_37 ml_X8_126 wi_X8_number wv_X8_number wn_X8 wc_X8_number hp_X8_number (by decide) (by decide) rfl (Nat.le_of_ble_eq_true rfl) ⟨Nat.zero_le _, Nat.zero_le _⟩ rfl k100 (T_X8_number (G := G) hw k100 q10) ?_
    refine x_istore_n [1, 2, 0] dX8_readRequest_40 rfl (by decide) rfl ?_
    refine x_aload_n 0 dX8_readRequest_41 rfl rfl ?_
    refine x_iconst (v := 1) dX8_readRequest_42 rfl ?_
    refine x_bipush (v := 99) dX8_readRequest_43 rfl ?_
    obtain ⟨r14, N15, q13, h⟩ := x_bd2 h
    refine x_cv (b := a0) (As := [.int 1, .int 99]) (ci := 8) (d' := 3) (zz := yX8_number) dX8_readRequest_45 ml_X8_126 wi_X8_number wv_X8_number wn_X8 wc_X8_number hp_X8_number (by decide) (by decide) rfl (Nat.le_of_ble_eq_true rfl) ⟨Nat.zero_le _, Nat.zero_le _⟩ rfl k100 (T_X8_number (G := G) hw k100 q13) ?_
    refine x_istore [1, 2, 3, 0] dX8_readRequest_48 (by decide) rfl ?_
    refine x_aload_n 0 dX8_readRequest_50 rfl rfl ?_
    refine x_cv (b := a0) (As := []) (ci := 8) (d' := 1) (zz := yX8_isGood) dX8_readRequest_51 ml_X8_71 wi_X8_isGood wv_X8_isGood wn_X8 wc_X8_isGood hp_X8_isGood (by decide) (by decide) rfl (Nat.le_of_ble_eq_true rfl) ⟨Nat.zero_le _, Nat.zero_le _⟩ rfl k100 (T_X8_isGood (G := G) hw k100 rfl) ?_
    rcases x_if h with ⟨c16, h⟩ | ⟨c16, h⟩
    · refine x_if_eq_t (tgt := 68) dX8_readRequest_54 (by decide) c16 ?_
      obtain rfl := x_so h
      exact x_vret dX8_readRequest_68 rfl rfl rfl
    · refine x_if_eq_f (tgt := 68) dX8_readRequest_54 (by decide) c16 ?_
      refine x_aload_n 0 dX8_readRequest_57 rfl rfl ?_
      refine x_getr dX8_readRequest_58 (ci := 8) (f := 9) (M := 19) (C9 := RX8) (T9 := TX8) rfl xin8 (by decide) fl_X8_20 rfl k100 g1 ?_
      refine x_iload_n 1 dX8_readRequest_61 rfl rfl ?_
      refine x_iload_n 2 dX8_readRequest_62 rfl rfl ?_
      refine x_iload 3 dX8_readRequest_63 rfl ?_
      obtain ⟨N18, q17, h⟩ := x_bd1 h
      refine x_cs (As := [.ref (gp Y a0 9), .int r8, .int r11, .int r14]) (d' := 1) (zz := yX8_putRequest) dX8_readRequest_65 ml_X8_145 wt_X8_putRequest wn_X8 wc_X8_putRequest hp_X8_putRequest (by decide) (by decide) rfl (Nat.le_of_ble_eq_true rfl) ⟨Nat.zero_le _, Nat.zero_le _⟩ (T_X8_putRequest (G := G) hw k2 q17) ?_
      obtain rfl := x_so h
      exact x_vret dX8_readRequest_68 rfl rfl rfl
  · refine x_icmp_ne_t (tgt := 18) dX8_readRequest_8 (by decide) c4 ?_
    refine x_aload_n 0 dX8_readRequest_18 rfl rfl ?_
    refine x_iconst (v := 0) dX8_readRequest_19 rfl ?_
    refine x_aload_n 0 dX8_readRequest_20 rfl rfl ?_
    refine x_getr dX8_readRequest_21 (ci := 8) (f := 9) (M := 19) (C9 := RX8) (T9 := TX8) rfl xin8 (by decide) fl_X8_20 rfl k100 g1 ?_
    refine x_iconst (v := 2) dX8_readRequest_24 rfl ?_
    refine x_iald dX8_readRequest_25 k2 (xb_at n3 (by decide)) rfl ?_
    refine x_iconst (v := 1) dX8_readRequest_26 rfl ?_
    refine x_isub dX8_readRequest_27 ?_
    obtain ⟨r20, N21, q19, h⟩ := x_bd2 h
    refine x_cv (b := a0) (As := [.int 0, .int ((gi N (gp Y a0 9) 2) - 1)]) (ci := 8) (d' := 3) (zz := yX8_number) dX8_readRequest_28 ml_X8_126 wi_X8_number wv_X8_number wn_X8 wc_X8_number hp_X8_number (by decide) (by decide) rfl (Nat.le_of_ble_eq_true rfl) ⟨Nat.zero_le _, Nat.zero_le _⟩ rfl k100 (T_X8_number (G := G) hw k100 q19) ?_
    refine x_istore_n [1, 0] dX8_readRequest_31 rfl (by decide) rfl ?_
    refine x_aload_n 0 dX8_readRequest_32 rfl rfl ?_
    refine x_iconst (v := 0) dX8_readRequest_33 rfl ?_
    refine x_sipush (v := 999) dX8_readRequest_34 rfl ?_
    obtain ⟨r23, N24, q22, h⟩ := x_bd2 h
    refine x_cv (b := a0) (As := [.int 0, .int 999]) (ci := 8) (d' := 3) (zz := yX8_number) dX8_readRequest_37 ml_X8_126 wi_X8_number wv_X8_number wn_X8 wc_X8_number hp_X8_number (by decide) (by decide) rfl (Nat.le_of_ble_eq_true rfl) ⟨Nat.zero_le _, Nat.zero_le _⟩ rfl k100 (T_X8_number (G := G) hw k100 q22) ?_
    refine x_istore_n [1, 2, 0] dX8_readRequest_40 rfl (by decide) rfl ?_
    refine x_aload_n 0 dX8_readRequest_41 rfl rfl ?_
    refine x_iconst (v := 1) dX8_readRequest_42 rfl ?_
    refine x_bipush (v := 99) dX8_readRequest_43 rfl ?_
    obtain ⟨r26, N27, q25, h⟩ := x_bd2 h
    refine x_cv (b := a0) (As := [.int 1, .int 99]) (ci := 8) (d' := 3) (zz := yX8_number) dX8_readRequest_45 ml_X8_126 wi_X8_number wv_X8_number wn_X8 wc_X8_number hp_X8_number (by decide) (by decide) rfl (Nat.le_of_ble_eq_true rfl) ⟨Nat.zero_le _, Nat.zero_le _⟩ rfl k100 (T_X8_number (G := G) hw k100 q25) ?_
    refine x_istore [1, 2, 3, 0] dX8_readRequest_48 (by decide) rfl ?_
    refine x_aload_n 0 dX8_readRequest_50 rfl rfl ?_
    refine x_cv (b := a0) (As := []) (ci := 8) (d' := 1) (zz := yX8_isGood) dX8_readRequest_51 ml_X8_71 wi_X8_isGood wv_X8_isGood wn_X8 wc_X8_isGood hp_X8_isGood (by decide) (by decide) rfl (Nat.le_of_ble_eq_true rfl) ⟨Nat.zero_le _, Nat.zero_le _⟩ rfl k100 (T_X8_isGood (G := G) hw k100 rfl) ?_
    rcases x_if h with ⟨c28, h⟩ | ⟨c28, h⟩
    · refine x_if_eq_t (tgt := 68) dX8_readRequest_54 (by decide) c28 ?_
      obtain rfl := x_so h
      exact x_vret dX8_readRequest_68 rfl rfl rfl
    · refine x_if_eq_f (tgt := 68) dX8_readRequest_54 (by decide) c28 ?_
      refine x_aload_n 0 dX8_readRequest_57 rfl rfl ?_
      refine x_getr dX8_readRequest_58 (ci := 8) (f := 9) (M := 19) (C9 := RX8) (T9 := TX8) rfl xin8 (by decide) fl_X8_20 rfl k100 g1 ?_
      refine x_iload_n 1 dX8_readRequest_61 rfl rfl ?_
      refine x_iload_n 2 dX8_readRequest_62 rfl rfl ?_
      refine x_iload 3 dX8_readRequest_63 rfl ?_
      obtain ⟨N30, q29, h⟩ := x_bd1 h
      refine x_cs (As := [.ref (gp Y a0 9), .int r20, .int r23, .int r26]) (d' := 1) (zz := yX8_putRequest) dX8_readRequest_65 ml_X8_145 wt_X8_putRequest wn_X8 wc_X8_putRequest hp_X8_putRequest (by decide) (by decide) rfl (Nat.le_of_ble_eq_true rfl) ⟨Nat.zero_le _, Nat.zero_le _⟩ (T_X8_putRequest (G := G) hw k2 q29) ?_
      obtain rfl := x_so h
      exact x_vret dX8_readRequest_68 rfl rfl rfl
set_option maxHeartbeats 4000000 in
set_option maxRecDepth 100000 in
theorem T_X8_readOnce {G : XG} {Y : XY} (hw : WT Y) {a0 : Nat} {a1 : Int32} {a2 : Int32} {a3 : Int32} {a4 : Int32} {a5 : Int32} {N : XN} (k100 : kc Y a0 = 18) {N9 : XN} (h : f_X8_readOnce Y a0 a1 a2 a3 a4 a5 N = some N9) : Cl G yX8_readOnce cX8_readOnce 6 none (xR 4 0 0) [.ref a0, .int a1, .int a2, .int a3, .int a4, .int a5] (.inl none) Y N Y N9 := by
  refine x_entry (by decide) (Nat.le_of_ble_eq_true rfl) rfl ?_
  rw [f_X8_readOnce] at h
  refine x_aload_n 0 dX8_readOnce_0 rfl rfl ?_
  refine x_iload_n 1 dX8_readOnce_1 rfl rfl ?_
  refine x_iload_n 2 dX8_readOnce_2 rfl rfl ?_
  obtain ⟨N2, q1, h⟩ := x_bd1 h
  refine x_cv (b := a0) (As := [.int a1, .int a2]) (ci := 8) (d' := 2) (zz := yX8_once) dX8_readOnce_3 ml_X8_149 wi_X8_once wv_X8_once wn_X8 wc_X8_once hp_X8_once (by decide) (by decide) rfl (Nat.le_of_ble_eq_true rfl) ⟨Nat.zero_le _, Nat.zero_le _⟩ rfl k100 (T_X8_once (G := G) hw k100 q1) ?_
  refine x_aload_n 0 dX8_readOnce_6 rfl rfl ?_
  obtain ⟨g3, k4, n5⟩ := wt_X8_9 hw k100
  refine x_getr dX8_readOnce_7 (ci := 8) (f := 9) (M := 19) (C9 := RX8) (T9 := TX8) rfl xin8 (by decide) fl_X8_20 rfl k100 g3 ?_
  refine x_iload_n 3 dX8_readOnce_10 rfl rfl ?_
  refine x_aload_n 0 dX8_readOnce_11 rfl rfl ?_
  refine x_iload 4 dX8_readOnce_12 rfl ?_
  refine x_iload 5 dX8_readOnce_14 rfl ?_
  obtain ⟨r7, N8, q6, h⟩ := x_bd2 h
  refine x_cv (b := a0) (As := [.int a4, .int a5]) (ci := 8) (d' := 3) (zz := yX8_number) dX8_readOnce_16 ml_X8_126 wi_X8_number wv_X8_number wn_X8 wc_X8_number hp_X8_number (by decide) (by decide) rfl (Nat.le_of_ble_eq_true rfl) ⟨Nat.zero_le _, Nat.zero_le _⟩ rfl k100 (T_X8_number (G := G) hw k100 q6) ?_
  obtain ⟨c9, h⟩ := x_ck h
  refine x_iast dX8_readOnce_19 k4 (xb_at n5 c9) rfl ?_
  obtain ⟨N10, eN10, h⟩ := x_lt h
  refine x_nmN eN10 ?_
  obtain rfl := x_so h
  exact x_vret dX8_readOnce_20 rfl rfl rfl
set_option maxHeartbeats 4000000 in
set_option maxRecDepth 100000 in
theorem T_X8_statement {G : XG} {Y : XY} (hw : WT Y) {a0 : Nat} {N : XN} (k100 : kc Y a0 = 18) {N9 : XN} (h : f_X8_statement Y a0 N = some N9) : Cl G yX8_statement cX8_statement 2 none (xR 34 0 0) [.ref a0] (.inl none) Y N Y N9 := by
  refine x_entry (by decide) (Nat.le_of_ble_eq_true rfl) rfl ?_
  rw [f_X8_statement] at h
  refine x_aload_n 0 dX8_statement_0 rfl rfl ?_
  obtain ⟨r2, N3, q1, h⟩ := x_bd2 h
  refine x_cv (b := a0) (As := []) (ci := 8) (d' := 2) (zz := yX8_next) dX8_statement_1 ml_X8_75 wi_X8_next wv_X8_next wn_X8 wc_X8_next hp_X8_next (by decide) (by decide) rfl (Nat.le_of_ble_eq_true rfl) ⟨Nat.zero_le _, Nat.zero_le _⟩ rfl k100 (T_X8_next (G := G) hw k100 q1) ?_
  refine x_pop dX8_statement_4 rfl ?_
  refine x_aload_n 0 dX8_statement_5 rfl rfl ?_
  refine x_geti dX8_statement_6 (ci := 8) (f := 4) (M := 19) (C9 := RX8) (T9 := TX8) rfl xin8 (by decide) fl_X8_54 rfl k100 ?_
  refine x_istore_n [1, 0] dX8_statement_9 rfl (by decide) rfl ?_
  refine x_aload_n 0 dX8_statement_10 rfl rfl ?_
  refine x_ldcS (tx := "handler") (i := 1) dX8_statement_11 (by decide) ?_
  obtain ⟨r5, N6, q4, h⟩ := x_bd2 h
  refine x_cv (b := a0) (As := [.ref (xS G 1)]) (ci := 8) (d' := 8) (zz := yX8_takeWord) dX8_statement_13 ml_X8_116 wi_X8_takeWord wv_X8_takeWord wn_X8 wc_X8_takeWord hp_X8_takeWord (by decide) (by decide) rfl (Nat.le_of_ble_eq_true rfl) ⟨Nat.zero_le _, Nat.zero_le _⟩ rfl k100 (T_X8_takeWord (G := G) hw k100 q4) ?_
  rcases x_if h with ⟨c7, h⟩ | ⟨c7, h⟩
  · refine x_if_eq_t (tgt := 27) dX8_statement_16 (by decide) c7 ?_
    refine x_aload_n 0 dX8_statement_27 rfl rfl ?_
    refine x_ldcS (tx := "line") (i := 2) dX8_statement_28 (by decide) ?_
    obtain ⟨r9, N10, q8, h⟩ := x_bd2 h
    refine x_cv (b := a0) (As := [.ref (xS G 2)]) (ci := 8) (d' := 8) (zz := yX8_takeWord) dX8_statement_30 ml_X8_116 wi_X8_takeWord wv_X8_takeWord wn_X8 wc_X8_takeWord hp_X8_takeWord (by decide) (by decide) rfl (Nat.le_of_ble_eq_true rfl) ⟨Nat.zero_le _, Nat.zero_le _⟩ rfl k100 (T_X8_takeWord (G := G) hw k100 q8) ?_
    rcases x_if h with ⟨c11, h⟩ | ⟨c11, h⟩
    · refine x_if_eq_t (tgt := 44) dX8_statement_33 (by decide) c11 ?_
      refine x_aload_n 0 dX8_statement_44 rfl rfl ?_
      refine x_ldcS (tx := "raise") (i := 3) dX8_statement_45 (by decide) ?_
      obtain ⟨r13, N14, q12, h⟩ := x_bd2 h
      refine x_cv (b := a0) (As := [.ref (xS G 3)]) (ci := 8) (d' := 8) (zz := yX8_takeWord) dX8_statement_47 ml_X8_116 wi_X8_takeWord wv_X8_takeWord wn_X8 wc_X8_takeWord hp_X8_takeWord (by decide) (by decide) rfl (Nat.le_of_ble_eq_true rfl) ⟨Nat.zero_le _, Nat.zero_le _⟩ rfl k100 (T_X8_takeWord (G := G) hw k100 q12) ?_
      rcases x_if h with ⟨c15, h⟩ | ⟨c15, h⟩
      · refine x_if_eq_t (tgt := 61) dX8_statement_50 (by decide) c15 ?_
        refine x_aload_n 0 dX8_statement_61 rfl rfl ?_
        refine x_ldcS (tx := "patience") (i := 4) dX8_statement_62 (by decide) ?_
        obtain ⟨r17, N18, q16, h⟩ := x_bd2 h
        refine x_cv (b := a0) (As := [.ref (xS G 4)]) (ci := 8) (d' := 8) (zz := yX8_takeWord) dX8_statement_64 ml_X8_116 wi_X8_takeWord wv_X8_takeWord wn_X8 wc_X8_takeWord hp_X8_takeWord (by decide) (by decide) rfl (Nat.le_of_ble_eq_true rfl) ⟨Nat.zero_le _, Nat.zero_le _⟩ rfl k100 (T_X8_takeWord (G := G) hw k100 q16) ?_
        rcases x_if h with ⟨c19, h⟩ | ⟨c19, h⟩
        · refine x_if_eq_t (tgt := 83) dX8_statement_67 (by decide) c19 ?_
          refine x_aload_n 0 dX8_statement_83 rfl rfl ?_
          refine x_ldcS (tx := "window") (i := 5) dX8_statement_84 (by decide) ?_
          obtain ⟨r21, N22, q20, h⟩ := x_bd2 h
          refine x_cv (b := a0) (As := [.ref (xS G 5)]) (ci := 8) (d' := 8) (zz := yX8_takeWord) dX8_statement_86 ml_X8_116 wi_X8_takeWord wv_X8_takeWord wn_X8 wc_X8_takeWord hp_X8_takeWord (by decide) (by decide) rfl (Nat.le_of_ble_eq_true rfl) ⟨Nat.zero_le _, Nat.zero_le _⟩ rfl k100 (T_X8_takeWord (G := G) hw k100 q20) ?_
          rcases x_if h with ⟨c23, h⟩ | ⟨c23, h⟩
          · refine x_if_eq_t (tgt := 106) dX8_statement_89 (by decide) c23 ?_
            refine x_aload_n 0 dX8_statement_106 rfl rfl ?_
            refine x_ldcS (tx := "storm") (i := 6) dX8_statement_107 (by decide) ?_
            obtain ⟨r25, N26, q24, h⟩ := x_bd2 h
            refine x_cv (b := a0) (As := [.ref (xS G 6)]) (ci := 8) (d' := 8) (zz := yX8_takeWord) dX8_statement_109 ml_X8_116 wi_X8_takeWord wv_X8_takeWord wn_X8 wc_X8_takeWord hp_X8_takeWord (by decide) (by decide) rfl (Nat.le_of_ble_eq_true rfl) ⟨Nat.zero_le _, Nat.zero_le _⟩ rfl k100 (T_X8_takeWord (G := G) hw k100 q24) ?_
            rcases x_if h with ⟨c27, h⟩ | ⟨c27, h⟩
            · refine x_if_eq_t (tgt := 130) dX8_statement_112 (by decide) c27 ?_
              refine x_aload_n 0 dX8_statement_130 rfl rfl ?_
              refine x_ldcS (tx := "period") (i := 7) dX8_statement_131 (by decide) ?_
              obtain ⟨r29, N30, q28, h⟩ := x_bd2 h
              refine x_cv (b := a0) (As := [.ref (xS G 7)]) (ci := 8) (d' := 8) (zz := yX8_takeWord) dX8_statement_133 ml_X8_116 wi_X8_takeWord wv_X8_takeWord wn_X8 wc_X8_takeWord hp_X8_takeWord (by decide) (by decide) rfl (Nat.le_of_ble_eq_true rfl) ⟨Nat.zero_le _, Nat.zero_le _⟩ rfl k100 (T_X8_takeWord (G := G) hw k100 q28) ?_
              rcases x_if h with ⟨c31, h⟩ | ⟨c31, h⟩
              · refine x_if_eq_t (tgt := 153) dX8_statement_136 (by decide) c31 ?_
                refine x_aload_n 0 dX8_statement_153 rfl rfl ?_
                refine x_ldcS (tx := "wage") (i := 8) dX8_statement_154 (by decide) ?_
                obtain ⟨r33, N34, q32, h⟩ := x_bd2 h
                refine x_cv (b := a0) (As := [.ref (xS G 8)]) (ci := 8) (d' := 8) (zz := yX8_takeWord) dX8_statement_156 ml_X8_116 wi_X8_takeWord wv_X8_takeWord wn_X8 wc_X8_takeWord hp_X8_takeWord (by decide) (by decide) rfl (Nat.le_of_ble_eq_true rfl) ⟨Nat.zero_le _, Nat.zero_le _⟩ rfl k100 (T_X8_takeWord (G := G) hw k100 q32) ?_
                rcases x_if h with ⟨c35, h⟩ | ⟨c35, h⟩
                · refine x_if_eq_t (tgt := 176) dX8_statement_159 (by decide) c35 ?_
                  refine x_aload_n 0 dX8_statement_176 rfl rfl ?_
                  refine x_ldcS (tx := "fine") (i := 9) dX8_statement_177 (by decide) ?_
                  obtain ⟨r37, N38, q36, h⟩ := x_bd2 h
                  refine x_cv (b := a0) (As := [.ref (xS G 9)]) (ci := 8) (d' := 8) (zz := yX8_takeWord) dX8_statement_179 ml_X8_116 wi_X8_takeWord wv_X8_takeWord wn_X8 wc_X8_takeWord hp_X8_takeWord (by decide) (by decide) rfl (Nat.le_of_ble_eq_true rfl) ⟨Nat.zero_le _, Nat.zero_le _⟩ rfl k100 (T_X8_takeWord (G := G) hw k100 q36) ?_
                  rcases x_if h with ⟨c39, h⟩ | ⟨c39, h⟩
                  · refine x_if_eq_t (tgt := 206) dX8_statement_182 (by decide) c39 ?_
                    refine x_aload_n 0 dX8_statement_206 rfl rfl ?_
                    refine x_bipush (v := (-2)) dX8_statement_207 rfl ?_
                    refine x_iload_n 1 dX8_statement_209 rfl rfl ?_
                    obtain ⟨N41, q40, h⟩ := x_bd1 h
                    refine x_cv (b := a0) (As := [.int (-2), .int (gi N3 a0 4)]) (ci := 8) (d' := 1) (zz := yX8_report) dX8_statement_210 ml_X8_88 wi_X8_report wv_X8_report wn_X8 wc_X8_report hp_X8_report (by decide) (by decide) rfl (Nat.le_of_ble_eq_true rfl) ⟨Nat.zero_le _, Nat.zero_le _⟩ rfl k100 (T_X8_report (G := G) hw k100 q40) ?_
                    refine x_aload_n 0 dX8_statement_213 rfl rfl ?_
                    refine x_bipush (v := 59) dX8_statement_214 rfl ?_
                    obtain ⟨N43, q42, h⟩ := x_bd1 h
                    refine x_cv (b := a0) (As := [.int 59]) (ci := 8) (d' := 3) (zz := yX8_expect) dX8_statement_216 ml_X8_110 wi_X8_expect wv_X8_expect wn_X8 wc_X8_expect hp_X8_expect (by decide) (by decide) rfl (Nat.le_of_ble_eq_true rfl) ⟨Nat.zero_le _, Nat.zero_le _⟩ rfl k100 (T_X8_expect (G := G) hw k100 q42) ?_
                    obtain rfl := x_so h
                    exact x_vret dX8_statement_219 rfl rfl rfl
                  · refine x_if_eq_f (tgt := 206) dX8_statement_182 (by decide) c39 ?_
                    refine x_aload_n 0 dX8_statement_185 rfl rfl ?_
                    refine x_iconst (v := 5) dX8_statement_186 rfl ?_
                    refine x_iload_n 1 dX8_statement_187 rfl rfl ?_
                    obtain ⟨N45, q44, h⟩ := x_bd1 h
                    refine x_cv (b := a0) (As := [.int 5, .int (gi N3 a0 4)]) (ci := 8) (d' := 2) (zz := yX8_once) dX8_statement_188 ml_X8_149 wi_X8_once wv_X8_once wn_X8 wc_X8_once hp_X8_once (by decide) (by decide) rfl (Nat.le_of_ble_eq_true rfl) ⟨Nat.zero_le _, Nat.zero_le _⟩ rfl k100 (T_X8_once (G := G) hw k100 q44) ?_
                    refine x_aload_n 0 dX8_statement_191 rfl rfl ?_
                    obtain ⟨g46, k47, n48⟩ := wt_X8_9 hw k100
                    refine x_getr dX8_statement_192 (ci := 8) (f := 9) (M := 19) (C9 := RX8) (T9 := TX8) rfl xin8 (by decide) fl_X8_20 rfl k100 g46 ?_
                    refine x_bipush (v := 10) dX8_statement_195 rfl ?_
                    refine x_iconst (v := 1) dX8_statement_197 rfl ?_
                    refine x_iast dX8_statement_198 k47 (xb_at n48 (by decide)) rfl ?_
                    obtain ⟨N49, eN49, h⟩ := x_lt h
                    refine x_nmN eN49 ?_
                    refine x_aload_n 0 dX8_statement_199 rfl rfl ?_
                    obtain ⟨N51, q50, h⟩ := x_bd1 h
                    refine x_cv (b := a0) (As := []) (ci := 8) (d' := 33) (zz := yX8_sum) dX8_statement_200 ml_X8_107 wi_X8_sum wv_X8_sum wn_X8 wc_X8_sum hp_X8_sum (by decide) (by decide) rfl (Nat.le_of_ble_eq_true rfl) ⟨Nat.zero_le _, Nat.zero_le _⟩ rfl k100 (T_X8_S0 (G := G) hw k100 24 q50) ?_
                    refine x_goto (tgt := 213) dX8_statement_203 (by decide) ?_
                    refine x_aload_n 0 dX8_statement_213 rfl rfl ?_
                    refine x_bipush (v := 59) dX8_statement_214 rfl ?_
                    obtain ⟨N53, q52, h⟩ := x_bd1 h
                    refine x_cv (b := a0) (As := [.int 59]) (ci := 8) (d' := 3) (zz := yX8_expect) dX8_statement_216 ml_X8_110 wi_X8_expect wv_X8_expect wn_X8 wc_X8_expect hp_X8_expect (by decide) (by decide) rfl (Nat.le_of_ble_eq_true rfl) ⟨Nat.zero_le _, Nat.zero_le _⟩ rfl k100 (T_X8_expect (G := G) hw k100 q52) ?_
                    obtain rfl := x_so h
                    exact x_vret dX8_statement_219 rfl rfl rfl
                · refine x_if_eq_f (tgt := 176) dX8_statement_159 (by decide) c35 ?_
                  refine x_aload_n 0 dX8_statement_162 rfl rfl ?_
                  refine x_iconst (v := 4) dX8_statement_163 rfl ?_
                  refine x_iload_n 1 dX8_statement_164 rfl rfl ?_
                  refine x_bipush (v := 9) dX8_statement_165 rfl ?_
                  refine x_iconst (v := 0) dX8_statement_167 rfl ?_
                  refine x_bipush (v := 99) dX8_statement_168 rfl ?_
                  obtain ⟨N55, q54, h⟩ := x_bd1 h
                  refine x_cv (b := a0) (As := [.int 4, .int (gi N3 a0 4), .int 9, .int 0, .int 99]) (ci := 8) (d' := 4) (zz := yX8_readOnce) dX8_statement_170 ml_X8_167 wi_X8_readOnce wv_X8_readOnce wn_X8 wc_X8_readOnce hp_X8_readOnce (by decide) (by decide) rfl (Nat.le_of_ble_eq_true rfl) ⟨Nat.zero_le _, Nat.zero_le _⟩ rfl k100 (T_X8_readOnce (G := G) hw k100 q54) ?_
                  refine x_goto (tgt := 213) dX8_statement_173 (by decide) ?_
                  refine x_aload_n 0 dX8_statement_213 rfl rfl ?_
                  refine x_bipush (v := 59) dX8_statement_214 rfl ?_
                  obtain ⟨N57, q56, h⟩ := x_bd1 h
                  refine x_cv (b := a0) (As := [.int 59]) (ci := 8) (d' := 3) (zz := yX8_expect) dX8_statement_216 ml_X8_110 wi_X8_expect wv_X8_expect wn_X8 wc_X8_expect hp_X8_expect (by decide) (by decide) rfl (Nat.le_of_ble_eq_true rfl) ⟨Nat.zero_le _, Nat.zero_le _⟩ rfl k100 (T_X8_expect (G := G) hw k100 q56) ?_
                  obtain rfl := x_so h
                  exact x_vret dX8_statement_219 rfl rfl rfl
              · refine x_if_eq_f (tgt := 153) dX8_statement_136 (by decide) c31 ?_
                refine x_aload_n 0 dX8_statement_139 rfl rfl ?_
                refine x_iconst (v := 3) dX8_statement_140 rfl ?_
                refine x_iload_n 1 dX8_statement_141 rfl rfl ?_
                refine x_bipush (v := 8) dX8_statement_142 rfl ?_
                refine x_iconst (v := 1) dX8_statement_144 rfl ?_
                refine x_bipush (v := 99) dX8_statement_145 rfl ?_
                obtain ⟨N59, q58, h⟩ := x_bd1 h
                refine x_cv (b := a0) (As := [.int 3, .int (gi N3 a0 4), .int 8, .int 1, .int 99]) (ci := 8) (d' := 4) (zz := yX8_readOnce) dX8_statement_147 ml_X8_167 wi_X8_readOnce wv_X8_readOnce wn_X8 wc_X8_readOnce hp_X8_readOnce (by decide) (by decide) rfl (Nat.le_of_ble_eq_true rfl) ⟨Nat.zero_le _, Nat.zero_le _⟩ rfl k100 (T_X8_readOnce (G := G) hw k100 q58) ?_
                refine x_goto (tgt := 213) dX8_statement_150 (by decide) ?_
                refine x_aload_n 0 dX8_statement_213 rfl rfl ?_
                refine x_bipush (v := 59) dX8_statement_214 rfl ?_
                obtain ⟨N61, q60, h⟩ := x_bd1 h
                refine x_cv (b := a0) (As := [.int 59]) (ci := 8) (d' := 3) (zz := yX8_expect) dX8_statement_216 ml_X8_110 wi_X8_expect wv_X8_expect wn_X8 wc_X8_expect hp_X8_expect (by decide) (by decide) rfl (Nat.le_of_ble_eq_true rfl) ⟨Nat.zero_le _, Nat.zero_le _⟩ rfl k100 (T_X8_expect (G := G) hw k100 q60) ?_
                obtain rfl := x_so h
                exact x_vret dX8_statement_219 rfl rfl rfl
            · refine x_if_eq_f (tgt := 130) dX8_statement_112 (by decide) c27 ?_
              refine x_aload_n 0 dX8_statement_115 rfl rfl ?_
              refine x_iconst (v := 2) dX8_statement_116 rfl ?_
              refine x_iload_n 1 dX8_statement_117 rfl rfl ?_
              refine x_bipush (v := 7) dX8_statement_118 rfl ?_
              refine x_iconst (v := 0) dX8_statement_120 rfl ?_
              refine x_sipush (v := 999) dX8_statement_121 rfl ?_
              obtain ⟨N63, q62, h⟩ := x_bd1 h
              refine x_cv (b := a0) (As := [.int 2, .int (gi N3 a0 4), .int 7, .int 0, .int 999]) (ci := 8) (d' := 4) (zz := yX8_readOnce) dX8_statement_124 ml_X8_167 wi_X8_readOnce wv_X8_readOnce wn_X8 wc_X8_readOnce hp_X8_readOnce (by decide) (by decide) rfl (Nat.le_of_ble_eq_true rfl) ⟨Nat.zero_le _, Nat.zero_le _⟩ rfl k100 (T_X8_readOnce (G := G) hw k100 q62) ?_
              refine x_goto (tgt := 213) dX8_statement_127 (by decide) ?_
              refine x_aload_n 0 dX8_statement_213 rfl rfl ?_
              refine x_bipush (v := 59) dX8_statement_214 rfl ?_
              obtain ⟨N65, q64, h⟩ := x_bd1 h
              refine x_cv (b := a0) (As := [.int 59]) (ci := 8) (d' := 3) (zz := yX8_expect) dX8_statement_216 ml_X8_110 wi_X8_expect wv_X8_expect wn_X8 wc_X8_expect hp_X8_expect (by decide) (by decide) rfl (Nat.le_of_ble_eq_true rfl) ⟨Nat.zero_le _, Nat.zero_le _⟩ rfl k100 (T_X8_expect (G := G) hw k100 q64) ?_
              obtain rfl := x_so h
              exact x_vret dX8_statement_219 rfl rfl rfl
          · refine x_if_eq_f (tgt := 106) dX8_statement_89 (by decide) c23 ?_
            refine x_aload_n 0 dX8_statement_92 rfl rfl ?_
            refine x_iconst (v := 1) dX8_statement_93 rfl ?_
            refine x_iload_n 1 dX8_statement_94 rfl rfl ?_
            refine x_bipush (v := 6) dX8_statement_95 rfl ?_
            refine x_iconst (v := 1) dX8_statement_97 rfl ?_
            refine x_bipush (v := 99) dX8_statement_98 rfl ?_
            obtain ⟨N67, q66, h⟩ := x_bd1 h
            refine x_cv (b := a0) (As := [.int 1, .int (gi N3 a0 4), .int 6, .int 1, .int 99]) (ci := 8) (d' := 4) (zz := yX8_readOnce) dX8_statement_100 ml_X8_167 wi_X8_readOnce wv_X8_readOnce wn_X8 wc_X8_readOnce hp_X8_readOnce (by decide) (by decide) rfl (Nat.le_of_ble_eq_true rfl) ⟨Nat.zero_le _, Nat.zero_le _⟩ rfl k100 (T_X8_readOnce (G := G) hw k100 q66) ?_
            refine x_goto (tgt := 213) dX8_statement_103 (by decide) ?_
            refine x_aload_n 0 dX8_statement_213 rfl rfl ?_
            refine x_bipush (v := 59) dX8_statement_214 rfl ?_
            obtain ⟨N69, q68, h⟩ := x_bd1 h
            refine x_cv (b := a0) (As := [.int 59]) (ci := 8) (d' := 3) (zz := yX8_expect) dX8_statement_216 ml_X8_110 wi_X8_expect wv_X8_expect wn_X8 wc_X8_expect hp_X8_expect (by decide) (by decide) rfl (Nat.le_of_ble_eq_true rfl) ⟨Nat.zero_le _, Nat.zero_le _⟩ rfl k100 (T_X8_expect (G := G) hw k100 q68) ?_
            obtain rfl := x_so h
            exact x_vret dX8_statement_219 rfl rfl rfl
        · refine x_if_eq_f (tgt := 83) dX8_statement_67 (by decide) c19 ?_
          refine x_aload_n 0 dX8_statement_70 rfl rfl ?_
          refine x_iconst (v := 0) dX8_statement_71 rfl ?_
          refine x_iload_n 1 dX8_statement_72 rfl rfl ?_
          refine x_iconst (v := 5) dX8_statement_73 rfl ?_
          refine x_iconst (v := 1) dX8_statement_74 rfl ?_
          refine x_bipush (v := 99) dX8_statement_75 rfl ?_
          obtain ⟨N71, q70, h⟩ := x_bd1 h
          refine x_cv (b := a0) (As := [.int 0, .int (gi N3 a0 4), .int 5, .int 1, .int 99]) (ci := 8) (d' := 4) (zz := yX8_readOnce) dX8_statement_77 ml_X8_167 wi_X8_readOnce wv_X8_readOnce wn_X8 wc_X8_readOnce hp_X8_readOnce (by decide) (by decide) rfl (Nat.le_of_ble_eq_true rfl) ⟨Nat.zero_le _, Nat.zero_le _⟩ rfl k100 (T_X8_readOnce (G := G) hw k100 q70) ?_
          refine x_goto (tgt := 213) dX8_statement_80 (by decide) ?_
          refine x_aload_n 0 dX8_statement_213 rfl rfl ?_
          refine x_bipush (v := 59) dX8_statement_214 rfl ?_
          obtain ⟨N73, q72, h⟩ := x_bd1 h
          refine x_cv (b := a0) (As := [.int 59]) (ci := 8) (d' := 3) (zz := yX8_expect) dX8_statement_216 ml_X8_110 wi_X8_expect wv_X8_expect wn_X8 wc_X8_expect hp_X8_expect (by decide) (by decide) rfl (Nat.le_of_ble_eq_true rfl) ⟨Nat.zero_le _, Nat.zero_le _⟩ rfl k100 (T_X8_expect (G := G) hw k100 q72) ?_
          obtain rfl := x_so h
          exact x_vret dX8_statement_219 rfl rfl rfl
      · refine x_if_eq_f (tgt := 61) dX8_statement_50 (by decide) c15 ?_
        refine x_aload_n 0 dX8_statement_53 rfl rfl ?_
        refine x_iload_n 1 dX8_statement_54 rfl rfl ?_
        obtain ⟨N75, q74, h⟩ := x_bd1 h
        refine x_cv (b := a0) (As := [.int (gi N3 a0 4)]) (ci := 8) (d' := 4) (zz := yX8_readRequest) dX8_statement_55 ml_X8_162 wi_X8_readRequest wv_X8_readRequest wn_X8 wc_X8_readRequest hp_X8_readRequest (by decide) (by decide) rfl (Nat.le_of_ble_eq_true rfl) ⟨Nat.zero_le _, Nat.zero_le _⟩ rfl k100 (T_X8_readRequest (G := G) hw k100 q74) ?_
        refine x_goto (tgt := 213) dX8_statement_58 (by decide) ?_
        refine x_aload_n 0 dX8_statement_213 rfl rfl ?_
        refine x_bipush (v := 59) dX8_statement_214 rfl ?_
        obtain ⟨N77, q76, h⟩ := x_bd1 h
        refine x_cv (b := a0) (As := [.int 59]) (ci := 8) (d' := 3) (zz := yX8_expect) dX8_statement_216 ml_X8_110 wi_X8_expect wv_X8_expect wn_X8 wc_X8_expect hp_X8_expect (by decide) (by decide) rfl (Nat.le_of_ble_eq_true rfl) ⟨Nat.zero_le _, Nat.zero_le _⟩ rfl k100 (T_X8_expect (G := G) hw k100 q76) ?_
        obtain rfl := x_so h
        exact x_vret dX8_statement_219 rfl rfl rfl
    · refine x_if_eq_f (tgt := 44) dX8_statement_33 (by decide) c11 ?_
      refine x_aload_n 0 dX8_statement_36 rfl rfl ?_
      refine x_iload_n 1 dX8_statement_37 rfl rfl ?_
      obtain ⟨N79, q78, h⟩ := x_bd1 h
      refine x_cv (b := a0) (As := [.int (gi N3 a0 4)]) (ci := 8) (d' := 4) (zz := yX8_readLine) dX8_statement_38 ml_X8_157 wi_X8_readLine wv_X8_readLine wn_X8 wc_X8_readLine hp_X8_readLine (by decide) (by decide) rfl (Nat.le_of_ble_eq_true rfl) ⟨Nat.zero_le _, Nat.zero_le _⟩ rfl k100 (T_X8_readLine (G := G) hw k100 q78) ?_
      refine x_goto (tgt := 213) dX8_statement_41 (by decide) ?_
      refine x_aload_n 0 dX8_statement_213 rfl rfl ?_
      refine x_bipush (v := 59) dX8_statement_214 rfl ?_
      obtain ⟨N81, q80, h⟩ := x_bd1 h
      refine x_cv (b := a0) (As := [.int 59]) (ci := 8) (d' := 3) (zz := yX8_expect) dX8_statement_216 ml_X8_110 wi_X8_expect wv_X8_expect wn_X8 wc_X8_expect hp_X8_expect (by decide) (by decide) rfl (Nat.le_of_ble_eq_true rfl) ⟨Nat.zero_le _, Nat.zero_le _⟩ rfl k100 (T_X8_expect (G := G) hw k100 q80) ?_
      obtain rfl := x_so h
      exact x_vret dX8_statement_219 rfl rfl rfl
  · refine x_if_eq_f (tgt := 27) dX8_statement_16 (by decide) c7 ?_
    refine x_aload_n 0 dX8_statement_19 rfl rfl ?_
    refine x_iload_n 1 dX8_statement_20 rfl rfl ?_
    obtain ⟨N83, q82, h⟩ := x_bd1 h
    refine x_cv (b := a0) (As := [.int (gi N3 a0 4)]) (ci := 8) (d' := 4) (zz := yX8_readHandler) dX8_statement_21 ml_X8_154 wi_X8_readHandler wv_X8_readHandler wn_X8 wc_X8_readHandler hp_X8_readHandler (by decide) (by decide) rfl (Nat.le_of_ble_eq_true rfl) ⟨Nat.zero_le _, Nat.zero_le _⟩ rfl k100 (T_X8_readHandler (G := G) hw k100 q82) ?_
    refine x_goto (tgt := 213) dX8_statement_24 (by decide) ?_
    refine x_aload_n 0 dX8_statement_213 rfl rfl ?_
    refine x_bipush (v := 59) dX8_statement_214 rfl ?_
    obtain ⟨N85, q84, h⟩ := x_bd1 h
    refine x_cv (b := a0) (As := [.int 59]) (ci := 8) (d' := 3) (zz := yX8_expect) dX8_statement_216 ml_X8_110 wi_X8_expect wv_X8_expect wn_X8 wc_X8_expect hp_X8_expect (by decide) (by decide) rfl (Nat.le_of_ble_eq_true rfl) ⟨Nat.zero_le _, Nat.zero_le _⟩ rfl k100 (T_X8_expect (G := G) hw k100 q84) ?_
    obtain rfl := x_so h
    exact x_vret dX8_statement_219 rfl rfl rfl
set_option maxHeartbeats 4000000 in
set_option maxRecDepth 100000 in
theorem T_X8_remember_11 {G : XG} {Y : XY} (hw : WT Y) {N9 : XN}: ∀ (D9 : Nat) (p_0 : Nat) (v_1 : Int32) (N : XN), kc Y p_0 = 18 → f_X8_remember_11 Y D9 p_0 v_1 N = some N9 → Ex G yX8_remember cX8_remember 2 none (xR 2 0 0) (.inl none) Y N9 0 0 11 [(0, .ref p_0), (1, .int v_1)] [] Y N := by
  intro D9
  induction D9 with
  | zero => intro p_0 v_1 N kk0 h; exact nomatch (show none = some N9 from h)
  | succ D9 ih =>
    intro p_0 v_1 N kk0 h
    rw [f_X8_remember_11] at h
    refine x_iload_n 1 dX8_remember_11 rfl rfl ?_
    refine x_bipush (v := 8) dX8_remember_12 rfl ?_
    rcases x_if h with ⟨c1, h⟩ | ⟨c1, h⟩
    · refine x_icmp_ge_t (tgt := 43) dX8_remember_14 (by decide) c1 ?_
      refine x_aload_n 0 dX8_remember_43 rfl rfl ?_
      refine x_dup dX8_remember_44 rfl ?_
      refine x_geti dX8_remember_45 (ci := 8) (f := 13) (M := 19) (C9 := RX8) (T9 := TX8) rfl xin8 (by decide) fl_X8_320 rfl kk0 ?_
      refine x_iconst (v := 1) dX8_remember_48 rfl ?_
      refine x_isub dX8_remember_49 ?_
      refine x_puti dX8_remember_50 (ci := 8) (f := 13) (M := 19) (C9 := RX8) (T9 := TX8) rfl xin8 tyX8_ok nmX8 (by decide) fl_X8_320 rfl rfl rfl rfl kk0 ?_
      obtain ⟨N2, eN2, h⟩ := x_lt h
      refine x_nmN eN2 ?_
      refine x_aload_n 0 dX8_remember_53 rfl rfl ?_
      obtain ⟨g3, k4, n5⟩ := wt_X8_8 hw kk0
      refine x_getr dX8_remember_54 (ci := 8) (f := 8) (M := 19) (C9 := RX8) (T9 := TX8) rfl xin8 (by decide) fl_X8_17 rfl kk0 g3 ?_
      refine x_aload_n 0 dX8_remember_57 rfl rfl ?_
      obtain ⟨g6, k7, n8⟩ := wt_X8_12 hw kk0
      refine x_getr dX8_remember_58 (ci := 8) (f := 12) (M := 19) (C9 := RX8) (T9 := TX8) rfl xin8 (by decide) fl_X8_31 rfl kk0 g6 ?_
      refine x_aload_n 0 dX8_remember_61 rfl rfl ?_
      refine x_geti dX8_remember_62 (ci := 8) (f := 13) (M := 19) (C9 := RX8) (T9 := TX8) rfl xin8 (by decide) fl_X8_320 rfl kk0 ?_
      obtain ⟨c9, h⟩ := x_ck h
      obtain ⟨g10, k11, n12⟩ := wt_8 hw k7 (xb_at n8 c9)
      refine x_aald (j := 4) dX8_remember_65 (by decide) k7 (xb_at n8 c9) g10 ?_
      refine x_sipush (v := 1784) dX8_remember_66 rfl ?_
      obtain ⟨N14, q13, h⟩ := x_bd1 h
      refine x_cs (As := [.ref (gp Y p_0 8), .ref (gp Y (gp Y p_0 12) (gi N2 p_0 13).toNatClampNeg), .int 1784]) (d' := 1) (zz := yX8_copy) dX8_remember_69 ml_X8_193 wt_X8_copy wn_X8 wc_X8_copy hp_X8_copy (by decide) (by decide) rfl (Nat.le_of_ble_eq_true rfl) ⟨Nat.zero_le _, Nat.zero_le _⟩ (T_X8_copy (G := G) hw k4 k11 q13) ?_
      refine x_aload_n 0 dX8_remember_72 rfl rfl ?_
      refine x_dup dX8_remember_73 rfl ?_
      refine x_geti dX8_remember_74 (ci := 8) (f := 13) (M := 19) (C9 := RX8) (T9 := TX8) rfl xin8 (by decide) fl_X8_320 rfl kk0 ?_
      refine x_iconst (v := 1) dX8_remember_77 rfl ?_
      refine x_iadd dX8_remember_78 ?_
      refine x_puti dX8_remember_79 (ci := 8) (f := 13) (M := 19) (C9 := RX8) (T9 := TX8) rfl xin8 tyX8_ok nmX8 (by decide) fl_X8_320 rfl rfl rfl rfl kk0 ?_
      obtain ⟨N15, eN15, h⟩ := x_lt h
      refine x_nmN eN15 ?_
      obtain rfl := x_so h
      exact x_vret dX8_remember_82 rfl rfl rfl
    · refine x_icmp_ge_f (tgt := 43) dX8_remember_14 (by decide) c1 ?_
      refine x_aload_n 0 dX8_remember_17 rfl rfl ?_
      obtain ⟨g16, k17, n18⟩ := wt_X8_12 hw kk0
      refine x_getr dX8_remember_18 (ci := 8) (f := 12) (M := 19) (C9 := RX8) (T9 := TX8) rfl xin8 (by decide) fl_X8_31 rfl kk0 g16 ?_
      refine x_iload_n 1 dX8_remember_21 rfl rfl ?_
      obtain ⟨c19, h⟩ := x_ck h
      obtain ⟨g20, k21, n22⟩ := wt_8 hw k17 (xb_at n18 c19)
      refine x_aald (j := 4) dX8_remember_22 (by decide) k17 (xb_at n18 c19) g20 ?_
      refine x_aload_n 0 dX8_remember_23 rfl rfl ?_
      refine x_getr dX8_remember_24 (ci := 8) (f := 12) (M := 19) (C9 := RX8) (T9 := TX8) rfl xin8 (by decide) fl_X8_31 rfl kk0 g16 ?_
      refine x_iload_n 1 dX8_remember_27 rfl rfl ?_
      refine x_iconst (v := 1) dX8_remember_28 rfl ?_
      refine x_isub dX8_remember_29 ?_
      obtain ⟨c23, h⟩ := x_ck h
      obtain ⟨g24, k25, n26⟩ := wt_8 hw k17 (xb_at n18 c23)
      refine x_aald (j := 4) dX8_remember_30 (by decide) k17 (xb_at n18 c23) g24 ?_
      refine x_sipush (v := 1784) dX8_remember_31 rfl ?_
      obtain ⟨N28, q27, h⟩ := x_bd1 h
      refine x_cs (As := [.ref (gp Y (gp Y p_0 12) v_1.toNatClampNeg), .ref (gp Y (gp Y p_0 12) (v_1 - 1).toNatClampNeg), .int 1784]) (d' := 1) (zz := yX8_copy) dX8_remember_34 ml_X8_193 wt_X8_copy wn_X8 wc_X8_copy hp_X8_copy (by decide) (by decide) rfl (Nat.le_of_ble_eq_true rfl) ⟨Nat.zero_le _, Nat.zero_le _⟩ (T_X8_copy (G := G) hw k21 k25 q27) ?_
      refine x_iinc 1 [1, 0] dX8_remember_37 rfl rfl (by decide) rfl ?_
      refine x_goto (tgt := 11) dX8_remember_40 (by decide) ?_
      exact ih p_0 (v_1 + 1) N28 kk0 h
set_option maxHeartbeats 4000000 in
set_option maxRecDepth 100000 in
theorem T_X8_remember {G : XG} {Y : XY} (hw : WT Y) {a0 : Nat} {N : XN} (k100 : kc Y a0 = 18) {N9 : XN} (h : f_X8_remember Y a0 N = some N9) : Cl G yX8_remember cX8_remember 2 none (xR 2 0 0) [.ref a0] (.inl none) Y N Y N9 := by
  refine x_entry (by decide) (Nat.le_of_ble_eq_true rfl) rfl ?_
  rw [f_X8_remember] at h
  refine x_aload_n 0 dX8_remember_0 rfl rfl ?_
  refine x_geti dX8_remember_1 (ci := 8) (f := 13) (M := 19) (C9 := RX8) (T9 := TX8) rfl xin8 (by decide) fl_X8_320 rfl k100 ?_
  refine x_bipush (v := 8) dX8_remember_4 rfl ?_
  rcases x_if h with ⟨c1, h⟩ | ⟨c1, h⟩
  · refine x_icmp_ne_f (tgt := 53) dX8_remember_6 (by decide) c1 ?_
    refine x_iconst (v := 1) dX8_remember_9 rfl ?_
    refine x_istore_n [1, 0] dX8_remember_10 rfl (by decide) rfl ?_
    exact T_X8_remember_11 (G := G) hw FU a0 1 N k100 h
  · refine x_icmp_ne_t (tgt := 53) dX8_remember_6 (by decide) c1 ?_
    refine x_aload_n 0 dX8_remember_53 rfl rfl ?_
    obtain ⟨g2, k3, n4⟩ := wt_X8_8 hw k100
    refine x_getr dX8_remember_54 (ci := 8) (f := 8) (M := 19) (C9 := RX8) (T9 := TX8) rfl xin8 (by decide) fl_X8_17 rfl k100 g2 ?_
    refine x_aload_n 0 dX8_remember_57 rfl rfl ?_
    obtain ⟨g5, k6, n7⟩ := wt_X8_12 hw k100
    refine x_getr dX8_remember_58 (ci := 8) (f := 12) (M := 19) (C9 := RX8) (T9 := TX8) rfl xin8 (by decide) fl_X8_31 rfl k100 g5 ?_
    refine x_aload_n 0 dX8_remember_61 rfl rfl ?_
    refine x_geti dX8_remember_62 (ci := 8) (f := 13) (M := 19) (C9 := RX8) (T9 := TX8) rfl xin8 (by decide) fl_X8_320 rfl k100 ?_
    obtain ⟨c8, h⟩ := x_ck h
    obtain ⟨g9, k10, n11⟩ := wt_8 hw k6 (xb_at n7 c8)
    refine x_aald (j := 4) dX8_remember_65 (by decide) k6 (xb_at n7 c8) g9 ?_
    refine x_sipush (v := 1784) dX8_remember_66 rfl ?_
    obtain ⟨N13, q12, h⟩ := x_bd1 h
    refine x_cs (As := [.ref (gp Y a0 8), .ref (gp Y (gp Y a0 12) (gi N a0 13).toNatClampNeg), .int 1784]) (d' := 1) (zz := yX8_copy) dX8_remember_69 ml_X8_193 wt_X8_copy wn_X8 wc_X8_copy hp_X8_copy (by decide) (by decide) rfl (Nat.le_of_ble_eq_true rfl) ⟨Nat.zero_le _, Nat.zero_le _⟩ (T_X8_copy (G := G) hw k3 k10 q12) ?_
    refine x_aload_n 0 dX8_remember_72 rfl rfl ?_
    refine x_dup dX8_remember_73 rfl ?_
    refine x_geti dX8_remember_74 (ci := 8) (f := 13) (M := 19) (C9 := RX8) (T9 := TX8) rfl xin8 (by decide) fl_X8_320 rfl k100 ?_
    refine x_iconst (v := 1) dX8_remember_77 rfl ?_
    refine x_iadd dX8_remember_78 ?_
    refine x_puti dX8_remember_79 (ci := 8) (f := 13) (M := 19) (C9 := RX8) (T9 := TX8) rfl xin8 tyX8_ok nmX8 (by decide) fl_X8_320 rfl rfl rfl rfl k100 ?_
    obtain ⟨N14, eN14, h⟩ := x_lt h
    refine x_nmN eN14 ?_
    obtain rfl := x_so h
    exact x_vret dX8_remember_82 rfl rfl rfl
set_option maxHeartbeats 4000000 in
set_option maxRecDepth 100000 in
theorem T_X8_load_99 {G : XG} {Y : XY} (hw : WT Y) {r9 : Int32} {N9 : XN}: ∀ (D9 : Nat) (p_0 : Nat) (N : XN), kc Y p_0 = 18 → f_X8_load_99 Y D9 p_0 N = some (r9, N9) → Ex G yX8_load cX8_load 2 (some .int) (xR 35 0 0) (.inl (some (.int r9))) Y N9 0 0 99 [(0, .ref p_0)] [] Y N := by
  intro D9
  induction D9 with
  | zero => intro p_0 N kk0 h; exact nomatch (show none = some (r9, N9) from h)
  | succ D9 ih =>
    intro p_0 N kk0 h
    rw [f_X8_load_99] at h
    refine x_aload_n 0 dX8_load_99 rfl rfl ?_
    refine x_cv (b := p_0) (As := []) (ci := 8) (d' := 1) (zz := yX8_isGood) dX8_load_100 ml_X8_71 wi_X8_isGood wv_X8_isGood wn_X8 wc_X8_isGood hp_X8_isGood (by decide) (by decide) rfl (Nat.le_of_ble_eq_true rfl) ⟨Nat.zero_le _, Nat.zero_le _⟩ rfl kk0 (T_X8_isGood (G := G) hw kk0 rfl) ?_
    rcases x_if h with ⟨c1, h⟩ | ⟨c1, h⟩
    · refine x_if_eq_t (tgt := 121) dX8_load_103 (by decide) c1 ?_
      refine x_aload_n 0 dX8_load_121 rfl rfl ?_
      refine x_aload_n 0 dX8_load_122 rfl rfl ?_
      refine x_geti dX8_load_123 (ci := 8) (f := 6) (M := 19) (C9 := RX8) (T9 := TX8) rfl xin8 (by decide) fl_X8_64 rfl kk0 ?_
      refine x_puti dX8_load_126 (ci := 8) (f := 7) (M := 19) (C9 := RX8) (T9 := TX8) rfl xin8 tyX8_ok nmX8 (by decide) fl_X8_13 rfl rfl rfl rfl kk0 ?_
      obtain ⟨N2, eN2, h⟩ := x_lt h
      refine x_nmN eN2 ?_
      refine x_aload_n 0 dX8_load_129 rfl rfl ?_
      refine x_cv (b := p_0) (As := []) (ci := 8) (d' := 1) (zz := yX8_isGood) dX8_load_130 ml_X8_71 wi_X8_isGood wv_X8_isGood wn_X8 wc_X8_isGood hp_X8_isGood (by decide) (by decide) rfl (Nat.le_of_ble_eq_true rfl) ⟨Nat.zero_le _, Nat.zero_le _⟩ rfl kk0 (T_X8_isGood (G := G) hw kk0 rfl) ?_
      rcases x_if h with ⟨c3, h⟩ | ⟨c3, h⟩
      · refine x_if_ne_f (tgt := 141) dX8_load_133 (by decide) c3 ?_
        refine x_aload_n 0 dX8_load_136 rfl rfl ?_
        refine x_geti dX8_load_137 (ci := 8) (f := 5) (M := 19) (C9 := RX8) (T9 := TX8) rfl xin8 (by decide) fl_X8_61 rfl kk0 ?_
        obtain ⟨rfl, rfl⟩ := Prod.mk.inj (x_so h)
        exact x_iret dX8_load_140 rfl rfl rfl
      · refine x_if_ne_t (tgt := 141) dX8_load_133 (by decide) c3 ?_
        refine x_aload_n 0 dX8_load_141 rfl rfl ?_
        obtain ⟨N5, q4, h⟩ := x_bd1 h
        refine x_cv (b := p_0) (As := []) (ci := 8) (d' := 2) (zz := yX8_remember) dX8_load_142 ml_X8_190 wi_X8_remember wv_X8_remember wn_X8 wc_X8_remember hp_X8_remember (by decide) (by decide) rfl (Nat.le_of_ble_eq_true rfl) ⟨Nat.zero_le _, Nat.zero_le _⟩ rfl kk0 (T_X8_remember (G := G) hw kk0 q4) ?_
        refine x_aload_n 0 dX8_load_145 rfl rfl ?_
        obtain ⟨g6, k7, n8⟩ := wt_X8_9 hw kk0
        refine x_getr dX8_load_146 (ci := 8) (f := 9) (M := 19) (C9 := RX8) (T9 := TX8) rfl xin8 (by decide) fl_X8_20 rfl kk0 g6 ?_
        refine x_aload_n 0 dX8_load_149 rfl rfl ?_
        obtain ⟨g9, k10, n11⟩ := wt_X8_8 hw kk0
        refine x_getr dX8_load_150 (ci := 8) (f := 8) (M := 19) (C9 := RX8) (T9 := TX8) rfl xin8 (by decide) fl_X8_17 rfl kk0 g9 ?_
        refine x_sipush (v := 1784) dX8_load_153 rfl ?_
        obtain ⟨N13, q12, h⟩ := x_bd1 h
        refine x_cs (As := [.ref (gp Y p_0 9), .ref (gp Y p_0 8), .int 1784]) (d' := 1) (zz := yX8_copy) dX8_load_156 ml_X8_193 wt_X8_copy wn_X8 wc_X8_copy hp_X8_copy (by decide) (by decide) rfl (Nat.le_of_ble_eq_true rfl) ⟨Nat.zero_le _, Nat.zero_le _⟩ (T_X8_copy (G := G) hw k7 k10 q12) ?_
        refine x_aload_n 0 dX8_load_159 rfl rfl ?_
        refine x_getr dX8_load_160 (ci := 8) (f := 8) (M := 19) (C9 := RX8) (T9 := TX8) rfl xin8 (by decide) fl_X8_17 rfl kk0 g9 ?_
        refine x_iconst (v := 3) dX8_load_163 rfl ?_
        refine x_iald dX8_load_164 k10 (xb_at n11 (by decide)) rfl ?_
        obtain ⟨rfl, rfl⟩ := Prod.mk.inj (x_so h)
        exact x_iret dX8_load_165 rfl rfl rfl
    · refine x_if_eq_f (tgt := 121) dX8_load_103 (by decide) c1 ?_
      refine x_aload_n 0 dX8_load_106 rfl rfl ?_
      obtain ⟨r15, N16, q14, h⟩ := x_bd2 h
      refine x_cv (b := p_0) (As := []) (ci := 8) (d' := 2) (zz := yX8_next) dX8_load_107 ml_X8_75 wi_X8_next wv_X8_next wn_X8 wc_X8_next hp_X8_next (by decide) (by decide) rfl (Nat.le_of_ble_eq_true rfl) ⟨Nat.zero_le _, Nat.zero_le _⟩ rfl kk0 (T_X8_next (G := G) hw kk0 q14) ?_
      refine x_iconst (v := (-1)) dX8_load_110 rfl ?_
      rcases x_if h with ⟨c17, h⟩ | ⟨c17, h⟩
      · refine x_icmp_eq_t (tgt := 121) dX8_load_111 (by decide) c17 ?_
        refine x_aload_n 0 dX8_load_121 rfl rfl ?_
        refine x_aload_n 0 dX8_load_122 rfl rfl ?_
        refine x_geti dX8_load_123 (ci := 8) (f := 6) (M := 19) (C9 := RX8) (T9 := TX8) rfl xin8 (by decide) fl_X8_64 rfl kk0 ?_
        refine x_puti dX8_load_126 (ci := 8) (f := 7) (M := 19) (C9 := RX8) (T9 := TX8) rfl xin8 tyX8_ok nmX8 (by decide) fl_X8_13 rfl rfl rfl rfl kk0 ?_
        obtain ⟨N18, eN18, h⟩ := x_lt h
        refine x_nmN eN18 ?_
        refine x_aload_n 0 dX8_load_129 rfl rfl ?_
        refine x_cv (b := p_0) (As := []) (ci := 8) (d' := 1) (zz := yX8_isGood) dX8_load_130 ml_X8_71 wi_X8_isGood wv_X8_isGood wn_X8 wc_X8_isGood hp_X8_isGood (by decide) (by decide) rfl (Nat.le_of_ble_eq_true rfl) ⟨Nat.zero_le _, Nat.zero_le _⟩ rfl kk0 (T_X8_isGood (G := G) hw kk0 rfl) ?_
        rcases x_if h with ⟨c19, h⟩ | ⟨c19, h⟩
        · refine x_if_ne_f (tgt := 141) dX8_load_133 (by decide) c19 ?_
          refine x_aload_n 0 dX8_load_136 rfl rfl ?_
          refine x_geti dX8_load_137 (ci := 8) (f := 5) (M := 19) (C9 := RX8) (T9 := TX8) rfl xin8 (by decide) fl_X8_61 rfl kk0 ?_
          obtain ⟨rfl, rfl⟩ := Prod.mk.inj (x_so h)
          exact x_iret dX8_load_140 rfl rfl rfl
        · refine x_if_ne_t (tgt := 141) dX8_load_133 (by decide) c19 ?_
          refine x_aload_n 0 dX8_load_141 rfl rfl ?_
          obtain ⟨N21, q20, h⟩ := x_bd1 h
          refine x_cv (b := p_0) (As := []) (ci := 8) (d' := 2) (zz := yX8_remember) dX8_load_142 ml_X8_190 wi_X8_remember wv_X8_remember wn_X8 wc_X8_remember hp_X8_remember (by decide) (by decide) rfl (Nat.le_of_ble_eq_true rfl) ⟨Nat.zero_le _, Nat.zero_le _⟩ rfl kk0 (T_X8_remember (G := G) hw kk0 q20) ?_
          refine x_aload_n 0 dX8_load_145 rfl rfl ?_
          obtain ⟨g22, k23, n24⟩ := wt_X8_9 hw kk0
          refine x_getr dX8_load_146 (ci := 8) (f := 9) (M := 19) (C9 := RX8) (T9 := TX8) rfl xin8 (by decide) fl_X8_20 rfl kk0 g22 ?_
          refine x_aload_n 0 dX8_load_149 rfl rfl ?_
          obtain ⟨g25, k26, n27⟩ := wt_X8_8 hw kk0
          refine x_getr dX8_load_150 (ci := 8) (f := 8) (M := 19) (C9 := RX8) (T9 := TX8) rfl xin8 (by decide) fl_X8_17 rfl kk0 g25 ?_
          refine x_sipush (v := 1784) dX8_load_153 rfl ?_
          obtain ⟨N29, q28, h⟩ := x_bd1 h
          refine x_cs (As := [.ref (gp Y p_0 9), .ref (gp Y p_0 8), .int 1784]) (d' := 1) (zz := yX8_copy) dX8_load_156 ml_X8_193 wt_X8_copy wn_X8 wc_X8_copy hp_X8_copy (by decide) (by decide) rfl (Nat.le_of_ble_eq_true rfl) ⟨Nat.zero_le _, Nat.zero_le _⟩ (T_X8_copy (G := G) hw k23 k26 q28) ?_
          refine x_aload_n 0 dX8_load_159 rfl rfl ?_
          refine x_getr dX8_load_160 (ci := 8) (f := 8) (M := 19) (C9 := RX8) (T9 := TX8) rfl xin8 (by decide) fl_X8_17 rfl kk0 g25 ?_
          refine x_iconst (v := 3) dX8_load_163 rfl ?_
          refine x_iald dX8_load_164 k26 (xb_at n27 (by decide)) rfl ?_
          obtain ⟨rfl, rfl⟩ := Prod.mk.inj (x_so h)
          exact x_iret dX8_load_165 rfl rfl rfl
      · refine x_icmp_eq_f (tgt := 121) dX8_load_111 (by decide) c17 ?_
        refine x_aload_n 0 dX8_load_114 rfl rfl ?_
        obtain ⟨N31, q30, h⟩ := x_bd1 h
        refine x_cv (b := p_0) (As := []) (ci := 8) (d' := 34) (zz := yX8_statement) dX8_load_115 ml_X8_187 wi_X8_statement wv_X8_statement wn_X8 wc_X8_statement hp_X8_statement (by decide) (by decide) rfl (Nat.le_of_ble_eq_true rfl) ⟨Nat.zero_le _, Nat.zero_le _⟩ rfl kk0 (T_X8_statement (G := G) hw kk0 q30) ?_
        refine x_goto (tgt := 99) dX8_load_118 (by decide) ?_
        exact ih p_0 N31 kk0 h
set_option maxHeartbeats 4000000 in
set_option maxRecDepth 100000 in
theorem T_X8_load {G : XG} {Y : XY} (hw : WT Y) {a0 : Nat} {a1 : Int32} {N : XN} (k100 : kc Y a0 = 18) {r9 : Int32} {N9 : XN} (h : f_X8_load Y a0 a1 N = some (r9, N9)) : Cl G yX8_load cX8_load 2 (some .int) (xR 35 0 0) [.ref a0, .int a1] (.inl (some (.int r9))) Y N Y N9 := by
  refine x_entry (by decide) (Nat.le_of_ble_eq_true rfl) rfl ?_
  rw [f_X8_load] at h
  refine x_aload_n 0 dX8_load_0 rfl rfl ?_
  refine x_iconst (v := 0) dX8_load_1 rfl ?_
  refine x_puti dX8_load_2 (ci := 8) (f := 0) (M := 19) (C9 := RX8) (T9 := TX8) rfl xin8 tyX8_ok nmX8 (by decide) fl_X8_45 rfl rfl rfl rfl k100 ?_
  obtain ⟨N1, eN1, h⟩ := x_lt h
  refine x_nmN eN1 ?_
  refine x_aload_n 0 dX8_load_5 rfl rfl ?_
  refine x_iload_n 1 dX8_load_6 rfl rfl ?_
  refine x_iconst (v := 0) dX8_load_7 rfl ?_
  refine x_aload_n 0 dX8_load_8 rfl rfl ?_
  refine x_geti dX8_load_9 (ci := 8) (f := 2) (M := 19) (C9 := RX8) (T9 := TX8) rfl xin8 (by decide) fl_X8_48 rfl k100 ?_
  refine x_cs (As := [.int a1, .int 0, .int (gi N1 a0 2)]) (d' := 1) (zz := yX8_in) dX8_load_12 ml_X8_67 wt_X8_in wn_X8 wc_X8_in hp_X8_in (by decide) (by decide) rfl (Nat.le_of_ble_eq_true rfl) ⟨Nat.zero_le _, Nat.zero_le _⟩ (T_X8_in (G := G) hw  rfl) ?_
  rcases x_if h with ⟨c2, h⟩ | ⟨c2, h⟩
  · refine x_if_ne_f (tgt := 22) dX8_load_15 (by decide) c2 ?_
    refine x_iconst (v := 1) dX8_load_18 rfl ?_
    refine x_goto (tgt := 23) dX8_load_19 (by decide) ?_
    refine x_iconst (v := 1) dX8_load_23 rfl ?_
    obtain ⟨r4, N5, q3, h⟩ := x_bd2 h
    refine x_cv (b := a0) (As := [.int 1, .int 1]) (ci := 8) (d' := 1) (zz := yX8_fails) dX8_load_24 ml_X8_181 wi_X8_fails wv_X8_fails wn_X8 wc_X8_fails hp_X8_fails (by decide) (by decide) rfl (Nat.le_of_ble_eq_true rfl) ⟨Nat.zero_le _, Nat.zero_le _⟩ rfl k100 (T_X8_fails (G := G) hw k100 q3) ?_
    rcases x_if h with ⟨c6, h⟩ | ⟨c6, h⟩
    · refine x_if_eq_t (tgt := 32) dX8_load_27 (by decide) c6 ?_
      refine x_aload_n 0 dX8_load_32 rfl rfl ?_
      refine x_iconst (v := 0) dX8_load_33 rfl ?_
      refine x_puti dX8_load_34 (ci := 8) (f := 2) (M := 19) (C9 := RX8) (T9 := TX8) rfl xin8 tyX8_ok nmX8 (by decide) fl_X8_48 rfl rfl rfl rfl k100 ?_
      obtain ⟨N7, eN7, h⟩ := x_lt h
      refine x_nmN eN7 ?_
      refine x_aload_n 0 dX8_load_37 rfl rfl ?_
      refine x_iload_n 1 dX8_load_38 rfl rfl ?_
      refine x_puti dX8_load_39 (ci := 8) (f := 3) (M := 19) (C9 := RX8) (T9 := TX8) rfl xin8 tyX8_ok nmX8 (by decide) fl_X8_51 rfl rfl rfl rfl k100 ?_
      obtain ⟨N8, eN8, h⟩ := x_lt h
      refine x_nmN eN8 ?_
      refine x_aload_n 0 dX8_load_42 rfl rfl ?_
      refine x_iconst (v := 0) dX8_load_43 rfl ?_
      refine x_puti dX8_load_44 (ci := 8) (f := 4) (M := 19) (C9 := RX8) (T9 := TX8) rfl xin8 tyX8_ok nmX8 (by decide) fl_X8_54 rfl rfl rfl rfl k100 ?_
      obtain ⟨N9, eN9, h⟩ := x_lt h
      refine x_nmN eN9 ?_
      refine x_aload_n 0 dX8_load_47 rfl rfl ?_
      refine x_iconst (v := 0) dX8_load_48 rfl ?_
      refine x_puti dX8_load_49 (ci := 8) (f := 5) (M := 19) (C9 := RX8) (T9 := TX8) rfl xin8 tyX8_ok nmX8 (by decide) fl_X8_61 rfl rfl rfl rfl k100 ?_
      obtain ⟨N10, eN10, h⟩ := x_lt h
      refine x_nmN eN10 ?_
      refine x_aload_n 0 dX8_load_52 rfl rfl ?_
      refine x_iconst (v := (-1)) dX8_load_53 rfl ?_
      refine x_puti dX8_load_54 (ci := 8) (f := 6) (M := 19) (C9 := RX8) (T9 := TX8) rfl xin8 tyX8_ok nmX8 (by decide) fl_X8_64 rfl rfl rfl rfl k100 ?_
      obtain ⟨N11, eN11, h⟩ := x_lt h
      refine x_nmN eN11 ?_
      refine x_aload_n 0 dX8_load_57 rfl rfl ?_
      refine x_iconst (v := 0) dX8_load_58 rfl ?_
      refine x_puti dX8_load_59 (ci := 8) (f := 15) (M := 19) (C9 := RX8) (T9 := TX8) rfl xin8 tyX8_ok nmX8 (by decide) fl_X8_104 rfl rfl rfl rfl k100 ?_
      obtain ⟨N12, eN12, h⟩ := x_lt h
      refine x_nmN eN12 ?_
      refine x_aload_n 0 dX8_load_62 rfl rfl ?_
      refine x_iconst (v := 0) dX8_load_63 rfl ?_
      refine x_puti dX8_load_64 (ci := 8) (f := 16) (M := 19) (C9 := RX8) (T9 := TX8) rfl xin8 tyX8_ok nmX8 (by decide) fl_X8_138 rfl rfl rfl rfl k100 ?_
      obtain ⟨N13, eN13, h⟩ := x_lt h
      refine x_nmN eN13 ?_
      refine x_aload_n 0 dX8_load_67 rfl rfl ?_
      obtain ⟨g14, k15, n16⟩ := wt_X8_9 hw k100
      refine x_getr dX8_load_68 (ci := 8) (f := 9) (M := 19) (C9 := RX8) (T9 := TX8) rfl xin8 (by decide) fl_X8_20 rfl k100 g14 ?_
      obtain ⟨N18, q17, h⟩ := x_bd1 h
      refine x_cs (As := [.ref (gp Y a0 9)]) (d' := 1) (zz := yX8_layUsual) dX8_load_71 ml_X8_41 wt_X8_layUsual wn_X8 wc_X8_layUsual hp_X8_layUsual (by decide) (by decide) rfl (Nat.le_of_ble_eq_true rfl) ⟨Nat.zero_le _, Nat.zero_le _⟩ (T_X8_layUsual (G := G) hw k15 q17) ?_
      refine x_aload_n 0 dX8_load_74 rfl rfl ?_
      refine x_ldcS (tx := "lines") (i := 0) dX8_load_75 (by decide) ?_
      obtain ⟨r20, N21, q19, h⟩ := x_bd2 h
      refine x_cv (b := a0) (As := [.ref (xS G 0)]) (ci := 8) (d' := 8) (zz := yX8_takeWord) dX8_load_77 ml_X8_116 wi_X8_takeWord wv_X8_takeWord wn_X8 wc_X8_takeWord hp_X8_takeWord (by decide) (by decide) rfl (Nat.le_of_ble_eq_true rfl) ⟨Nat.zero_le _, Nat.zero_le _⟩ rfl k100 (T_X8_takeWord (G := G) hw k100 q19) ?_
      rcases x_if h with ⟨c22, h⟩ | ⟨c22, h⟩
      · refine x_if_ne_f (tgt := 93) dX8_load_80 (by decide) c22 ?_
        refine x_aload_n 0 dX8_load_83 rfl rfl ?_
        refine x_bipush (v := (-2)) dX8_load_84 rfl ?_
        refine x_aload_n 0 dX8_load_86 rfl rfl ?_
        refine x_geti dX8_load_87 (ci := 8) (f := 4) (M := 19) (C9 := RX8) (T9 := TX8) rfl xin8 (by decide) fl_X8_54 rfl k100 ?_
        obtain ⟨N24, q23, h⟩ := x_bd1 h
        refine x_cv (b := a0) (As := [.int (-2), .int (gi N21 a0 4)]) (ci := 8) (d' := 1) (zz := yX8_report) dX8_load_90 ml_X8_88 wi_X8_report wv_X8_report wn_X8 wc_X8_report hp_X8_report (by decide) (by decide) rfl (Nat.le_of_ble_eq_true rfl) ⟨Nat.zero_le _, Nat.zero_le _⟩ rfl k100 (T_X8_report (G := G) hw k100 q23) ?_
        refine x_aload_n 0 dX8_load_93 rfl rfl ?_
        refine x_bipush (v := 59) dX8_load_94 rfl ?_
        obtain ⟨N26, q25, h⟩ := x_bd1 h
        refine x_cv (b := a0) (As := [.int 59]) (ci := 8) (d' := 3) (zz := yX8_expect) dX8_load_96 ml_X8_110 wi_X8_expect wv_X8_expect wn_X8 wc_X8_expect hp_X8_expect (by decide) (by decide) rfl (Nat.le_of_ble_eq_true rfl) ⟨Nat.zero_le _, Nat.zero_le _⟩ rfl k100 (T_X8_expect (G := G) hw k100 q25) ?_
        refine x_sub [0] rfl ?_
        exact T_X8_load_99 (G := G) hw FU a0 N26 k100 h
      · refine x_if_ne_t (tgt := 93) dX8_load_80 (by decide) c22 ?_
        refine x_aload_n 0 dX8_load_93 rfl rfl ?_
        refine x_bipush (v := 59) dX8_load_94 rfl ?_
        obtain ⟨N28, q27, h⟩ := x_bd1 h
        refine x_cv (b := a0) (As := [.int 59]) (ci := 8) (d' := 3) (zz := yX8_expect) dX8_load_96 ml_X8_110 wi_X8_expect wv_X8_expect wn_X8 wc_X8_expect hp_X8_expect (by decide) (by decide) rfl (Nat.le_of_ble_eq_true rfl) ⟨Nat.zero_le _, Nat.zero_le _⟩ rfl k100 (T_X8_expect (G := G) hw k100 q27) ?_
        refine x_sub [0] rfl ?_
        exact T_X8_load_99 (G := G) hw FU a0 N28 k100 h
    · refine x_if_eq_f (tgt := 32) dX8_load_27 (by decide) c6 ?_
      refine x_iconst (v := 0) dX8_load_30 rfl ?_
      obtain ⟨rfl, rfl⟩ := Prod.mk.inj (x_so h)
      exact x_iret dX8_load_31 rfl rfl rfl
  · refine x_if_ne_t (tgt := 22) dX8_load_15 (by decide) c2 ?_
    refine x_iconst (v := 0) dX8_load_22 rfl ?_
    refine x_iconst (v := 1) dX8_load_23 rfl ?_
    obtain ⟨r30, N31, q29, h⟩ := x_bd2 h
    refine x_cv (b := a0) (As := [.int 0, .int 1]) (ci := 8) (d' := 1) (zz := yX8_fails) dX8_load_24 ml_X8_181 wi_X8_fails wv_X8_fails wn_X8 wc_X8_fails hp_X8_fails (by decide) (by decide) rfl (Nat.le_of_ble_eq_true rfl) ⟨Nat.zero_le _, Nat.zero_le _⟩ rfl k100 (T_X8_fails (G := G) hw k100 q29) ?_
    rcases x_if h with ⟨c32, h⟩ | ⟨c32, h⟩
    · refine x_if_eq_t (tgt := 32) dX8_load_27 (by decide) c32 ?_
      refine x_aload_n 0 dX8_load_32 rfl rfl ?_
      refine x_iconst (v := 0) dX8_load_33 rfl ?_
      refine x_puti dX8_load_34 (ci := 8) (f := 2) (M := 19) (C9 := RX8) (T9 := TX8) rfl xin8 tyX8_ok nmX8 (by decide) fl_X8_48 rfl rfl rfl rfl k100 ?_
      obtain ⟨N33, eN33, h⟩ := x_lt h
      refine x_nmN eN33 ?_
      refine x_aload_n 0 dX8_load_37 rfl rfl ?_
      refine x_iload_n 1 dX8_load_38 rfl rfl ?_
      refine x_puti dX8_load_39 (ci := 8) (f := 3) (M := 19) (C9 := RX8) (T9 := TX8) rfl xin8 tyX8_ok nmX8 (by decide) fl_X8_51 rfl rfl rfl rfl k100 ?_
      obtain ⟨N34, eN34, h⟩ := x_lt h
      refine x_nmN eN34 ?_
      refine x_aload_n 0 dX8_load_42 rfl rfl ?_
      refine x_iconst (v := 0) dX8_load_43 rfl ?_
      refine x_puti dX8_load_44 (ci := 8) (f := 4) (M := 19) (C9 := RX8) (T9 := TX8) rfl xin8 tyX8_ok nmX8 (by decide) fl_X8_54 rfl rfl rfl rfl k100 ?_
      obtain ⟨N35, eN35, h⟩ := x_lt h
      refine x_nmN eN35 ?_
      refine x_aload_n 0 dX8_load_47 rfl rfl ?_
      refine x_iconst (v := 0) dX8_load_48 rfl ?_
      refine x_puti dX8_load_49 (ci := 8) (f := 5) (M := 19) (C9 := RX8) (T9 := TX8) rfl xin8 tyX8_ok nmX8 (by decide) fl_X8_61 rfl rfl rfl rfl k100 ?_
      obtain ⟨N36, eN36, h⟩ := x_lt h
      refine x_nmN eN36 ?_
      refine x_aload_n 0 dX8_load_52 rfl rfl ?_
      refine x_iconst (v := (-1)) dX8_load_53 rfl ?_
      refine x_puti dX8_load_54 (ci := 8) (f := 6) (M := 19) (C9 := RX8) (T9 := TX8) rfl xin8 tyX8_ok nmX8 (by decide) fl_X8_64 rfl rfl rfl rfl k100 ?_
      obtain ⟨N37, eN37, h⟩ := x_lt h
      refine x_nmN eN37 ?_
      refine x_aload_n 0 dX8_load_57 rfl rfl ?_
      refine x_iconst (v := 0) dX8_load_58 rfl ?_
      refine x_puti dX8_load_59 (ci := 8) (f := 15) (M := 19) (C9 := RX8) (T9 := TX8) rfl xin8 tyX8_ok nmX8 (by decide) fl_X8_104 rfl rfl rfl rfl k100 ?_
      obtain ⟨N38, eN38, h⟩ := x_lt h
      refine x_nmN eN38 ?_
      refine x_aload_n 0 dX8_load_62 rfl rfl ?_
      refine x_iconst (v := 0) dX8_load_63 rfl ?_
      refine x_puti dX8_load_64 (ci := 8) (f := 16) (M := 19) (C9 := RX8) (T9 := TX8) rfl xin8 tyX8_ok nmX8 (by decide) fl_X8_138 rfl rfl rfl rfl k100 ?_
      obtain ⟨N39, eN39, h⟩ := x_lt h
      refine x_nmN eN39 ?_
      refine x_aload_n 0 dX8_load_67 rfl rfl ?_
      obtain ⟨g40, k41, n42⟩ := wt_X8_9 hw k100
      refine x_getr dX8_load_68 (ci := 8) (f := 9) (M := 19) (C9 := RX8) (T9 := TX8) rfl xin8 (by decide) fl_X8_20 rfl k100 g40 ?_
      obtain ⟨N44, q43, h⟩ := x_bd1 h
      refine x_cs (As := [.ref (gp Y a0 9)]) (d' := 1) (zz := yX8_layUsual) dX8_load_71 ml_X8_41 wt_X8_layUsual wn_X8 wc_X8_layUsual hp_X8_layUsual (by decide) (by decide) rfl (Nat.le_of_ble_eq_true rfl) ⟨Nat.zero_le _, Nat.zero_le _⟩ (T_X8_layUsual (G := G) hw k41 q43) ?_
      refine x_aload_n 0 dX8_load_74 rfl rfl ?_
      refine x_ldcS (tx := "lines") (i := 0) dX8_load_75 (by decide) ?_
      obtain ⟨r46, N47, q45, h⟩ := x_bd2 h
      refine x_cv (b := a0) (As := [.ref (xS G 0)]) (ci := 8) (d' := 8) (zz := yX8_takeWord) dX8_load_77 ml_X8_116 wi_X8_takeWord wv_X8_takeWord wn_X8 wc_X8_takeWord hp_X8_takeWord (by decide) (by decide) rfl (Nat.le_of_ble_eq_true rfl) ⟨Nat.zero_le _, Nat.zero_le _⟩ rfl k100 (T_X8_takeWord (G := G) hw k100 q45) ?_
      rcases x_if h with ⟨c48, h⟩ | ⟨c48, h⟩
      · refine x_if_ne_f (tgt := 93) dX8_load_80 (by decide) c48 ?_
        refine x_aload_n 0 dX8_load_83 rfl rfl ?_
        refine x_bipush (v := (-2)) dX8_load_84 rfl ?_
        refine x_aload_n 0 dX8_load_86 rfl rfl ?_
        refine x_geti dX8_load_87 (ci := 8) (f := 4) (M := 19) (C9 := RX8) (T9 := TX8) rfl xin8 (by decide) fl_X8_54 rfl k100 ?_
        obtain ⟨N50, q49, h⟩ := x_bd1 h
        refine x_cv (b := a0) (As := [.int (-2), .int (gi N47 a0 4)]) (ci := 8) (d' := 1) (zz := yX8_report) dX8_load_90 ml_X8_88 wi_X8_report wv_X8_report wn_X8 wc_X8_report hp_X8_report (by decide) (by decide) rfl (Nat.le_of_ble_eq_true rfl) ⟨Nat.zero_le _, Nat.zero_le _⟩ rfl k100 (T_X8_report (G := G) hw k100 q49) ?_
        refine x_aload_n 0 dX8_load_93 rfl rfl ?_
        refine x_bipush (v := 59) dX8_load_94 rfl ?_
        obtain ⟨N52, q51, h⟩ := x_bd1 h
        refine x_cv (b := a0) (As := [.int 59]) (ci := 8) (d' := 3) (zz := yX8_expect) dX8_load_96 ml_X8_110 wi_X8_expect wv_X8_expect wn_X8 wc_X8_expect hp_X8_expect (by decide) (by decide) rfl (Nat.le_of_ble_eq_true rfl) ⟨Nat.zero_le _, Nat.zero_le _⟩ rfl k100 (T_X8_expect (G := G) hw k100 q51) ?_
        refine x_sub [0] rfl ?_
        exact T_X8_load_99 (G := G) hw FU a0 N52 k100 h
      · refine x_if_ne_t (tgt := 93) dX8_load_80 (by decide) c48 ?_
        refine x_aload_n 0 dX8_load_93 rfl rfl ?_
        refine x_bipush (v := 59) dX8_load_94 rfl ?_
        obtain ⟨N54, q53, h⟩ := x_bd1 h
        refine x_cv (b := a0) (As := [.int 59]) (ci := 8) (d' := 3) (zz := yX8_expect) dX8_load_96 ml_X8_110 wi_X8_expect wv_X8_expect wn_X8 wc_X8_expect hp_X8_expect (by decide) (by decide) rfl (Nat.le_of_ble_eq_true rfl) ⟨Nat.zero_le _, Nat.zero_le _⟩ rfl k100 (T_X8_expect (G := G) hw k100 q53) ?_
        refine x_sub [0] rfl ?_
        exact T_X8_load_99 (G := G) hw FU a0 N54 k100 h
    · refine x_if_eq_f (tgt := 32) dX8_load_27 (by decide) c32 ?_
      refine x_iconst (v := 0) dX8_load_30 rfl ?_
      obtain ⟨rfl, rfl⟩ := Prod.mk.inj (x_so h)
      exact x_iret dX8_load_31 rfl rfl rfl
set_option maxHeartbeats 4000000 in
set_option maxRecDepth 100000 in
theorem T_X8_errorOffset {G : XG} {Y : XY} (hw : WT Y) {a0 : Nat} {N : XN} (k100 : kc Y a0 = 18) {r9 : Int32} {N9 : XN} (h : f_X8_errorOffset Y a0 N = some (r9, N9)) : Cl G yX8_errorOffset cX8_errorOffset 1 (some .int) (xR 1 0 0) [.ref a0] (.inl (some (.int r9))) Y N Y N9 := by
  refine x_entry (by decide) (Nat.le_of_ble_eq_true rfl) rfl ?_
  rw [f_X8_errorOffset] at h
  refine x_aload_n 0 dX8_errorOffset_0 rfl rfl ?_
  refine x_iconst (v := 0) dX8_errorOffset_1 rfl ?_
  refine x_puti dX8_errorOffset_2 (ci := 8) (f := 0) (M := 19) (C9 := RX8) (T9 := TX8) rfl xin8 tyX8_ok nmX8 (by decide) fl_X8_45 rfl rfl rfl rfl k100 ?_
  obtain ⟨N1, eN1, h⟩ := x_lt h
  refine x_nmN eN1 ?_
  refine x_aload_n 0 dX8_errorOffset_5 rfl rfl ?_
  refine x_geti dX8_errorOffset_6 (ci := 8) (f := 7) (M := 19) (C9 := RX8) (T9 := TX8) rfl xin8 (by decide) fl_X8_13 rfl k100 ?_
  obtain ⟨rfl, rfl⟩ := Prod.mk.inj (x_so h)
  exact x_iret dX8_errorOffset_9 rfl rfl rfl
set_option maxHeartbeats 4000000 in
set_option maxRecDepth 100000 in
theorem T_X8_handlerAt {G : XG} {Y : XY} (hw : WT Y) {a0 : Int32} {N : XN}  {r9 : Int32} (h : f_X8_handlerAt Y a0 N = r9) : Cl G yX8_handlerAt cX8_handlerAt 1 (some .int) (xR 1 0 0) [.int a0] (.inl (some (.int r9))) Y N Y N := by
  refine x_entry (by decide) (Nat.le_of_ble_eq_true rfl) rfl ?_
  rw [f_X8_handlerAt] at h
  refine x_bipush (v := 12) dX8_handlerAt_0 rfl ?_
  refine x_bipush (v := 6) dX8_handlerAt_2 rfl ?_
  refine x_iload_n 0 dX8_handlerAt_4 rfl rfl ?_
  refine x_imul dX8_handlerAt_5 ?_
  refine x_iadd dX8_handlerAt_6 ?_
  subst h
  exact x_iret dX8_handlerAt_7 rfl rfl rfl
set_option maxHeartbeats 4000000 in
set_option maxRecDepth 100000 in
theorem T_X8_lineAt {G : XG} {Y : XY} (hw : WT Y) {a0 : Int32} {N : XN}  {r9 : Int32} (h : f_X8_lineAt Y a0 N = r9) : Cl G yX8_lineAt cX8_lineAt 1 (some .int) (xR 1 0 0) [.int a0] (.inl (some (.int r9))) Y N Y N := by
  refine x_entry (by decide) (Nat.le_of_ble_eq_true rfl) rfl ?_
  rw [f_X8_lineAt] at h
  refine x_bipush (v := 48) dX8_lineAt_0 rfl ?_
  refine x_bipush (v := 7) dX8_lineAt_2 rfl ?_
  refine x_iload_n 0 dX8_lineAt_4 rfl rfl ?_
  refine x_imul dX8_lineAt_5 ?_
  refine x_iadd dX8_lineAt_6 ?_
  subst h
  exact x_iret dX8_lineAt_7 rfl rfl rfl
set_option maxHeartbeats 4000000 in
set_option maxRecDepth 100000 in
theorem T_X8_requestAt {G : XG} {Y : XY} (hw : WT Y) {a0 : Int32} {N : XN}  {r9 : Int32} (h : f_X8_requestAt Y a0 N = r9) : Cl G yX8_requestAt cX8_requestAt 1 (some .int) (xR 1 0 0) [.int a0] (.inl (some (.int r9))) Y N Y N := by
  refine x_entry (by decide) (Nat.le_of_ble_eq_true rfl) rfl ?_
  rw [f_X8_requestAt] at h
  refine x_bipush (v := 104) dX8_requestAt_0 rfl ?_
  refine x_bipush (v := 8) dX8_requestAt_2 rfl ?_
  refine x_iload_n 0 dX8_requestAt_4 rfl rfl ?_
  refine x_imul dX8_requestAt_5 ?_
  refine x_iadd dX8_requestAt_6 ?_
  subst h
  exact x_iret dX8_requestAt_7 rfl rfl rfl
set_option maxHeartbeats 4000000 in
set_option maxRecDepth 100000 in
theorem T_X8_ofHandler {G : XG} {Y : XY} (hw : WT Y) {a0 : Nat} {a1 : Int32} {a2 : Int32} {N : XN} (k100 : kc Y a0 = 18) {r9 : Int32} (h : f_X8_ofHandler Y a0 a1 a2 N = some r9) : Cl G yX8_ofHandler cX8_ofHandler 3 (some .int) (xR 2 0 0) [.ref a0, .int a1, .int a2] (.inl (some (.int r9))) Y N Y N := by
  refine x_entry (by decide) (Nat.le_of_ble_eq_true rfl) rfl ?_
  rw [f_X8_ofHandler] at h
  refine x_aload_n 0 dX8_ofHandler_0 rfl rfl ?_
  obtain ⟨g1, k2, n3⟩ := wt_X8_8 hw k100
  refine x_getr dX8_ofHandler_1 (ci := 8) (f := 8) (M := 19) (C9 := RX8) (T9 := TX8) rfl xin8 (by decide) fl_X8_17 rfl k100 g1 ?_
  refine x_iload_n 1 dX8_ofHandler_4 rfl rfl ?_
  refine x_cs (As := [.int a1]) (d' := 1) (zz := yX8_handlerAt) dX8_ofHandler_5 ml_X8_197 wt_X8_handlerAt wn_X8 wc_X8_handlerAt hp_X8_handlerAt (by decide) (by decide) rfl (Nat.le_of_ble_eq_true rfl) ⟨Nat.zero_le _, Nat.zero_le _⟩ (T_X8_handlerAt (G := G) hw  rfl) ?_
  refine x_iload_n 2 dX8_ofHandler_8 rfl rfl ?_
  refine x_iadd dX8_ofHandler_9 ?_
  obtain ⟨c4, h⟩ := x_ck h
  refine x_iald dX8_ofHandler_10 k2 (xb_at n3 c4) rfl ?_
  obtain rfl := x_so h
  exact x_iret dX8_ofHandler_11 rfl rfl rfl
set_option maxHeartbeats 4000000 in
set_option maxRecDepth 100000 in
theorem T_X8_ofLine {G : XG} {Y : XY} (hw : WT Y) {a0 : Nat} {a1 : Int32} {a2 : Int32} {N : XN} (k100 : kc Y a0 = 18) {r9 : Int32} (h : f_X8_ofLine Y a0 a1 a2 N = some r9) : Cl G yX8_ofLine cX8_ofLine 3 (some .int) (xR 2 0 0) [.ref a0, .int a1, .int a2] (.inl (some (.int r9))) Y N Y N := by
  refine x_entry (by decide) (Nat.le_of_ble_eq_true rfl) rfl ?_
  rw [f_X8_ofLine] at h
  refine x_aload_n 0 dX8_ofLine_0 rfl rfl ?_
  obtain ⟨g1, k2, n3⟩ := wt_X8_8 hw k100
  refine x_getr dX8_ofLine_1 (ci := 8) (f := 8) (M := 19) (C9 := RX8) (T9 := TX8) rfl xin8 (by decide) fl_X8_17 rfl k100 g1 ?_
  refine x_iload_n 1 dX8_ofLine_4 rfl rfl ?_
  refine x_cs (As := [.int a1]) (d' := 1) (zz := yX8_lineAt) dX8_ofLine_5 ml_X8_200 wt_X8_lineAt wn_X8 wc_X8_lineAt hp_X8_lineAt (by decide) (by decide) rfl (Nat.le_of_ble_eq_true rfl) ⟨Nat.zero_le _, Nat.zero_le _⟩ (T_X8_lineAt (G := G) hw  rfl) ?_
  refine x_iload_n 2 dX8_ofLine_8 rfl rfl ?_
  refine x_iadd dX8_ofLine_9 ?_
  obtain ⟨c4, h⟩ := x_ck h
  refine x_iald dX8_ofLine_10 k2 (xb_at n3 c4) rfl ?_
  obtain rfl := x_so h
  exact x_iret dX8_ofLine_11 rfl rfl rfl
set_option maxHeartbeats 4000000 in
set_option maxRecDepth 100000 in
theorem T_X8_ofRequest {G : XG} {Y : XY} (hw : WT Y) {a0 : Nat} {a1 : Int32} {a2 : Int32} {N : XN} (k100 : kc Y a0 = 18) {r9 : Int32} (h : f_X8_ofRequest Y a0 a1 a2 N = some r9) : Cl G yX8_ofRequest cX8_ofRequest 3 (some .int) (xR 2 0 0) [.ref a0, .int a1, .int a2] (.inl (some (.int r9))) Y N Y N := by
  refine x_entry (by decide) (Nat.le_of_ble_eq_true rfl) rfl ?_
  rw [f_X8_ofRequest] at h
  refine x_aload_n 0 dX8_ofRequest_0 rfl rfl ?_
  obtain ⟨g1, k2, n3⟩ := wt_X8_8 hw k100
  refine x_getr dX8_ofRequest_1 (ci := 8) (f := 8) (M := 19) (C9 := RX8) (T9 := TX8) rfl xin8 (by decide) fl_X8_17 rfl k100 g1 ?_
  refine x_iload_n 1 dX8_ofRequest_4 rfl rfl ?_
  refine x_cs (As := [.int a1]) (d' := 1) (zz := yX8_requestAt) dX8_ofRequest_5 ml_X8_203 wt_X8_requestAt wn_X8 wc_X8_requestAt hp_X8_requestAt (by decide) (by decide) rfl (Nat.le_of_ble_eq_true rfl) ⟨Nat.zero_le _, Nat.zero_le _⟩ (T_X8_requestAt (G := G) hw  rfl) ?_
  refine x_iload_n 2 dX8_ofRequest_8 rfl rfl ?_
  refine x_iadd dX8_ofRequest_9 ?_
  obtain ⟨c4, h⟩ := x_ck h
  refine x_iald dX8_ofRequest_10 k2 (xb_at n3 c4) rfl ?_
  obtain rfl := x_so h
  exact x_iret dX8_ofRequest_11 rfl rfl rfl
set_option maxHeartbeats 4000000 in
set_option maxRecDepth 100000 in
theorem T_X8_isOpen {G : XG} {Y : XY} (hw : WT Y) {a0 : Nat} {a1 : Int32} {N : XN} (k100 : kc Y a0 = 18) {r9 : Int32} (h : f_X8_isOpen Y a0 a1 N = some r9) : Cl G yX8_isOpen cX8_isOpen 2 (some .boolean) (xR 3 0 0) [.ref a0, .int a1] (.inl (some (.int r9))) Y N Y N := by
  refine x_entry (by decide) (Nat.le_of_ble_eq_true rfl) rfl ?_
  rw [f_X8_isOpen] at h
  refine x_aload_n 0 dX8_isOpen_0 rfl rfl ?_
  refine x_iload_n 1 dX8_isOpen_1 rfl rfl ?_
  refine x_iconst (v := 3) dX8_isOpen_2 rfl ?_
  obtain ⟨r2, q1, h⟩ := x_bd1 h
  refine x_cv (b := a0) (As := [.int a1, .int 3]) (ci := 8) (d' := 2) (zz := yX8_ofRequest) dX8_isOpen_3 ml_X8_206 wi_X8_ofRequest wv_X8_ofRequest wn_X8 wc_X8_ofRequest hp_X8_ofRequest (by decide) (by decide) rfl (Nat.le_of_ble_eq_true rfl) ⟨Nat.zero_le _, Nat.zero_le _⟩ rfl k100 (T_X8_ofRequest (G := G) hw k100 q1) ?_
  refine x_iconst (v := 1) dX8_isOpen_6 rfl ?_
  rcases x_if h with ⟨c3, h⟩ | ⟨c3, h⟩
  · refine x_icmp_ne_f (tgt := 14) dX8_isOpen_7 (by decide) c3 ?_
    refine x_iconst (v := 1) dX8_isOpen_10 rfl ?_
    refine x_goto (tgt := 15) dX8_isOpen_11 (by decide) ?_
    obtain rfl := x_so h
    exact x_zret dX8_isOpen_15 rfl (by decide) rfl rfl
  · refine x_icmp_ne_t (tgt := 14) dX8_isOpen_7 (by decide) c3 ?_
    refine x_iconst (v := 0) dX8_isOpen_14 rfl ?_
    obtain rfl := x_so h
    exact x_zret dX8_isOpen_15 rfl (by decide) rfl rfl
set_option maxHeartbeats 4000000 in
set_option maxRecDepth 100000 in
theorem T_X8_holds {G : XG} {Y : XY} (hw : WT Y) {a0 : Nat} {a1 : Int32} {a2 : Int32} {N : XN} (k100 : kc Y a0 = 18) {r9 : Int32} (h : f_X8_holds Y a0 a1 a2 N = some r9) : Cl G yX8_holds cX8_holds 3 (some .boolean) (xR 4 0 0) [.ref a0, .int a1, .int a2] (.inl (some (.int r9))) Y N Y N := by
  refine x_entry (by decide) (Nat.le_of_ble_eq_true rfl) rfl ?_
  rw [f_X8_holds] at h
  refine x_aload_n 0 dX8_holds_0 rfl rfl ?_
  refine x_iload_n 2 dX8_holds_1 rfl rfl ?_
  obtain ⟨r2, q1, h⟩ := x_bd1 h
  refine x_cv (b := a0) (As := [.int a2]) (ci := 8) (d' := 3) (zz := yX8_isOpen) dX8_holds_2 ml_X8_209 wi_X8_isOpen wv_X8_isOpen wn_X8 wc_X8_isOpen hp_X8_isOpen (by decide) (by decide) rfl (Nat.le_of_ble_eq_true rfl) ⟨Nat.zero_le _, Nat.zero_le _⟩ rfl k100 (T_X8_isOpen (G := G) hw k100 q1) ?_
  rcases x_if h with ⟨c3, h⟩ | ⟨c3, h⟩
  · refine x_if_eq_t (tgt := 22) dX8_holds_5 (by decide) c3 ?_
    refine x_iconst (v := 0) dX8_holds_22 rfl ?_
    obtain rfl := x_so h
    exact x_zret dX8_holds_23 rfl (by decide) rfl rfl
  · refine x_if_eq_f (tgt := 22) dX8_holds_5 (by decide) c3 ?_
    refine x_aload_n 0 dX8_holds_8 rfl rfl ?_
    refine x_iload_n 2 dX8_holds_9 rfl rfl ?_
    refine x_iconst (v := 4) dX8_holds_10 rfl ?_
    obtain ⟨r5, q4, h⟩ := x_bd1 h
    refine x_cv (b := a0) (As := [.int a2, .int 4]) (ci := 8) (d' := 2) (zz := yX8_ofRequest) dX8_holds_11 ml_X8_206 wi_X8_ofRequest wv_X8_ofRequest wn_X8 wc_X8_ofRequest hp_X8_ofRequest (by decide) (by decide) rfl (Nat.le_of_ble_eq_true rfl) ⟨Nat.zero_le _, Nat.zero_le _⟩ rfl k100 (T_X8_ofRequest (G := G) hw k100 q4) ?_
    refine x_iload_n 1 dX8_holds_14 rfl rfl ?_
    rcases x_if h with ⟨c6, h⟩ | ⟨c6, h⟩
    · refine x_icmp_ne_f (tgt := 22) dX8_holds_15 (by decide) c6 ?_
      refine x_iconst (v := 1) dX8_holds_18 rfl ?_
      refine x_goto (tgt := 23) dX8_holds_19 (by decide) ?_
      obtain rfl := x_so h
      exact x_zret dX8_holds_23 rfl (by decide) rfl rfl
    · refine x_icmp_ne_t (tgt := 22) dX8_holds_15 (by decide) c6 ?_
      refine x_iconst (v := 0) dX8_holds_22 rfl ?_
      obtain rfl := x_so h
      exact x_zret dX8_holds_23 rfl (by decide) rfl rfl
set_option maxHeartbeats 4000000 in
set_option maxRecDepth 100000 in
theorem T_X8_heldBy_4 {G : XG} {Y : XY} (hw : WT Y) {r9 : Int32}: ∀ (D9 : Nat) (p_0 : Nat) (v_1 : Int32) (v_2 : Int32) (v_3 : Int32) (N : XN), kc Y p_0 = 18 → f_X8_heldBy_4 Y D9 p_0 v_1 v_2 v_3 N = some r9 → Ex G yX8_heldBy cX8_heldBy 4 (some .int) (xR 5 0 0) (.inl (some (.int r9))) Y N 0 0 4 [(0, .ref p_0), (1, .int v_1), (2, .int v_2), (3, .int v_3)] [] Y N := by
  intro D9
  induction D9 with
  | zero => intro p_0 v_1 v_2 v_3 N kk0 h; exact nomatch (show none = some r9 from h)
  | succ D9 ih =>
    intro p_0 v_1 v_2 v_3 N kk0 h
    rw [f_X8_heldBy_4] at h
    refine x_iload_n 3 dX8_heldBy_4 rfl rfl ?_
    refine x_aload_n 0 dX8_heldBy_5 rfl rfl ?_
    obtain ⟨g1, k2, n3⟩ := wt_X8_8 hw kk0
    refine x_getr dX8_heldBy_6 (ci := 8) (f := 8) (M := 19) (C9 := RX8) (T9 := TX8) rfl xin8 (by decide) fl_X8_17 rfl kk0 g1 ?_
    refine x_iconst (v := 3) dX8_heldBy_9 rfl ?_
    refine x_iald dX8_heldBy_10 k2 (xb_at n3 (by decide)) rfl ?_
    rcases x_if h with ⟨c4, h⟩ | ⟨c4, h⟩
    · refine x_icmp_ge_t (tgt := 37) dX8_heldBy_11 (by decide) c4 ?_
      refine x_iload_n 2 dX8_heldBy_37 rfl rfl ?_
      obtain rfl := x_so h
      exact x_iret dX8_heldBy_38 rfl rfl rfl
    · refine x_icmp_ge_f (tgt := 37) dX8_heldBy_11 (by decide) c4 ?_
      refine x_iload_n 2 dX8_heldBy_14 rfl rfl ?_
      refine x_aload_n 0 dX8_heldBy_15 rfl rfl ?_
      refine x_iload_n 1 dX8_heldBy_16 rfl rfl ?_
      refine x_iload_n 3 dX8_heldBy_17 rfl rfl ?_
      obtain ⟨r6, q5, h⟩ := x_bd1 h
      refine x_cv (b := p_0) (As := [.int v_1, .int v_3]) (ci := 8) (d' := 4) (zz := yX8_holds) dX8_heldBy_18 ml_X8_212 wi_X8_holds wv_X8_holds wn_X8 wc_X8_holds hp_X8_holds (by decide) (by decide) rfl (Nat.le_of_ble_eq_true rfl) ⟨Nat.zero_le _, Nat.zero_le _⟩ rfl kk0 (T_X8_holds (G := G) hw kk0 q5) ?_
      rcases x_if h with ⟨c7, h⟩ | ⟨c7, h⟩
      · refine x_if_eq_t (tgt := 28) dX8_heldBy_21 (by decide) c7 ?_
        refine x_iconst (v := 0) dX8_heldBy_28 rfl ?_
        refine x_iadd dX8_heldBy_29 ?_
        refine x_istore_n [1, 2, 0, 3] dX8_heldBy_30 rfl (by decide) rfl ?_
        refine x_iinc 3 [1, 2, 3, 0] dX8_heldBy_31 rfl rfl (by decide) rfl ?_
        refine x_goto (tgt := 4) dX8_heldBy_34 (by decide) ?_
        exact ih p_0 v_1 (v_2 + 0) (v_3 + 1) N kk0 h
      · refine x_if_eq_f (tgt := 28) dX8_heldBy_21 (by decide) c7 ?_
        refine x_iconst (v := 1) dX8_heldBy_24 rfl ?_
        refine x_goto (tgt := 29) dX8_heldBy_25 (by decide) ?_
        refine x_iadd dX8_heldBy_29 ?_
        refine x_istore_n [1, 2, 0, 3] dX8_heldBy_30 rfl (by decide) rfl ?_
        refine x_iinc 3 [1, 2, 3, 0] dX8_heldBy_31 rfl rfl (by decide) rfl ?_
        refine x_goto (tgt := 4) dX8_heldBy_34 (by decide) ?_
        exact ih p_0 v_1 (v_2 + 1) (v_3 + 1) N kk0 h
set_option maxHeartbeats 4000000 in
set_option maxRecDepth 100000 in
theorem T_X8_heldBy {G : XG} {Y : XY} (hw : WT Y) {a0 : Nat} {a1 : Int32} {N : XN} (k100 : kc Y a0 = 18) {r9 : Int32} (h : f_X8_heldBy Y a0 a1 N = some r9) : Cl G yX8_heldBy cX8_heldBy 4 (some .int) (xR 5 0 0) [.ref a0, .int a1] (.inl (some (.int r9))) Y N Y N := by
  refine x_entry (by decide) (Nat.le_of_ble_eq_true rfl) rfl ?_
  rw [f_X8_heldBy] at h
  refine x_iconst (v := 0) dX8_heldBy_0 rfl ?_
  refine x_istore_n [1, 2, 0] dX8_heldBy_1 rfl (by decide) rfl ?_
  refine x_iconst (v := 0) dX8_heldBy_2 rfl ?_
  refine x_istore_n [1, 2, 3, 0] dX8_heldBy_3 rfl (by decide) rfl ?_
  exact T_X8_heldBy_4 (G := G) hw FU a0 a1 0 0 N k100 h
set_option maxHeartbeats 4000000 in
set_option maxRecDepth 100000 in
theorem T_X8_isTenant {G : XG} {Y : XY} (hw : WT Y) {a0 : Nat} {a1 : Int32} {a2 : Int32} {N : XN} (k100 : kc Y a0 = 18) {r9 : Int32} (h : f_X8_isTenant Y a0 a1 a2 N = some r9) : Cl G yX8_isTenant cX8_isTenant 3 (some .boolean) (xR 2 0 0) [.ref a0, .int a1, .int a2] (.inl (some (.int r9))) Y N Y N := by
  refine x_entry (by decide) (Nat.le_of_ble_eq_true rfl) rfl ?_
  rw [f_X8_isTenant] at h
  refine x_aload_n 0 dX8_isTenant_0 rfl rfl ?_
  obtain ⟨g1, k2, n3⟩ := wt_X8_8 hw k100
  refine x_getr dX8_isTenant_1 (ci := 8) (f := 8) (M := 19) (C9 := RX8) (T9 := TX8) rfl xin8 (by decide) fl_X8_17 rfl k100 g1 ?_
  refine x_iload_n 2 dX8_isTenant_4 rfl rfl ?_
  refine x_iload_n 1 dX8_isTenant_5 rfl rfl ?_
  obtain ⟨r5, q4, h⟩ := x_bd1 h
  refine x_cs (As := [.ref (gp Y a0 8), .int a2, .int a1]) (d' := 1) (zz := yX8_tenantPlace) dX8_isTenant_6 ml_X8_141 wt_X8_tenantPlace wn_X8 wc_X8_tenantPlace hp_X8_tenantPlace (by decide) (by decide) rfl (Nat.le_of_ble_eq_true rfl) ⟨Nat.zero_le _, Nat.zero_le _⟩ (T_X8_tenantPlace (G := G) hw k2 q4) ?_
  refine x_iconst (v := (-1)) dX8_isTenant_9 rfl ?_
  rcases x_if h with ⟨c6, h⟩ | ⟨c6, h⟩
  · refine x_icmp_eq_t (tgt := 17) dX8_isTenant_10 (by decide) c6 ?_
    refine x_iconst (v := 0) dX8_isTenant_17 rfl ?_
    obtain rfl := x_so h
    exact x_zret dX8_isTenant_18 rfl (by decide) rfl rfl
  · refine x_icmp_eq_f (tgt := 17) dX8_isTenant_10 (by decide) c6 ?_
    refine x_iconst (v := 1) dX8_isTenant_13 rfl ?_
    refine x_goto (tgt := 18) dX8_isTenant_14 (by decide) ?_
    obtain rfl := x_so h
    exact x_zret dX8_isTenant_18 rfl (by decide) rfl rfl
set_option maxHeartbeats 4000000 in
set_option maxRecDepth 100000 in
theorem T_X8_leave_38 {G : XG} {Y : XY} (hw : WT Y) {N9 : XN}: ∀ (D9 : Nat) (p_0 : Nat) (v_4 : Int32) (v_5 : Int32) (N : XN), kc Y p_0 = 18 → f_X8_leave_38 Y D9 p_0 v_4 v_5 N = some N9 → Ex G yX8_leave cX8_leave 6 none (xR 2 0 0) (.inl none) Y N9 0 0 38 [(0, .ref p_0), (4, .int v_4), (5, .int v_5)] [] Y N := by
  intro D9
  induction D9 with
  | zero => intro p_0 v_4 v_5 N kk0 h; exact nomatch (show none = some N9 from h)
  | succ D9 ih =>
    intro p_0 v_4 v_5 N kk0 h
    rw [f_X8_leave_38] at h
    refine x_iload 2 dX8_leave_38 rfl ?_
    refine x_aload_n 0 dX8_leave_40 rfl rfl ?_
    obtain ⟨g1, k2, n3⟩ := wt_X8_8 hw kk0
    refine x_getr dX8_leave_41 (ci := 8) (f := 8) (M := 19) (C9 := RX8) (T9 := TX8) rfl xin8 (by decide) fl_X8_17 rfl kk0 g1 ?_
    refine x_iload 1 dX8_leave_44 rfl ?_
    refine x_iconst (v := 3) dX8_leave_46 rfl ?_
    refine x_iadd dX8_leave_47 ?_
    obtain ⟨c4, h⟩ := x_ck h
    refine x_iald dX8_leave_48 k2 (xb_at n3 c4) rfl ?_
    rcases x_if h with ⟨c5, h⟩ | ⟨c5, h⟩
    · refine x_icmp_ge_t (tgt := 84) dX8_leave_49 (by decide) c5 ?_
      obtain rfl := x_so h
      exact x_vret dX8_leave_84 rfl rfl rfl
    · refine x_icmp_ge_f (tgt := 84) dX8_leave_49 (by decide) c5 ?_
      refine x_aload_n 0 dX8_leave_52 rfl rfl ?_
      refine x_getr dX8_leave_53 (ci := 8) (f := 8) (M := 19) (C9 := RX8) (T9 := TX8) rfl xin8 (by decide) fl_X8_17 rfl kk0 g1 ?_
      refine x_iload 1 dX8_leave_56 rfl ?_
      refine x_iconst (v := 4) dX8_leave_58 rfl ?_
      refine x_iadd dX8_leave_59 ?_
      refine x_iload 2 dX8_leave_60 rfl ?_
      refine x_iadd dX8_leave_62 ?_
      refine x_aload_n 0 dX8_leave_63 rfl rfl ?_
      refine x_getr dX8_leave_64 (ci := 8) (f := 8) (M := 19) (C9 := RX8) (T9 := TX8) rfl xin8 (by decide) fl_X8_17 rfl kk0 g1 ?_
      refine x_iload 1 dX8_leave_67 rfl ?_
      refine x_iconst (v := 4) dX8_leave_69 rfl ?_
      refine x_iadd dX8_leave_70 ?_
      refine x_iload 2 dX8_leave_71 rfl ?_
      refine x_iadd dX8_leave_73 ?_
      refine x_iconst (v := 1) dX8_leave_74 rfl ?_
      refine x_iadd dX8_leave_75 ?_
      obtain ⟨c6, h⟩ := x_ck h
      refine x_iald dX8_leave_76 k2 (xb_at n3 c6) rfl ?_
      obtain ⟨c7, h⟩ := x_ck h
      refine x_iast dX8_leave_77 k2 (xb_at n3 c7) rfl ?_
      obtain ⟨N8, eN8, h⟩ := x_lt h
      refine x_nmN eN8 ?_
      refine x_iinc 2 [1, 2, 0] dX8_leave_78 rfl rfl (by decide) rfl ?_
      refine x_goto (tgt := 38) dX8_leave_81 (by decide) ?_
      exact ih p_0 v_4 (v_5 + 1) N8 kk0 h
set_option maxHeartbeats 4000000 in
set_option maxRecDepth 100000 in
theorem T_X8_leave {G : XG} {Y : XY} (hw : WT Y) {a0 : Nat} {a1 : Int32} {a2 : Int32} {N : XN} (k100 : kc Y a0 = 18) {N9 : XN} (h : f_X8_leave Y a0 a1 a2 N = some N9) : Cl G yX8_leave cX8_leave 6 none (xR 2 0 0) [.ref a0, .int a1, .int a2] (.inl none) Y N Y N9 := by
  refine x_entry (by decide) (Nat.le_of_ble_eq_true rfl) rfl ?_
  rw [f_X8_leave] at h
  refine x_aload_n 0 dX8_leave_0 rfl rfl ?_
  obtain ⟨g1, k2, n3⟩ := wt_X8_8 hw k100
  refine x_getr dX8_leave_1 (ci := 8) (f := 8) (M := 19) (C9 := RX8) (T9 := TX8) rfl xin8 (by decide) fl_X8_17 rfl k100 g1 ?_
  refine x_iload_n 2 dX8_leave_4 rfl rfl ?_
  refine x_iload_n 1 dX8_leave_5 rfl rfl ?_
  obtain ⟨r5, q4, h⟩ := x_bd1 h
  refine x_cs (As := [.ref (gp Y a0 8), .int a2, .int a1]) (d' := 1) (zz := yX8_tenantPlace) dX8_leave_6 ml_X8_141 wt_X8_tenantPlace wn_X8 wc_X8_tenantPlace hp_X8_tenantPlace (by decide) (by decide) rfl (Nat.le_of_ble_eq_true rfl) ⟨Nat.zero_le _, Nat.zero_le _⟩ (T_X8_tenantPlace (G := G) hw k2 q4) ?_
  refine x_istore_n [1, 3, 0] dX8_leave_9 rfl (by decide) rfl ?_
  refine x_iload_n 1 dX8_leave_10 rfl rfl ?_
  refine x_cs (As := [.int a2]) (d' := 1) (zz := yX8_lineAt) dX8_leave_11 ml_X8_200 wt_X8_lineAt wn_X8 wc_X8_lineAt hp_X8_lineAt (by decide) (by decide) rfl (Nat.le_of_ble_eq_true rfl) ⟨Nat.zero_le _, Nat.zero_le _⟩ (T_X8_lineAt (G := G) hw  rfl) ?_
  refine x_istore [1, 3, 0] dX8_leave_14 (by decide) rfl ?_
  refine x_iload_n 1 dX8_leave_16 rfl rfl ?_
  refine x_iconst (v := (-1)) dX8_leave_17 rfl ?_
  rcases x_if h with ⟨c6, h⟩ | ⟨c6, h⟩
  · refine x_icmp_ne_f (tgt := 22) dX8_leave_18 (by decide) c6 ?_
    obtain rfl := x_so h
    exact x_vret dX8_leave_21 rfl rfl rfl
  · refine x_icmp_ne_t (tgt := 22) dX8_leave_18 (by decide) c6 ?_
    refine x_aload_n 0 dX8_leave_22 rfl rfl ?_
    refine x_getr dX8_leave_23 (ci := 8) (f := 8) (M := 19) (C9 := RX8) (T9 := TX8) rfl xin8 (by decide) fl_X8_17 rfl k100 g1 ?_
    refine x_iload 2 dX8_leave_26 rfl ?_
    refine x_iconst (v := 3) dX8_leave_28 rfl ?_
    refine x_iadd dX8_leave_29 ?_
    refine x_dup2 dX8_leave_30 rfl rfl ?_
    obtain ⟨c7, h⟩ := x_ck h
    refine x_iald dX8_leave_31 k2 (xb_at n3 c7) rfl ?_
    refine x_iconst (v := 1) dX8_leave_32 rfl ?_
    refine x_isub dX8_leave_33 ?_
    obtain ⟨c8, h⟩ := x_ck h
    refine x_iast dX8_leave_34 k2 (xb_at n3 c8) rfl ?_
    obtain ⟨N9, eN9, h⟩ := x_lt h
    refine x_nmN eN9 ?_
    refine x_iload_n 1 dX8_leave_35 rfl rfl ?_
    refine x_istore [1, 3, 0] dX8_leave_36 (by decide) rfl ?_
    exact T_X8_leave_38 (G := G) hw FU a0 (f_X8_lineAt Y a2 N) r5 N9 k100 h
set_option maxHeartbeats 4000000 in
set_option maxRecDepth 100000 in
theorem T_X8_assign_35 {G : XG} {Y : XY} (hw : WT Y) {N9 : XN}: ∀ (D9 : Nat) (p_0 : Nat) (v_2 : Int32) (v_3 : Int32) (v_4 : Int32) (v_5 : Int32) (v_6 : Int32) (N : XN), kc Y p_0 = 18 → f_X8_assign_35 Y D9 p_0 v_2 v_3 v_4 v_5 v_6 N = some N9 → Ex G yX8_assign cX8_assign 9 none (xR 6 0 0) (.inl none) Y N9 0 0 35 [(0, .ref p_0), (2, .int v_2), (3, .int v_3), (4, .int v_4), (5, .int v_5), (6, .int v_6)] [] Y N := by
  intro D9
  induction D9 with
  | zero => intro p_0 v_2 v_3 v_4 v_5 v_6 N kk0 h; exact nomatch (show none = some N9 from h)
  | succ D9 ih =>
    intro p_0 v_2 v_3 v_4 v_5 v_6 N kk0 h
    rw [f_X8_assign_35] at h
    refine x_iload 5 dX8_assign_35 rfl ?_
    refine x_aload_n 0 dX8_assign_37 rfl rfl ?_
    obtain ⟨g1, k2, n3⟩ := wt_X8_8 hw kk0
    refine x_getr dX8_assign_38 (ci := 8) (f := 8) (M := 19) (C9 := RX8) (T9 := TX8) rfl xin8 (by decide) fl_X8_17 rfl kk0 g1 ?_
    refine x_iload_n 2 dX8_assign_41 rfl rfl ?_
    refine x_iconst (v := 3) dX8_assign_42 rfl ?_
    refine x_iadd dX8_assign_43 ?_
    obtain ⟨c4, h⟩ := x_ck h
    refine x_iald dX8_assign_44 k2 (xb_at n3 c4) rfl ?_
    rcases x_if h with ⟨c5, h⟩ | ⟨c5, h⟩
    · refine x_icmp_ge_t (tgt := 99) dX8_assign_45 (by decide) c5 ?_
      refine x_aload_n 0 dX8_assign_99 rfl rfl ?_
      refine x_getr dX8_assign_100 (ci := 8) (f := 8) (M := 19) (C9 := RX8) (T9 := TX8) rfl xin8 (by decide) fl_X8_17 rfl kk0 g1 ?_
      refine x_iload_n 1 dX8_assign_103 rfl rfl ?_
      refine x_iconst (v := 4) dX8_assign_104 rfl ?_
      refine x_iadd dX8_assign_105 ?_
      refine x_iload 3 dX8_assign_106 rfl ?_
      obtain ⟨c6, h⟩ := x_ck h
      refine x_iast dX8_assign_108 k2 (xb_at n3 c6) rfl ?_
      obtain ⟨N7, eN7, h⟩ := x_lt h
      refine x_nmN eN7 ?_
      refine x_aload_n 0 dX8_assign_109 rfl rfl ?_
      refine x_getr dX8_assign_110 (ci := 8) (f := 8) (M := 19) (C9 := RX8) (T9 := TX8) rfl xin8 (by decide) fl_X8_17 rfl kk0 g1 ?_
      refine x_iload_n 1 dX8_assign_113 rfl rfl ?_
      refine x_bipush (v := 7) dX8_assign_114 rfl ?_
      refine x_iadd dX8_assign_116 ?_
      refine x_aload_n 0 dX8_assign_117 rfl rfl ?_
      refine x_getr dX8_assign_118 (ci := 8) (f := 8) (M := 19) (C9 := RX8) (T9 := TX8) rfl xin8 (by decide) fl_X8_17 rfl kk0 g1 ?_
      refine x_iconst (v := 0) dX8_assign_121 rfl ?_
      refine x_iald dX8_assign_122 k2 (xb_at n3 (by decide)) rfl ?_
      obtain ⟨c8, h⟩ := x_ck h
      refine x_iast dX8_assign_123 k2 (xb_at n3 c8) rfl ?_
      obtain ⟨N9, eN9, h⟩ := x_lt h
      refine x_nmN eN9 ?_
      obtain rfl := x_so h
      exact x_vret dX8_assign_124 rfl rfl rfl
    · refine x_icmp_ge_f (tgt := 99) dX8_assign_45 (by decide) c5 ?_
      refine x_aload_n 0 dX8_assign_48 rfl rfl ?_
      refine x_getr dX8_assign_49 (ci := 8) (f := 8) (M := 19) (C9 := RX8) (T9 := TX8) rfl xin8 (by decide) fl_X8_17 rfl kk0 g1 ?_
      refine x_iload_n 2 dX8_assign_52 rfl rfl ?_
      refine x_iconst (v := 4) dX8_assign_53 rfl ?_
      refine x_iadd dX8_assign_54 ?_
      refine x_iload 5 dX8_assign_55 rfl ?_
      refine x_iadd dX8_assign_57 ?_
      obtain ⟨c10, h⟩ := x_ck h
      refine x_iald dX8_assign_58 k2 (xb_at n3 c10) rfl ?_
      obtain ⟨v11, ev11, h⟩ := x_lt h
      refine x_nmi ev11 ?_
      refine x_istore [1, 2, 3, 4, 5, 6, 0] dX8_assign_59 (by decide) rfl ?_
      refine x_aload_n 0 dX8_assign_61 rfl rfl ?_
      refine x_iload 6 dX8_assign_62 rfl ?_
      obtain ⟨r13, q12, h⟩ := x_bd1 h
      refine x_cv (b := p_0) (As := [.int v11]) (ci := 8) (d' := 5) (zz := yX8_heldBy) dX8_assign_64 ml_X8_216 wi_X8_heldBy wv_X8_heldBy wn_X8 wc_X8_heldBy hp_X8_heldBy (by decide) (by decide) rfl (Nat.le_of_ble_eq_true rfl) ⟨Nat.zero_le _, Nat.zero_le _⟩ rfl kk0 (T_X8_heldBy (G := G) hw kk0 q12) ?_
      refine x_istore [1, 2, 3, 4, 5, 6, 7, 0] dX8_assign_67 (by decide) rfl ?_
      refine x_iload 3 dX8_assign_69 rfl ?_
      refine x_iconst (v := (-1)) dX8_assign_71 rfl ?_
      rcases x_if h with ⟨c14, h⟩ | ⟨c14, h⟩
      · refine x_icmp_eq_t (tgt := 85) dX8_assign_72 (by decide) c14 ?_
        refine x_iload 6 dX8_assign_85 rfl ?_
        refine x_istore [1, 2, 3, 0, 5, 7] dX8_assign_87 (by decide) rfl ?_
        refine x_iload 5 dX8_assign_89 rfl ?_
        refine x_istore [1, 2, 3, 4, 0, 5] dX8_assign_91 (by decide) rfl ?_
        refine x_iinc 5 [1, 2, 3, 4, 5, 0] dX8_assign_93 rfl rfl (by decide) rfl ?_
        refine x_goto (tgt := 35) dX8_assign_96 (by decide) ?_
        exact ih p_0 v_2 v_3 v11 r13 (v_6 + 1) N kk0 h
      · refine x_icmp_eq_f (tgt := 85) dX8_assign_72 (by decide) c14 ?_
        refine x_iload 7 dX8_assign_75 rfl ?_
        refine x_iload 4 dX8_assign_77 rfl ?_
        rcases x_if h with ⟨c15, h⟩ | ⟨c15, h⟩
        · refine x_icmp_lt_t (tgt := 85) dX8_assign_79 (by decide) c15 ?_
          refine x_iload 6 dX8_assign_85 rfl ?_
          refine x_istore [1, 2, 3, 0, 5, 7] dX8_assign_87 (by decide) rfl ?_
          refine x_iload 5 dX8_assign_89 rfl ?_
          refine x_istore [1, 2, 3, 4, 0, 5] dX8_assign_91 (by decide) rfl ?_
          refine x_iinc 5 [1, 2, 3, 4, 5, 0] dX8_assign_93 rfl rfl (by decide) rfl ?_
          refine x_goto (tgt := 35) dX8_assign_96 (by decide) ?_
          exact ih p_0 v_2 v_3 v11 r13 (v_6 + 1) N kk0 h
        · refine x_icmp_lt_f (tgt := 85) dX8_assign_79 (by decide) c15 ?_
          refine x_goto (tgt := 93) dX8_assign_82 (by decide) ?_
          refine x_iinc 5 [1, 2, 3, 4, 5, 0] dX8_assign_93 rfl rfl (by decide) rfl ?_
          refine x_goto (tgt := 35) dX8_assign_96 (by decide) ?_
          exact ih p_0 v_2 v_3 v_4 v_5 (v_6 + 1) N kk0 h
set_option maxHeartbeats 4000000 in
set_option maxRecDepth 100000 in
theorem T_X8_assign {G : XG} {Y : XY} (hw : WT Y) {a0 : Nat} {a1 : Int32} {N : XN} (k100 : kc Y a0 = 18) {N9 : XN} (h : f_X8_assign Y a0 a1 N = some N9) : Cl G yX8_assign cX8_assign 9 none (xR 6 0 0) [.ref a0, .int a1] (.inl none) Y N Y N9 := by
  refine x_entry (by decide) (Nat.le_of_ble_eq_true rfl) rfl ?_
  rw [f_X8_assign] at h
  refine x_iload_n 1 dX8_assign_0 rfl rfl ?_
  refine x_cs (As := [.int a1]) (d' := 1) (zz := yX8_requestAt) dX8_assign_1 ml_X8_203 wt_X8_requestAt wn_X8 wc_X8_requestAt hp_X8_requestAt (by decide) (by decide) rfl (Nat.le_of_ble_eq_true rfl) ⟨Nat.zero_le _, Nat.zero_le _⟩ (T_X8_requestAt (G := G) hw  rfl) ?_
  refine x_istore_n [1, 0] dX8_assign_4 rfl (by decide) rfl ?_
  refine x_aload_n 0 dX8_assign_5 rfl rfl ?_
  obtain ⟨g1, k2, n3⟩ := wt_X8_8 hw k100
  refine x_getr dX8_assign_6 (ci := 8) (f := 8) (M := 19) (C9 := RX8) (T9 := TX8) rfl xin8 (by decide) fl_X8_17 rfl k100 g1 ?_
  refine x_iload_n 1 dX8_assign_9 rfl rfl ?_
  refine x_iconst (v := 0) dX8_assign_10 rfl ?_
  refine x_iadd dX8_assign_11 ?_
  obtain ⟨c4, h⟩ := x_ck h
  refine x_iald dX8_assign_12 k2 (xb_at n3 c4) rfl ?_
  refine x_cs (As := [.int (gi N (gp Y a0 8) ((f_X8_requestAt Y a1 N) + 0).toNatClampNeg)]) (d' := 1) (zz := yX8_lineAt) dX8_assign_13 ml_X8_200 wt_X8_lineAt wn_X8 wc_X8_lineAt hp_X8_lineAt (by decide) (by decide) rfl (Nat.le_of_ble_eq_true rfl) ⟨Nat.zero_le _, Nat.zero_le _⟩ (T_X8_lineAt (G := G) hw  rfl) ?_
  obtain ⟨v5, ev5, h⟩ := x_lt h
  refine x_nmi ev5 ?_
  refine x_istore_n [1, 2, 0] dX8_assign_16 rfl (by decide) rfl ?_
  refine x_iconst (v := (-1)) dX8_assign_17 rfl ?_
  refine x_istore [1, 2, 3, 0] dX8_assign_18 (by decide) rfl ?_
  refine x_iconst (v := 0) dX8_assign_20 rfl ?_
  refine x_istore [1, 2, 3, 4, 0] dX8_assign_21 (by decide) rfl ?_
  refine x_aload_n 0 dX8_assign_23 rfl rfl ?_
  refine x_getr dX8_assign_24 (ci := 8) (f := 8) (M := 19) (C9 := RX8) (T9 := TX8) rfl xin8 (by decide) fl_X8_17 rfl k100 g1 ?_
  refine x_iload_n 1 dX8_assign_27 rfl rfl ?_
  refine x_iconst (v := 4) dX8_assign_28 rfl ?_
  refine x_iadd dX8_assign_29 ?_
  refine x_iconst (v := (-1)) dX8_assign_30 rfl ?_
  obtain ⟨c6, h⟩ := x_ck h
  refine x_iast dX8_assign_31 k2 (xb_at n3 c6) rfl ?_
  obtain ⟨N7, eN7, h⟩ := x_lt h
  refine x_nmN eN7 ?_
  refine x_iconst (v := 0) dX8_assign_32 rfl ?_
  refine x_istore [1, 2, 3, 4, 5, 0] dX8_assign_33 (by decide) rfl ?_
  exact T_X8_assign_35 (G := G) hw FU a0 (f_X8_requestAt Y a1 N) v5 (-1) 0 0 N7 k100 h
set_option maxHeartbeats 4000000 in
set_option maxRecDepth 100000 in
theorem T_X8_raisedOn_4 {G : XG} {Y : XY} (hw : WT Y) {r9 : Int32}: ∀ (D9 : Nat) (p_0 : Nat) (v_1 : Int32) (v_2 : Int32) (v_3 : Int32) (N : XN), kc Y p_0 = 18 → f_X8_raisedOn_4 Y D9 p_0 v_1 v_2 v_3 N = some r9 → Ex G yX8_raisedOn cX8_raisedOn 4 (some .int) (xR 3 0 0) (.inl (some (.int r9))) Y N 0 0 4 [(0, .ref p_0), (1, .int v_1), (2, .int v_2), (3, .int v_3)] [] Y N := by
  intro D9
  induction D9 with
  | zero => intro p_0 v_1 v_2 v_3 N kk0 h; exact nomatch (show none = some r9 from h)
  | succ D9 ih =>
    intro p_0 v_1 v_2 v_3 N kk0 h
    rw [f_X8_raisedOn_4] at h
    refine x_iload_n 3 dX8_raisedOn_4 rfl rfl ?_
    refine x_aload_n 0 dX8_raisedOn_5 rfl rfl ?_
    obtain ⟨g1, k2, n3⟩ := wt_X8_8 hw kk0
    refine x_getr dX8_raisedOn_6 (ci := 8) (f := 8) (M := 19) (C9 := RX8) (T9 := TX8) rfl xin8 (by decide) fl_X8_17 rfl kk0 g1 ?_
    refine x_iconst (v := 3) dX8_raisedOn_9 rfl ?_
    refine x_iald dX8_raisedOn_10 k2 (xb_at n3 (by decide)) rfl ?_
    rcases x_if h with ⟨c4, h⟩ | ⟨c4, h⟩
    · refine x_icmp_ge_t (tgt := 70) dX8_raisedOn_11 (by decide) c4 ?_
      refine x_iload_n 2 dX8_raisedOn_70 rfl rfl ?_
      obtain rfl := x_so h
      exact x_iret dX8_raisedOn_71 rfl rfl rfl
    · refine x_icmp_ge_f (tgt := 70) dX8_raisedOn_11 (by decide) c4 ?_
      refine x_iload_n 2 dX8_raisedOn_14 rfl rfl ?_
      refine x_aload_n 0 dX8_raisedOn_15 rfl rfl ?_
      refine x_iload_n 3 dX8_raisedOn_16 rfl rfl ?_
      refine x_iconst (v := 0) dX8_raisedOn_17 rfl ?_
      obtain ⟨r6, q5, h⟩ := x_bd1 h
      refine x_cv (b := p_0) (As := [.int v_3, .int 0]) (ci := 8) (d' := 2) (zz := yX8_ofRequest) dX8_raisedOn_18 ml_X8_206 wi_X8_ofRequest wv_X8_ofRequest wn_X8 wc_X8_ofRequest hp_X8_ofRequest (by decide) (by decide) rfl (Nat.le_of_ble_eq_true rfl) ⟨Nat.zero_le _, Nat.zero_le _⟩ rfl kk0 (T_X8_ofRequest (G := G) hw kk0 q5) ?_
      refine x_iload_n 1 dX8_raisedOn_21 rfl rfl ?_
      rcases x_if h with ⟨c7, h⟩ | ⟨c7, h⟩
      · refine x_icmp_ne_f (tgt := 61) dX8_raisedOn_22 (by decide) c7 ?_
        refine x_aload_n 0 dX8_raisedOn_25 rfl rfl ?_
        refine x_iload_n 3 dX8_raisedOn_26 rfl rfl ?_
        refine x_iconst (v := 3) dX8_raisedOn_27 rfl ?_
        obtain ⟨r9, q8, h⟩ := x_bd1 h
        refine x_cv (b := p_0) (As := [.int v_3, .int 3]) (ci := 8) (d' := 2) (zz := yX8_ofRequest) dX8_raisedOn_28 ml_X8_206 wi_X8_ofRequest wv_X8_ofRequest wn_X8 wc_X8_ofRequest hp_X8_ofRequest (by decide) (by decide) rfl (Nat.le_of_ble_eq_true rfl) ⟨Nat.zero_le _, Nat.zero_le _⟩ rfl kk0 (T_X8_ofRequest (G := G) hw kk0 q8) ?_
        rcases x_if h with ⟨c10, h⟩ | ⟨c10, h⟩
        · refine x_if_eq_t (tgt := 61) dX8_raisedOn_31 (by decide) c10 ?_
          refine x_iconst (v := 0) dX8_raisedOn_61 rfl ?_
          refine x_iadd dX8_raisedOn_62 ?_
          refine x_istore_n [1, 2, 0, 3] dX8_raisedOn_63 rfl (by decide) rfl ?_
          refine x_iinc 3 [1, 2, 3, 0] dX8_raisedOn_64 rfl rfl (by decide) rfl ?_
          refine x_goto (tgt := 4) dX8_raisedOn_67 (by decide) ?_
          exact ih p_0 v_1 (v_2 + 0) (v_3 + 1) N kk0 h
        · refine x_if_eq_f (tgt := 61) dX8_raisedOn_31 (by decide) c10 ?_
          refine x_aload_n 0 dX8_raisedOn_34 rfl rfl ?_
          refine x_iload_n 3 dX8_raisedOn_35 rfl rfl ?_
          refine x_iconst (v := 1) dX8_raisedOn_36 rfl ?_
          obtain ⟨r12, q11, h⟩ := x_bd1 h
          refine x_cv (b := p_0) (As := [.int v_3, .int 1]) (ci := 8) (d' := 2) (zz := yX8_ofRequest) dX8_raisedOn_37 ml_X8_206 wi_X8_ofRequest wv_X8_ofRequest wn_X8 wc_X8_ofRequest hp_X8_ofRequest (by decide) (by decide) rfl (Nat.le_of_ble_eq_true rfl) ⟨Nat.zero_le _, Nat.zero_le _⟩ rfl kk0 (T_X8_ofRequest (G := G) hw kk0 q11) ?_
          refine x_aload_n 0 dX8_raisedOn_40 rfl rfl ?_
          refine x_getr dX8_raisedOn_41 (ci := 8) (f := 8) (M := 19) (C9 := RX8) (T9 := TX8) rfl xin8 (by decide) fl_X8_17 rfl kk0 g1 ?_
          refine x_iconst (v := 0) dX8_raisedOn_44 rfl ?_
          refine x_iald dX8_raisedOn_45 k2 (xb_at n3 (by decide)) rfl ?_
          refine x_aload_n 0 dX8_raisedOn_46 rfl rfl ?_
          refine x_getr dX8_raisedOn_47 (ci := 8) (f := 8) (M := 19) (C9 := RX8) (T9 := TX8) rfl xin8 (by decide) fl_X8_17 rfl kk0 g1 ?_
          refine x_bipush (v := 6) dX8_raisedOn_50 rfl ?_
          refine x_iald dX8_raisedOn_52 k2 (xb_at n3 (by decide)) rfl ?_
          refine x_isub dX8_raisedOn_53 ?_
          rcases x_if h with ⟨c13, h⟩ | ⟨c13, h⟩
          · refine x_icmp_le_t (tgt := 61) dX8_raisedOn_54 (by decide) c13 ?_
            refine x_iconst (v := 0) dX8_raisedOn_61 rfl ?_
            refine x_iadd dX8_raisedOn_62 ?_
            refine x_istore_n [1, 2, 0, 3] dX8_raisedOn_63 rfl (by decide) rfl ?_
            refine x_iinc 3 [1, 2, 3, 0] dX8_raisedOn_64 rfl rfl (by decide) rfl ?_
            refine x_goto (tgt := 4) dX8_raisedOn_67 (by decide) ?_
            exact ih p_0 v_1 (v_2 + 0) (v_3 + 1) N kk0 h
          · refine x_icmp_le_f (tgt := 61) dX8_raisedOn_54 (by decide) c13 ?_
            refine x_iconst (v := 1) dX8_raisedOn_57 rfl ?_
            refine x_goto (tgt := 62) dX8_raisedOn_58 (by decide) ?_
            refine x_iadd dX8_raisedOn_62 ?_
            refine x_istore_n [1, 2, 0, 3] dX8_raisedOn_63 rfl (by decide) rfl ?_
            refine x_iinc 3 [1, 2, 3, 0] dX8_raisedOn_64 rfl rfl (by decide) rfl ?_
            refine x_goto (tgt := 4) dX8_raisedOn_67 (by decide) ?_
            exact ih p_0 v_1 (v_2 + 1) (v_3 + 1) N kk0 h
      · refine x_icmp_ne_t (tgt := 61) dX8_raisedOn_22 (by decide) c7 ?_
        refine x_iconst (v := 0) dX8_raisedOn_61 rfl ?_
        refine x_iadd dX8_raisedOn_62 ?_
        refine x_istore_n [1, 2, 0, 3] dX8_raisedOn_63 rfl (by decide) rfl ?_
        refine x_iinc 3 [1, 2, 3, 0] dX8_raisedOn_64 rfl rfl (by decide) rfl ?_
        refine x_goto (tgt := 4) dX8_raisedOn_67 (by decide) ?_
        exact ih p_0 v_1 (v_2 + 0) (v_3 + 1) N kk0 h
set_option maxHeartbeats 4000000 in
set_option maxRecDepth 100000 in
theorem T_X8_raisedOn {G : XG} {Y : XY} (hw : WT Y) {a0 : Nat} {a1 : Int32} {N : XN} (k100 : kc Y a0 = 18) {r9 : Int32} (h : f_X8_raisedOn Y a0 a1 N = some r9) : Cl G yX8_raisedOn cX8_raisedOn 4 (some .int) (xR 3 0 0) [.ref a0, .int a1] (.inl (some (.int r9))) Y N Y N := by
  refine x_entry (by decide) (Nat.le_of_ble_eq_true rfl) rfl ?_
  rw [f_X8_raisedOn] at h
  refine x_iconst (v := 0) dX8_raisedOn_0 rfl ?_
  refine x_istore_n [1, 2, 0] dX8_raisedOn_1 rfl (by decide) rfl ?_
  refine x_iconst (v := 0) dX8_raisedOn_2 rfl ?_
  refine x_istore_n [1, 2, 3, 0] dX8_raisedOn_3 rfl (by decide) rfl ?_
  exact T_X8_raisedOn_4 (G := G) hw FU a0 a1 0 0 N k100 h
set_option maxHeartbeats 4000000 in
set_option maxRecDepth 100000 in
theorem T_X8_raiseNow {G : XG} {Y : XY} (hw : WT Y) {a0 : Nat} {a1 : Int32} {N : XN} (k100 : kc Y a0 = 18) {N9 : XN} (h : f_X8_raiseNow Y a0 a1 N = some N9) : Cl G yX8_raiseNow cX8_raiseNow 6 none (xR 7 0 0) [.ref a0, .int a1] (.inl none) Y N Y N9 := by
  refine x_entry (by decide) (Nat.le_of_ble_eq_true rfl) rfl ?_
  rw [f_X8_raiseNow] at h
  refine x_iload_n 1 dX8_raiseNow_0 rfl rfl ?_
  refine x_cs (As := [.int a1]) (d' := 1) (zz := yX8_requestAt) dX8_raiseNow_1 ml_X8_203 wt_X8_requestAt wn_X8 wc_X8_requestAt hp_X8_requestAt (by decide) (by decide) rfl (Nat.le_of_ble_eq_true rfl) ⟨Nat.zero_le _, Nat.zero_le _⟩ (T_X8_requestAt (G := G) hw  rfl) ?_
  refine x_istore_n [1, 2, 0] dX8_raiseNow_4 rfl (by decide) rfl ?_
  refine x_aload_n 0 dX8_raiseNow_5 rfl rfl ?_
  obtain ⟨g1, k2, n3⟩ := wt_X8_8 hw k100
  refine x_getr dX8_raiseNow_6 (ci := 8) (f := 8) (M := 19) (C9 := RX8) (T9 := TX8) rfl xin8 (by decide) fl_X8_17 rfl k100 g1 ?_
  refine x_iload_n 2 dX8_raiseNow_9 rfl rfl ?_
  refine x_iconst (v := 0) dX8_raiseNow_10 rfl ?_
  refine x_iadd dX8_raiseNow_11 ?_
  obtain ⟨c4, h⟩ := x_ck h
  refine x_iald dX8_raiseNow_12 k2 (xb_at n3 c4) rfl ?_
  obtain ⟨v5, ev5, h⟩ := x_lt h
  refine x_nmi ev5 ?_
  refine x_istore_n [1, 2, 3, 0] dX8_raiseNow_13 rfl (by decide) rfl ?_
  refine x_iload_n 3 dX8_raiseNow_14 rfl rfl ?_
  refine x_cs (As := [.int v5]) (d' := 1) (zz := yX8_lineAt) dX8_raiseNow_15 ml_X8_200 wt_X8_lineAt wn_X8 wc_X8_lineAt hp_X8_lineAt (by decide) (by decide) rfl (Nat.le_of_ble_eq_true rfl) ⟨Nat.zero_le _, Nat.zero_le _⟩ (T_X8_lineAt (G := G) hw  rfl) ?_
  refine x_iconst (v := 2) dX8_raiseNow_18 rfl ?_
  refine x_iadd dX8_raiseNow_19 ?_
  obtain ⟨v6, ev6, h⟩ := x_lt h
  refine x_nmi ev6 ?_
  refine x_istore [1, 2, 3, 4, 0] dX8_raiseNow_20 (by decide) rfl ?_
  refine x_aload_n 0 dX8_raiseNow_22 rfl rfl ?_
  refine x_iload_n 3 dX8_raiseNow_23 rfl rfl ?_
  obtain ⟨r8, q7, h⟩ := x_bd1 h
  refine x_cv (b := a0) (As := [.int v5]) (ci := 8) (d' := 3) (zz := yX8_raisedOn) dX8_raiseNow_24 ml_X8_219 wi_X8_raisedOn wv_X8_raisedOn wn_X8 wc_X8_raisedOn hp_X8_raisedOn (by decide) (by decide) rfl (Nat.le_of_ble_eq_true rfl) ⟨Nat.zero_le _, Nat.zero_le _⟩ rfl k100 (T_X8_raisedOn (G := G) hw k100 q7) ?_
  refine x_iconst (v := 1) dX8_raiseNow_27 rfl ?_
  refine x_iadd dX8_raiseNow_28 ?_
  refine x_aload_n 0 dX8_raiseNow_29 rfl rfl ?_
  refine x_iload_n 3 dX8_raiseNow_30 rfl rfl ?_
  refine x_iconst (v := 1) dX8_raiseNow_31 rfl ?_
  obtain ⟨r10, q9, h⟩ := x_bd1 h
  refine x_cv (b := a0) (As := [.int v5, .int 1]) (ci := 8) (d' := 2) (zz := yX8_ofLine) dX8_raiseNow_32 ml_X8_222 wi_X8_ofLine wv_X8_ofLine wn_X8 wc_X8_ofLine hp_X8_ofLine (by decide) (by decide) rfl (Nat.le_of_ble_eq_true rfl) ⟨Nat.zero_le _, Nat.zero_le _⟩ rfl k100 (T_X8_ofLine (G := G) hw k100 q9) ?_
  rcases x_if h with ⟨c11, h⟩ | ⟨c11, h⟩
  · refine x_icmp_le_t (tgt := 105) dX8_raiseNow_35 (by decide) c11 ?_
    refine x_aload_n 0 dX8_raiseNow_105 rfl rfl ?_
    refine x_getr dX8_raiseNow_106 (ci := 8) (f := 8) (M := 19) (C9 := RX8) (T9 := TX8) rfl xin8 (by decide) fl_X8_17 rfl k100 g1 ?_
    refine x_iload_n 2 dX8_raiseNow_109 rfl rfl ?_
    refine x_iconst (v := 3) dX8_raiseNow_110 rfl ?_
    refine x_iadd dX8_raiseNow_111 ?_
    refine x_iconst (v := 1) dX8_raiseNow_112 rfl ?_
    obtain ⟨c12, h⟩ := x_ck h
    refine x_iast dX8_raiseNow_113 k2 (xb_at n3 c12) rfl ?_
    obtain ⟨N13, eN13, h⟩ := x_lt h
    refine x_nmN eN13 ?_
    refine x_aload_n 0 dX8_raiseNow_114 rfl rfl ?_
    refine x_getr dX8_raiseNow_115 (ci := 8) (f := 8) (M := 19) (C9 := RX8) (T9 := TX8) rfl xin8 (by decide) fl_X8_17 rfl k100 g1 ?_
    refine x_iload_n 2 dX8_raiseNow_118 rfl rfl ?_
    refine x_iconst (v := 5) dX8_raiseNow_119 rfl ?_
    refine x_iadd dX8_raiseNow_120 ?_
    refine x_aload_n 0 dX8_raiseNow_121 rfl rfl ?_
    refine x_getr dX8_raiseNow_122 (ci := 8) (f := 8) (M := 19) (C9 := RX8) (T9 := TX8) rfl xin8 (by decide) fl_X8_17 rfl k100 g1 ?_
    refine x_iload_n 2 dX8_raiseNow_125 rfl rfl ?_
    refine x_iconst (v := 2) dX8_raiseNow_126 rfl ?_
    refine x_iadd dX8_raiseNow_127 ?_
    obtain ⟨c14, h⟩ := x_ck h
    refine x_iald dX8_raiseNow_128 k2 (xb_at n3 c14) rfl ?_
    obtain ⟨c15, h⟩ := x_ck h
    refine x_iast dX8_raiseNow_129 k2 (xb_at n3 c15) rfl ?_
    obtain ⟨N16, eN16, h⟩ := x_lt h
    refine x_nmN eN16 ?_
    refine x_aload_n 0 dX8_raiseNow_130 rfl rfl ?_
    refine x_iload_n 1 dX8_raiseNow_131 rfl rfl ?_
    obtain ⟨N18, q17, h⟩ := x_bd1 h
    refine x_cv (b := a0) (As := [.int a1]) (ci := 8) (d' := 6) (zz := yX8_assign) dX8_raiseNow_132 ml_X8_225 wi_X8_assign wv_X8_assign wn_X8 wc_X8_assign hp_X8_assign (by decide) (by decide) rfl (Nat.le_of_ble_eq_true rfl) ⟨Nat.zero_le _, Nat.zero_le _⟩ rfl k100 (T_X8_assign (G := G) hw k100 q17) ?_
    obtain rfl := x_so h
    exact x_vret dX8_raiseNow_135 rfl rfl rfl
  · refine x_icmp_le_f (tgt := 105) dX8_raiseNow_35 (by decide) c11 ?_
    refine x_aload_n 0 dX8_raiseNow_38 rfl rfl ?_
    refine x_getr dX8_raiseNow_39 (ci := 8) (f := 8) (M := 19) (C9 := RX8) (T9 := TX8) rfl xin8 (by decide) fl_X8_17 rfl k100 g1 ?_
    refine x_bipush (v := 7) dX8_raiseNow_42 rfl ?_
    refine x_iald dX8_raiseNow_44 k2 (xb_at n3 (by decide)) rfl ?_
    refine x_aload_n 0 dX8_raiseNow_45 rfl rfl ?_
    refine x_getr dX8_raiseNow_46 (ci := 8) (f := 8) (M := 19) (C9 := RX8) (T9 := TX8) rfl xin8 (by decide) fl_X8_17 rfl k100 g1 ?_
    refine x_iload 4 dX8_raiseNow_49 rfl ?_
    obtain ⟨c19, h⟩ := x_ck h
    refine x_iald dX8_raiseNow_51 k2 (xb_at n3 c19) rfl ?_
    refine x_cs (As := [.int (gi N (gp Y a0 8) 7), .int (gi N (gp Y a0 8) v6.toNatClampNeg)]) (d' := 1) (zz := yX8_min) dX8_raiseNow_52 ml_X8_100 wt_X8_min wn_X8 wc_X8_min hp_X8_min (by decide) (by decide) rfl (Nat.le_of_ble_eq_true rfl) ⟨Nat.zero_le _, Nat.zero_le _⟩ (T_X8_min (G := G) hw  rfl) ?_
    obtain ⟨v20, ev20, h⟩ := x_lt h
    refine x_nmi ev20 ?_
    refine x_istore [1, 3, 5, 0] dX8_raiseNow_55 (by decide) rfl ?_
    refine x_aload_n 0 dX8_raiseNow_57 rfl rfl ?_
    refine x_getr dX8_raiseNow_58 (ci := 8) (f := 8) (M := 19) (C9 := RX8) (T9 := TX8) rfl xin8 (by decide) fl_X8_17 rfl k100 g1 ?_
    refine x_iload 2 dX8_raiseNow_61 rfl ?_
    refine x_dup2 dX8_raiseNow_63 rfl rfl ?_
    obtain ⟨c21, h⟩ := x_ck h
    refine x_iald dX8_raiseNow_64 k2 (xb_at n3 c21) rfl ?_
    refine x_iload 3 dX8_raiseNow_65 rfl ?_
    refine x_isub dX8_raiseNow_67 ?_
    obtain ⟨c22, h⟩ := x_ck h
    refine x_iast dX8_raiseNow_68 k2 (xb_at n3 c22) rfl ?_
    obtain ⟨N23, eN23, h⟩ := x_lt h
    refine x_nmN eN23 ?_
    refine x_aload_n 0 dX8_raiseNow_69 rfl rfl ?_
    refine x_getr dX8_raiseNow_70 (ci := 8) (f := 8) (M := 19) (C9 := RX8) (T9 := TX8) rfl xin8 (by decide) fl_X8_17 rfl k100 g1 ?_
    refine x_iconst (v := 4) dX8_raiseNow_73 rfl ?_
    refine x_dup2 dX8_raiseNow_74 rfl rfl ?_
    refine x_iald dX8_raiseNow_75 k2 (xb_at n3 (by decide)) rfl ?_
    refine x_iload 3 dX8_raiseNow_76 rfl ?_
    refine x_iadd dX8_raiseNow_78 ?_
    refine x_iast dX8_raiseNow_79 k2 (xb_at n3 (by decide)) rfl ?_
    obtain ⟨N24, eN24, h⟩ := x_lt h
    refine x_nmN eN24 ?_
    refine x_aload_n 0 dX8_raiseNow_80 rfl rfl ?_
    refine x_getr dX8_raiseNow_81 (ci := 8) (f := 8) (M := 19) (C9 := RX8) (T9 := TX8) rfl xin8 (by decide) fl_X8_17 rfl k100 g1 ?_
    refine x_iload_n 1 dX8_raiseNow_84 rfl rfl ?_
    refine x_iconst (v := 3) dX8_raiseNow_85 rfl ?_
    refine x_iadd dX8_raiseNow_86 ?_
    refine x_iconst (v := 3) dX8_raiseNow_87 rfl ?_
    obtain ⟨c25, h⟩ := x_ck h
    refine x_iast dX8_raiseNow_88 k2 (xb_at n3 c25) rfl ?_
    obtain ⟨N26, eN26, h⟩ := x_lt h
    refine x_nmN eN26 ?_
    refine x_aload_n 0 dX8_raiseNow_89 rfl rfl ?_
    refine x_getr dX8_raiseNow_90 (ci := 8) (f := 8) (M := 19) (C9 := RX8) (T9 := TX8) rfl xin8 (by decide) fl_X8_17 rfl k100 g1 ?_
    refine x_iload_n 1 dX8_raiseNow_93 rfl rfl ?_
    refine x_bipush (v := 6) dX8_raiseNow_94 rfl ?_
    refine x_iadd dX8_raiseNow_96 ?_
    refine x_aload_n 0 dX8_raiseNow_97 rfl rfl ?_
    refine x_getr dX8_raiseNow_98 (ci := 8) (f := 8) (M := 19) (C9 := RX8) (T9 := TX8) rfl xin8 (by decide) fl_X8_17 rfl k100 g1 ?_
    refine x_iconst (v := 0) dX8_raiseNow_101 rfl ?_
    refine x_iald dX8_raiseNow_102 k2 (xb_at n3 (by decide)) rfl ?_
    obtain ⟨c27, h⟩ := x_ck h
    refine x_iast dX8_raiseNow_103 k2 (xb_at n3 c27) rfl ?_
    obtain ⟨N28, eN28, h⟩ := x_lt h
    refine x_nmN eN28 ?_
    obtain rfl := x_so h
    exact x_vret dX8_raiseNow_104 rfl rfl rfl
set_option maxHeartbeats 4000000 in
set_option maxRecDepth 100000 in
theorem T_X8_mustPay_108 {G : XG} {Y : XY} (hw : WT Y) {N9 : XN}: ∀ (D9 : Nat) (p_0 : Nat) (v_1 : Int32) (v_7 : Int32) (N : XN), kc Y p_0 = 18 → f_X8_mustPay_108 Y D9 p_0 v_1 v_7 N = some N9 → Ex G yX8_mustPay cX8_mustPay 8 none (xR 7 0 0) (.inl none) Y N9 0 0 108 [(0, .ref p_0), (1, .int v_1), (7, .int v_7)] [] Y N := by
  intro D9
  induction D9 with
  | zero => intro p_0 v_1 v_7 N kk0 h; exact nomatch (show none = some N9 from h)
  | succ D9 ih =>
    intro p_0 v_1 v_7 N kk0 h
    rw [f_X8_mustPay_108] at h
    refine x_iload 2 dX8_mustPay_108 rfl ?_
    refine x_aload_n 0 dX8_mustPay_110 rfl rfl ?_
    obtain ⟨g1, k2, n3⟩ := wt_X8_8 hw kk0
    refine x_getr dX8_mustPay_111 (ci := 8) (f := 8) (M := 19) (C9 := RX8) (T9 := TX8) rfl xin8 (by decide) fl_X8_17 rfl kk0 g1 ?_
    refine x_iconst (v := 3) dX8_mustPay_114 rfl ?_
    refine x_iald dX8_mustPay_115 k2 (xb_at n3 (by decide)) rfl ?_
    rcases x_if h with ⟨c4, h⟩ | ⟨c4, h⟩
    · refine x_icmp_ge_t (tgt := 141) dX8_mustPay_116 (by decide) c4 ?_
      obtain rfl := x_so h
      exact x_vret dX8_mustPay_141 rfl rfl rfl
    · refine x_icmp_ge_f (tgt := 141) dX8_mustPay_116 (by decide) c4 ?_
      refine x_aload_n 0 dX8_mustPay_119 rfl rfl ?_
      refine x_iload_n 1 dX8_mustPay_120 rfl rfl ?_
      refine x_iload 2 dX8_mustPay_121 rfl ?_
      obtain ⟨r6, q5, h⟩ := x_bd1 h
      refine x_cv (b := p_0) (As := [.int v_1, .int v_7]) (ci := 8) (d' := 4) (zz := yX8_holds) dX8_mustPay_123 ml_X8_212 wi_X8_holds wv_X8_holds wn_X8 wc_X8_holds hp_X8_holds (by decide) (by decide) rfl (Nat.le_of_ble_eq_true rfl) ⟨Nat.zero_le _, Nat.zero_le _⟩ rfl kk0 (T_X8_holds (G := G) hw kk0 q5) ?_
      rcases x_if h with ⟨c7, h⟩ | ⟨c7, h⟩
      · refine x_if_eq_t (tgt := 135) dX8_mustPay_126 (by decide) c7 ?_
        refine x_iinc 2 [1, 2, 0] dX8_mustPay_135 rfl rfl (by decide) rfl ?_
        refine x_goto (tgt := 108) dX8_mustPay_138 (by decide) ?_
        exact ih p_0 v_1 (v_7 + 1) N kk0 h
      · refine x_if_eq_f (tgt := 135) dX8_mustPay_126 (by decide) c7 ?_
        refine x_aload_n 0 dX8_mustPay_129 rfl rfl ?_
        refine x_iload 2 dX8_mustPay_130 rfl ?_
        obtain ⟨N9, q8, h⟩ := x_bd1 h
        refine x_cv (b := p_0) (As := [.int v_7]) (ci := 8) (d' := 6) (zz := yX8_assign) dX8_mustPay_132 ml_X8_225 wi_X8_assign wv_X8_assign wn_X8 wc_X8_assign hp_X8_assign (by decide) (by decide) rfl (Nat.le_of_ble_eq_true rfl) ⟨Nat.zero_le _, Nat.zero_le _⟩ rfl kk0 (T_X8_assign (G := G) hw kk0 q8) ?_
        refine x_iinc 2 [1, 2, 0] dX8_mustPay_135 rfl rfl (by decide) rfl ?_
        refine x_goto (tgt := 108) dX8_mustPay_138 (by decide) ?_
        exact ih p_0 v_1 (v_7 + 1) N9 kk0 h
set_option maxHeartbeats 4000000 in
set_option maxRecDepth 100000 in
theorem T_X8_mustPay_81 {G : XG} {Y : XY} (hw : WT Y) {N9 : XN}: ∀ (D9 : Nat) (p_0 : Nat) (v_1 : Int32) (v_7 : Int32) (N : XN), kc Y p_0 = 18 → f_X8_mustPay_81 Y D9 p_0 v_1 v_7 N = some N9 → Ex G yX8_mustPay cX8_mustPay 8 none (xR 7 0 0) (.inl none) Y N9 0 0 81 [(0, .ref p_0), (1, .int v_1), (7, .int v_7)] [] Y N := by
  intro D9
  induction D9 with
  | zero => intro p_0 v_1 v_7 N kk0 h; exact nomatch (show none = some N9 from h)
  | succ D9 ih =>
    intro p_0 v_1 v_7 N kk0 h
    rw [f_X8_mustPay_81] at h
    refine x_iload 2 dX8_mustPay_81 rfl ?_
    refine x_aload_n 0 dX8_mustPay_83 rfl rfl ?_
    obtain ⟨g1, k2, n3⟩ := wt_X8_8 hw kk0
    refine x_getr dX8_mustPay_84 (ci := 8) (f := 8) (M := 19) (C9 := RX8) (T9 := TX8) rfl xin8 (by decide) fl_X8_17 rfl kk0 g1 ?_
    refine x_iconst (v := 2) dX8_mustPay_87 rfl ?_
    refine x_iald dX8_mustPay_88 k2 (xb_at n3 (by decide)) rfl ?_
    rcases x_if h with ⟨c4, h⟩ | ⟨c4, h⟩
    · refine x_icmp_ge_t (tgt := 105) dX8_mustPay_89 (by decide) c4 ?_
      refine x_iconst (v := 0) dX8_mustPay_105 rfl ?_
      refine x_istore [1, 2, 0] dX8_mustPay_106 (by decide) rfl ?_
      exact T_X8_mustPay_108 (G := G) hw FU p_0 v_1 0 N kk0 h
    · refine x_icmp_ge_f (tgt := 105) dX8_mustPay_89 (by decide) c4 ?_
      refine x_aload_n 0 dX8_mustPay_92 rfl rfl ?_
      refine x_iload_n 1 dX8_mustPay_93 rfl rfl ?_
      refine x_iload 2 dX8_mustPay_94 rfl ?_
      obtain ⟨N6, q5, h⟩ := x_bd1 h
      refine x_cv (b := p_0) (As := [.int v_1, .int v_7]) (ci := 8) (d' := 2) (zz := yX8_leave) dX8_mustPay_96 ml_X8_228 wi_X8_leave wv_X8_leave wn_X8 wc_X8_leave hp_X8_leave (by decide) (by decide) rfl (Nat.le_of_ble_eq_true rfl) ⟨Nat.zero_le _, Nat.zero_le _⟩ rfl kk0 (T_X8_leave (G := G) hw kk0 q5) ?_
      refine x_iinc 2 [1, 2, 0] dX8_mustPay_99 rfl rfl (by decide) rfl ?_
      refine x_goto (tgt := 81) dX8_mustPay_102 (by decide) ?_
      exact ih p_0 v_1 (v_7 + 1) N6 kk0 h
set_option maxHeartbeats 4000000 in
set_option maxRecDepth 100000 in
theorem T_X8_mustPay {G : XG} {Y : XY} (hw : WT Y) {a0 : Nat} {a1 : Int32} {a2 : Int32} {a3 : Int32} {a4 : Int32} {N : XN} (k100 : kc Y a0 = 18) {N9 : XN} (h : f_X8_mustPay Y a0 a1 a2 a3 a4 N = some N9) : Cl G yX8_mustPay cX8_mustPay 8 none (xR 7 0 0) [.ref a0, .int a1, .int a2, .int a3, .int a4] (.inl none) Y N Y N9 := by
  refine x_entry (by decide) (Nat.le_of_ble_eq_true rfl) rfl ?_
  rw [f_X8_mustPay] at h
  refine x_iload_n 1 dX8_mustPay_0 rfl rfl ?_
  refine x_cs (As := [.int a1]) (d' := 1) (zz := yX8_handlerAt) dX8_mustPay_1 ml_X8_197 wt_X8_handlerAt wn_X8 wc_X8_handlerAt hp_X8_handlerAt (by decide) (by decide) rfl (Nat.le_of_ble_eq_true rfl) ⟨Nat.zero_le _, Nat.zero_le _⟩ (T_X8_handlerAt (G := G) hw  rfl) ?_
  refine x_istore [1, 2, 3, 4, 5, 0] dX8_mustPay_4 (by decide) rfl ?_
  refine x_iload_n 2 dX8_mustPay_6 rfl rfl ?_
  refine x_aload_n 0 dX8_mustPay_7 rfl rfl ?_
  obtain ⟨g1, k2, n3⟩ := wt_X8_8 hw k100
  refine x_getr dX8_mustPay_8 (ci := 8) (f := 8) (M := 19) (C9 := RX8) (T9 := TX8) rfl xin8 (by decide) fl_X8_17 rfl k100 g1 ?_
  refine x_iload 5 dX8_mustPay_11 rfl ?_
  refine x_iconst (v := 0) dX8_mustPay_13 rfl ?_
  refine x_iadd dX8_mustPay_14 ?_
  obtain ⟨c4, h⟩ := x_ck h
  refine x_iald dX8_mustPay_15 k2 (xb_at n3 c4) rfl ?_
  refine x_cs (As := [.int a2, .int (gi N (gp Y a0 8) ((f_X8_handlerAt Y a1 N) + 0).toNatClampNeg)]) (d' := 1) (zz := yX8_min) dX8_mustPay_16 ml_X8_100 wt_X8_min wn_X8 wc_X8_min hp_X8_min (by decide) (by decide) rfl (Nat.le_of_ble_eq_true rfl) ⟨Nat.zero_le _, Nat.zero_le _⟩ (T_X8_min (G := G) hw  rfl) ?_
  obtain ⟨v5, ev5, h⟩ := x_lt h
  refine x_nmi ev5 ?_
  refine x_istore [1, 2, 3, 4, 5, 6, 0] dX8_mustPay_19 (by decide) rfl ?_
  refine x_aload_n 0 dX8_mustPay_21 rfl rfl ?_
  refine x_getr dX8_mustPay_22 (ci := 8) (f := 8) (M := 19) (C9 := RX8) (T9 := TX8) rfl xin8 (by decide) fl_X8_17 rfl k100 g1 ?_
  refine x_iload 5 dX8_mustPay_25 rfl ?_
  refine x_iconst (v := 0) dX8_mustPay_27 rfl ?_
  refine x_iadd dX8_mustPay_28 ?_
  refine x_dup2 dX8_mustPay_29 rfl rfl ?_
  obtain ⟨c6, h⟩ := x_ck h
  refine x_iald dX8_mustPay_30 k2 (xb_at n3 c6) rfl ?_
  refine x_iload 6 dX8_mustPay_31 rfl ?_
  refine x_isub dX8_mustPay_33 ?_
  obtain ⟨c7, h⟩ := x_ck h
  refine x_iast dX8_mustPay_34 k2 (xb_at n3 c7) rfl ?_
  obtain ⟨N8, eN8, h⟩ := x_lt h
  refine x_nmN eN8 ?_
  refine x_aload_n 0 dX8_mustPay_35 rfl rfl ?_
  refine x_getr dX8_mustPay_36 (ci := 8) (f := 8) (M := 19) (C9 := RX8) (T9 := TX8) rfl xin8 (by decide) fl_X8_17 rfl k100 g1 ?_
  refine x_iload 5 dX8_mustPay_39 rfl ?_
  refine x_iload_n 3 dX8_mustPay_41 rfl rfl ?_
  refine x_iadd dX8_mustPay_42 ?_
  refine x_dup2 dX8_mustPay_43 rfl rfl ?_
  obtain ⟨c9, h⟩ := x_ck h
  refine x_iald dX8_mustPay_44 k2 (xb_at n3 c9) rfl ?_
  refine x_iload 6 dX8_mustPay_45 rfl ?_
  refine x_iadd dX8_mustPay_47 ?_
  obtain ⟨c10, h⟩ := x_ck h
  refine x_iast dX8_mustPay_48 k2 (xb_at n3 c10) rfl ?_
  obtain ⟨N11, eN11, h⟩ := x_lt h
  refine x_nmN eN11 ?_
  refine x_aload_n 0 dX8_mustPay_49 rfl rfl ?_
  refine x_getr dX8_mustPay_50 (ci := 8) (f := 8) (M := 19) (C9 := RX8) (T9 := TX8) rfl xin8 (by decide) fl_X8_17 rfl k100 g1 ?_
  refine x_iload 4 dX8_mustPay_53 rfl ?_
  refine x_dup2 dX8_mustPay_55 rfl rfl ?_
  obtain ⟨c12, h⟩ := x_ck h
  refine x_iald dX8_mustPay_56 k2 (xb_at n3 c12) rfl ?_
  refine x_iload 6 dX8_mustPay_57 rfl ?_
  refine x_iadd dX8_mustPay_59 ?_
  obtain ⟨c13, h⟩ := x_ck h
  refine x_iast dX8_mustPay_60 k2 (xb_at n3 c13) rfl ?_
  obtain ⟨N14, eN14, h⟩ := x_lt h
  refine x_nmN eN14 ?_
  refine x_iload 6 dX8_mustPay_61 rfl ?_
  refine x_iload_n 2 dX8_mustPay_63 rfl rfl ?_
  rcases x_if h with ⟨c15, h⟩ | ⟨c15, h⟩
  · refine x_icmp_ne_f (tgt := 68) dX8_mustPay_64 (by decide) c15 ?_
    obtain rfl := x_so h
    exact x_vret dX8_mustPay_67 rfl rfl rfl
  · refine x_icmp_ne_t (tgt := 68) dX8_mustPay_64 (by decide) c15 ?_
    refine x_aload_n 0 dX8_mustPay_68 rfl rfl ?_
    refine x_getr dX8_mustPay_69 (ci := 8) (f := 8) (M := 19) (C9 := RX8) (T9 := TX8) rfl xin8 (by decide) fl_X8_17 rfl k100 g1 ?_
    refine x_iload 5 dX8_mustPay_72 rfl ?_
    refine x_iconst (v := 2) dX8_mustPay_74 rfl ?_
    refine x_iadd dX8_mustPay_75 ?_
    refine x_iconst (v := 1) dX8_mustPay_76 rfl ?_
    obtain ⟨c16, h⟩ := x_ck h
    refine x_iast dX8_mustPay_77 k2 (xb_at n3 c16) rfl ?_
    obtain ⟨N17, eN17, h⟩ := x_lt h
    refine x_nmN eN17 ?_
    refine x_iconst (v := 0) dX8_mustPay_78 rfl ?_
    refine x_istore [1, 2, 0] dX8_mustPay_79 (by decide) rfl ?_
    exact T_X8_mustPay_81 (G := G) hw FU a0 a1 0 N17 k100 h
set_option maxHeartbeats 4000000 in
set_option maxRecDepth 100000 in
theorem T_X8_limited {G : XG} {Y : XY} (hw : WT Y) {a0 : Int64} {N : XN}  {r9 : Int64} (h : f_X8_limited Y a0 N = r9) : Cl G yX8_limited cX8_limited 2 (some .long) (xR 1 0 0) [.long a0] (.inl (some (.long r9))) Y N Y N := by
  refine x_entry (by decide) (Nat.le_of_ble_eq_true rfl) rfl ?_
  rw [f_X8_limited] at h
  refine x_lload_n 0 dX8_limited_0 rfl rfl ?_
  refine x_ldc2 (v := 1000000) dX8_limited_1 kl_X8_231 ?_
  refine x_lcmp dX8_limited_4 ?_
  rcases x_if h with ⟨c1, h⟩ | ⟨c1, h⟩
  · refine x_if_le_t (tgt := 14) dX8_limited_5 (by decide) c1 ?_
    refine x_lload_n 0 dX8_limited_14 rfl rfl ?_
    refine x_ldc2 (v := (-1000000)) dX8_limited_15 kl_X8_233 ?_
    refine x_lcmp dX8_limited_18 ?_
    rcases x_if h with ⟨c2, h⟩ | ⟨c2, h⟩
    · refine x_if_ge_t (tgt := 28) dX8_limited_19 (by decide) c2 ?_
      refine x_lload_n 0 dX8_limited_28 rfl rfl ?_
      subst h
      exact x_lret dX8_limited_29 rfl rfl rfl
    · refine x_if_ge_f (tgt := 28) dX8_limited_19 (by decide) c2 ?_
      refine x_ldc2 (v := (-1000000)) dX8_limited_22 kl_X8_233 ?_
      refine x_goto (tgt := 29) dX8_limited_25 (by decide) ?_
      subst h
      exact x_lret dX8_limited_29 rfl rfl rfl
  · refine x_if_le_f (tgt := 14) dX8_limited_5 (by decide) c1 ?_
    refine x_ldc2 (v := 1000000) dX8_limited_8 kl_X8_231 ?_
    refine x_goto (tgt := 29) dX8_limited_11 (by decide) ?_
    subst h
    exact x_lret dX8_limited_29 rfl rfl rfl
set_option maxHeartbeats 4000000 in
set_option maxRecDepth 100000 in
theorem T_X8_operate {G : XG} {Y : XY} (hw : WT Y) {a0 : Int32} {a1 : Int64} {a2 : Int64} {N : XN}  {r9 : Int64} (h : f_X8_operate Y a0 a1 a2 N = some r9) : Cl G yX8_operate cX8_operate 5 (some .long) (xR 2 0 0) [.int a0, .long a1, .long a2] (.inl (some (.long r9))) Y N Y N := by
  refine x_entry (by decide) (Nat.le_of_ble_eq_true rfl) rfl ?_
  rw [f_X8_operate] at h
  refine x_iload_n 0 dX8_operate_0 rfl rfl ?_
  refine x_iconst (v := 5) dX8_operate_1 rfl ?_
  rcases x_if h with ⟨c1, h⟩ | ⟨c1, h⟩
  · refine x_icmp_ne_f (tgt := 19) dX8_operate_2 (by decide) c1 ?_
    refine x_lload_n 2 dX8_operate_5 rfl rfl ?_
    refine x_lconst (v := 0) dX8_operate_6 rfl ?_
    refine x_lcmp dX8_operate_7 ?_
    rcases x_if h with ⟨c2, h⟩ | ⟨c2, h⟩
    · refine x_if_ne_f (tgt := 15) dX8_operate_8 (by decide) c2 ?_
      refine x_lconst (v := 0) dX8_operate_11 rfl ?_
      refine x_goto (tgt := 18) dX8_operate_12 (by decide) ?_
      obtain rfl := x_so h
      exact x_lret dX8_operate_18 rfl rfl rfl
    · refine x_if_ne_t (tgt := 15) dX8_operate_8 (by decide) c2 ?_
      refine x_lload_n 1 dX8_operate_15 rfl rfl ?_
      refine x_lload_n 2 dX8_operate_16 rfl rfl ?_
      obtain ⟨c3, h⟩ := x_cn h
      refine x_ldiv dX8_operate_17 c3 ?_
      obtain rfl := x_so h
      exact x_lret dX8_operate_18 rfl rfl rfl
  · refine x_icmp_ne_t (tgt := 19) dX8_operate_2 (by decide) c1 ?_
    refine x_iload_n 0 dX8_operate_19 rfl rfl ?_
    refine x_iconst (v := 2) dX8_operate_20 rfl ?_
    rcases x_if h with ⟨c4, h⟩ | ⟨c4, h⟩
    · refine x_icmp_ne_f (tgt := 30) dX8_operate_21 (by decide) c4 ?_
      refine x_lload_n 1 dX8_operate_24 rfl rfl ?_
      refine x_lload_n 2 dX8_operate_25 rfl rfl ?_
      refine x_ladd dX8_operate_26 ?_
      refine x_goto (tgt := 44) dX8_operate_27 (by decide) ?_
      refine x_cs (As := [.long (a1 + a2)]) (d' := 1) (zz := yX8_limited) dX8_operate_44 ml_X8_235 wt_X8_limited wn_X8 wc_X8_limited hp_X8_limited (by decide) (by decide) rfl (Nat.le_of_ble_eq_true rfl) ⟨Nat.zero_le _, Nat.zero_le _⟩ (T_X8_limited (G := G) hw  rfl) ?_
      obtain rfl := x_so h
      exact x_lret dX8_operate_47 rfl rfl rfl
    · refine x_icmp_ne_t (tgt := 30) dX8_operate_21 (by decide) c4 ?_
      refine x_iload_n 0 dX8_operate_30 rfl rfl ?_
      refine x_iconst (v := 3) dX8_operate_31 rfl ?_
      rcases x_if h with ⟨c5, h⟩ | ⟨c5, h⟩
      · refine x_icmp_ne_f (tgt := 41) dX8_operate_32 (by decide) c5 ?_
        refine x_lload_n 1 dX8_operate_35 rfl rfl ?_
        refine x_lload_n 2 dX8_operate_36 rfl rfl ?_
        refine x_lsub dX8_operate_37 ?_
        refine x_goto (tgt := 44) dX8_operate_38 (by decide) ?_
        refine x_cs (As := [.long (a1 - a2)]) (d' := 1) (zz := yX8_limited) dX8_operate_44 ml_X8_235 wt_X8_limited wn_X8 wc_X8_limited hp_X8_limited (by decide) (by decide) rfl (Nat.le_of_ble_eq_true rfl) ⟨Nat.zero_le _, Nat.zero_le _⟩ (T_X8_limited (G := G) hw  rfl) ?_
        obtain rfl := x_so h
        exact x_lret dX8_operate_47 rfl rfl rfl
      · refine x_icmp_ne_t (tgt := 41) dX8_operate_32 (by decide) c5 ?_
        refine x_lload_n 1 dX8_operate_41 rfl rfl ?_
        refine x_lload_n 2 dX8_operate_42 rfl rfl ?_
        refine x_lmul dX8_operate_43 ?_
        refine x_cs (As := [.long (a1 * a2)]) (d' := 1) (zz := yX8_limited) dX8_operate_44 ml_X8_235 wt_X8_limited wn_X8 wc_X8_limited hp_X8_limited (by decide) (by decide) rfl (Nat.le_of_ble_eq_true rfl) ⟨Nat.zero_le _, Nat.zero_le _⟩ (T_X8_limited (G := G) hw  rfl) ?_
        obtain rfl := x_so h
        exact x_lret dX8_operate_47 rfl rfl rfl
set_option maxHeartbeats 4000000 in
set_option maxRecDepth 100000 in
theorem T_X8_fineOf_33 {G : XG} {Y : XY} (hw : WT Y) {r9 : Int32} {N9 : XN}: ∀ (D9 : Nat) (p_0 : Nat) (v_1 : Int32) (v_2 : Int32) (v_3 : Int32) (v_4 : Int32) (N : XN), kc Y p_0 = 18 → f_X8_fineOf_33 Y D9 p_0 v_1 v_2 v_3 v_4 N = some (r9, N9) → Ex G yX8_fineOf cX8_fineOf 7 (some .int) (xR 6 0 0) (.inl (some (.int r9))) Y N9 0 0 33 [(0, .ref p_0), (1, .int v_1), (2, .int v_2), (3, .int v_3), (4, .int v_4)] [] Y N := by
  intro D9
  induction D9 with
  | zero => intro p_0 v_1 v_2 v_3 v_4 N kk0 h; exact nomatch (show none = some (r9, N9) from h)
  | succ D9 ih =>
    intro p_0 v_1 v_2 v_3 v_4 N kk0 h
    rw [f_X8_fineOf_33] at h
    refine x_iload 4 dX8_fineOf_33 rfl ?_
    refine x_aload_n 0 dX8_fineOf_35 rfl rfl ?_
    obtain ⟨g1, k2, n3⟩ := wt_X8_8 hw kk0
    refine x_getr dX8_fineOf_36 (ci := 8) (f := 8) (M := 19) (C9 := RX8) (T9 := TX8) rfl xin8 (by decide) fl_X8_17 rfl kk0 g1 ?_
    refine x_bipush (v := 11) dX8_fineOf_39 rfl ?_
    refine x_iald dX8_fineOf_41 k2 (xb_at n3 (by decide)) rfl ?_
    rcases x_if h with ⟨c4, h⟩ | ⟨c4, h⟩
    · refine x_icmp_ge_t (tgt := 192) dX8_fineOf_42 (by decide) c4 ?_
      refine x_aload_n 0 dX8_fineOf_192 rfl rfl ?_
      obtain ⟨g5, k6, n7⟩ := wt_X8_17 hw kk0
      refine x_getr dX8_fineOf_193 (ci := 8) (f := 17) (M := 19) (C9 := RX8) (T9 := TX8) rfl xin8 (by decide) fl_X8_34 rfl kk0 g5 ?_
      refine x_iconst (v := 0) dX8_fineOf_196 rfl ?_
      refine x_lald dX8_fineOf_197 k6 (xb_at n7 (by decide)) rfl ?_
      refine x_lconst (v := 0) dX8_fineOf_198 rfl ?_
      refine x_lcmp dX8_fineOf_199 ?_
      rcases x_if h with ⟨c8, h⟩ | ⟨c8, h⟩
      · refine x_if_ge_t (tgt := 207) dX8_fineOf_200 (by decide) c8 ?_
        refine x_aload_n 0 dX8_fineOf_207 rfl rfl ?_
        refine x_getr dX8_fineOf_208 (ci := 8) (f := 17) (M := 19) (C9 := RX8) (T9 := TX8) rfl xin8 (by decide) fl_X8_34 rfl kk0 g5 ?_
        refine x_iconst (v := 0) dX8_fineOf_211 rfl ?_
        refine x_lald dX8_fineOf_212 k6 (xb_at n7 (by decide)) rfl ?_
        refine x_ldc2 (v := 9999) dX8_fineOf_213 kl_X8_243 ?_
        refine x_lcmp dX8_fineOf_216 ?_
        rcases x_if h with ⟨c9, h⟩ | ⟨c9, h⟩
        · refine x_if_le_t (tgt := 226) dX8_fineOf_217 (by decide) c9 ?_
          refine x_aload_n 0 dX8_fineOf_226 rfl rfl ?_
          refine x_getr dX8_fineOf_227 (ci := 8) (f := 17) (M := 19) (C9 := RX8) (T9 := TX8) rfl xin8 (by decide) fl_X8_34 rfl kk0 g5 ?_
          refine x_iconst (v := 0) dX8_fineOf_230 rfl ?_
          refine x_lald dX8_fineOf_231 k6 (xb_at n7 (by decide)) rfl ?_
          refine x_l2i dX8_fineOf_232 ?_
          obtain ⟨rfl, rfl⟩ := Prod.mk.inj (x_so h)
          exact x_iret dX8_fineOf_233 rfl rfl rfl
        · refine x_if_le_f (tgt := 226) dX8_fineOf_217 (by decide) c9 ?_
          refine x_sipush (v := 9999) dX8_fineOf_220 rfl ?_
          refine x_goto (tgt := 233) dX8_fineOf_223 (by decide) ?_
          obtain ⟨rfl, rfl⟩ := Prod.mk.inj (x_so h)
          exact x_iret dX8_fineOf_233 rfl rfl rfl
      · refine x_if_ge_f (tgt := 207) dX8_fineOf_200 (by decide) c8 ?_
        refine x_iconst (v := 0) dX8_fineOf_203 rfl ?_
        refine x_goto (tgt := 233) dX8_fineOf_204 (by decide) ?_
        obtain ⟨rfl, rfl⟩ := Prod.mk.inj (x_so h)
        exact x_iret dX8_fineOf_233 rfl rfl rfl
    · refine x_icmp_ge_f (tgt := 192) dX8_fineOf_42 (by decide) c4 ?_
      refine x_aload_n 0 dX8_fineOf_45 rfl rfl ?_
      refine x_getr dX8_fineOf_46 (ci := 8) (f := 8) (M := 19) (C9 := RX8) (T9 := TX8) rfl xin8 (by decide) fl_X8_17 rfl kk0 g1 ?_
      refine x_sipush (v := 584) dX8_fineOf_49 rfl ?_
      refine x_iload 4 dX8_fineOf_52 rfl ?_
      refine x_iadd dX8_fineOf_54 ?_
      obtain ⟨c10, h⟩ := x_ck h
      refine x_iald dX8_fineOf_55 k2 (xb_at n3 c10) rfl ?_
      obtain ⟨v11, ev11, h⟩ := x_lt h
      refine x_nmi ev11 ?_
      refine x_istore [1, 2, 3, 4, 5, 0] dX8_fineOf_56 (by decide) rfl ?_
      refine x_iload 5 dX8_fineOf_58 rfl ?_
      refine x_iconst (v := 1) dX8_fineOf_60 rfl ?_
      rcases x_if h with ⟨c12, h⟩ | ⟨c12, h⟩
      · refine x_icmp_gt_t (tgt := 156) dX8_fineOf_61 (by decide) c12 ?_
        refine x_iinc 2 [1, 2, 0, 3, 4, 5] dX8_fineOf_156 rfl rfl (by decide) rfl ?_
        refine x_aload_n 0 dX8_fineOf_159 rfl rfl ?_
        obtain ⟨g13, k14, n15⟩ := wt_X8_17 hw kk0
        refine x_getr dX8_fineOf_160 (ci := 8) (f := 17) (M := 19) (C9 := RX8) (T9 := TX8) rfl xin8 (by decide) fl_X8_34 rfl kk0 g13 ?_
        refine x_iload_n 2 dX8_fineOf_163 rfl rfl ?_
        refine x_iconst (v := 1) dX8_fineOf_164 rfl ?_
        refine x_isub dX8_fineOf_165 ?_
        refine x_iload 5 dX8_fineOf_166 rfl ?_
        refine x_aload_n 0 dX8_fineOf_168 rfl rfl ?_
        refine x_getr dX8_fineOf_169 (ci := 8) (f := 17) (M := 19) (C9 := RX8) (T9 := TX8) rfl xin8 (by decide) fl_X8_34 rfl kk0 g13 ?_
        refine x_iload_n 2 dX8_fineOf_172 rfl rfl ?_
        refine x_iconst (v := 1) dX8_fineOf_173 rfl ?_
        refine x_isub dX8_fineOf_174 ?_
        obtain ⟨c16, h⟩ := x_ck h
        refine x_lald dX8_fineOf_175 k14 (xb_at n15 c16) rfl ?_
        refine x_aload_n 0 dX8_fineOf_176 rfl rfl ?_
        refine x_getr dX8_fineOf_177 (ci := 8) (f := 17) (M := 19) (C9 := RX8) (T9 := TX8) rfl xin8 (by decide) fl_X8_34 rfl kk0 g13 ?_
        refine x_iload_n 2 dX8_fineOf_180 rfl rfl ?_
        obtain ⟨c17, h⟩ := x_ck h
        refine x_lald dX8_fineOf_181 k14 (xb_at n15 c17) rfl ?_
        obtain ⟨r19, q18, h⟩ := x_bd1 h
        refine x_cs (As := [.int v11, .long (gl N (gp Y p_0 17) ((v_2 + (-1)) - 1).toNatClampNeg), .long (gl N (gp Y p_0 17) (v_2 + (-1)).toNatClampNeg)]) (d' := 2) (zz := yX8_operate) dX8_fineOf_182 ml_X8_239 wt_X8_operate wn_X8 wc_X8_operate hp_X8_operate (by decide) (by decide) rfl (Nat.le_of_ble_eq_true rfl) ⟨Nat.zero_le _, Nat.zero_le _⟩ (T_X8_operate (G := G) hw  q18) ?_
        obtain ⟨c20, h⟩ := x_ck h
        refine x_last dX8_fineOf_185 k14 (xb_at n15 c20) rfl ?_
        obtain ⟨N21, eN21, h⟩ := x_lt h
        refine x_nmN eN21 ?_
        refine x_iinc 4 [1, 2, 3, 4, 0] dX8_fineOf_186 rfl rfl (by decide) rfl ?_
        refine x_goto (tgt := 33) dX8_fineOf_189 (by decide) ?_
        exact ih p_0 v_1 (v_2 + (-1)) v_3 (v_4 + 1) N21 kk0 h
      · refine x_icmp_gt_f (tgt := 156) dX8_fineOf_61 (by decide) c12 ?_
        refine x_iinc 4 [1, 2, 3, 4, 0, 5] dX8_fineOf_64 rfl rfl (by decide) rfl ?_
        refine x_aload_n 0 dX8_fineOf_67 rfl rfl ?_
        refine x_getr dX8_fineOf_68 (ci := 8) (f := 8) (M := 19) (C9 := RX8) (T9 := TX8) rfl xin8 (by decide) fl_X8_17 rfl kk0 g1 ?_
        refine x_sipush (v := 584) dX8_fineOf_71 rfl ?_
        refine x_iload 4 dX8_fineOf_74 rfl ?_
        refine x_iadd dX8_fineOf_76 ?_
        obtain ⟨c22, h⟩ := x_ck h
        refine x_iald dX8_fineOf_77 k2 (xb_at n3 c22) rfl ?_
        obtain ⟨v23, ev23, h⟩ := x_lt h
        refine x_nmi ev23 ?_
        refine x_istore [1, 2, 3, 4, 5, 6, 0] dX8_fineOf_78 (by decide) rfl ?_
        refine x_aload_n 0 dX8_fineOf_80 rfl rfl ?_
        obtain ⟨g24, k25, n26⟩ := wt_X8_17 hw kk0
        refine x_getr dX8_fineOf_81 (ci := 8) (f := 17) (M := 19) (C9 := RX8) (T9 := TX8) rfl xin8 (by decide) fl_X8_34 rfl kk0 g24 ?_
        refine x_iload_n 2 dX8_fineOf_84 rfl rfl ?_
        refine x_iload 5 dX8_fineOf_85 rfl ?_
        rcases x_if h with ⟨c27, h⟩ | ⟨c27, h⟩
        · refine x_if_ne_f (tgt := 96) dX8_fineOf_87 (by decide) c27 ?_
          refine x_iload 6 dX8_fineOf_90 rfl ?_
          refine x_i2l dX8_fineOf_92 ?_
          refine x_goto (tgt := 149) dX8_fineOf_93 (by decide) ?_
          obtain ⟨c28, h⟩ := x_ck h
          refine x_last dX8_fineOf_149 k25 (xb_at n26 c28) rfl ?_
          obtain ⟨N29, eN29, h⟩ := x_lt h
          refine x_nmN eN29 ?_
          refine x_iinc 2 [1, 2, 0, 3, 4] dX8_fineOf_150 rfl rfl (by decide) rfl ?_
          refine x_goto (tgt := 186) dX8_fineOf_153 (by decide) ?_
          refine x_iinc 4 [1, 2, 3, 4, 0] dX8_fineOf_186 rfl rfl (by decide) rfl ?_
          refine x_goto (tgt := 33) dX8_fineOf_189 (by decide) ?_
          exact ih p_0 v_1 (v_2 + 1) v_3 ((v_4 + 1) + 1) N29 kk0 h
        · refine x_if_ne_t (tgt := 96) dX8_fineOf_87 (by decide) c27 ?_
          refine x_iload 6 dX8_fineOf_96 rfl ?_
          rcases x_if h with ⟨c30, h⟩ | ⟨c30, h⟩
          · refine x_if_ne_f (tgt := 111) dX8_fineOf_98 (by decide) c30 ?_
            refine x_aload_n 0 dX8_fineOf_101 rfl rfl ?_
            refine x_iload_n 1 dX8_fineOf_102 rfl rfl ?_
            refine x_iconst (v := 0) dX8_fineOf_103 rfl ?_
            obtain ⟨r32, q31, h⟩ := x_bd1 h
            refine x_cv (b := p_0) (As := [.int v_1, .int 0]) (ci := 8) (d' := 2) (zz := yX8_ofRequest) dX8_fineOf_104 ml_X8_206 wi_X8_ofRequest wv_X8_ofRequest wn_X8 wc_X8_ofRequest hp_X8_ofRequest (by decide) (by decide) rfl (Nat.le_of_ble_eq_true rfl) ⟨Nat.zero_le _, Nat.zero_le _⟩ rfl kk0 (T_X8_ofRequest (G := G) hw kk0 q31) ?_
            refine x_i2l dX8_fineOf_107 ?_
            refine x_goto (tgt := 149) dX8_fineOf_108 (by decide) ?_
            obtain ⟨c33, h⟩ := x_ck h
            refine x_last dX8_fineOf_149 k25 (xb_at n26 c33) rfl ?_
            obtain ⟨N34, eN34, h⟩ := x_lt h
            refine x_nmN eN34 ?_
            refine x_iinc 2 [1, 2, 0, 3, 4] dX8_fineOf_150 rfl rfl (by decide) rfl ?_
            refine x_goto (tgt := 186) dX8_fineOf_153 (by decide) ?_
            refine x_iinc 4 [1, 2, 3, 4, 0] dX8_fineOf_186 rfl rfl (by decide) rfl ?_
            refine x_goto (tgt := 33) dX8_fineOf_189 (by decide) ?_
            exact ih p_0 v_1 (v_2 + 1) v_3 ((v_4 + 1) + 1) N34 kk0 h
          · refine x_if_ne_t (tgt := 111) dX8_fineOf_98 (by decide) c30 ?_
            refine x_iload 6 dX8_fineOf_111 rfl ?_
            refine x_iconst (v := 1) dX8_fineOf_113 rfl ?_
            rcases x_if h with ⟨c35, h⟩ | ⟨c35, h⟩
            · refine x_icmp_ne_f (tgt := 127) dX8_fineOf_114 (by decide) c35 ?_
              refine x_aload_n 0 dX8_fineOf_117 rfl rfl ?_
              refine x_iload_n 1 dX8_fineOf_118 rfl rfl ?_
              refine x_iconst (v := 5) dX8_fineOf_119 rfl ?_
              obtain ⟨r37, q36, h⟩ := x_bd1 h
              refine x_cv (b := p_0) (As := [.int v_1, .int 5]) (ci := 8) (d' := 2) (zz := yX8_ofRequest) dX8_fineOf_120 ml_X8_206 wi_X8_ofRequest wv_X8_ofRequest wn_X8 wc_X8_ofRequest hp_X8_ofRequest (by decide) (by decide) rfl (Nat.le_of_ble_eq_true rfl) ⟨Nat.zero_le _, Nat.zero_le _⟩ rfl kk0 (T_X8_ofRequest (G := G) hw kk0 q36) ?_
              refine x_i2l dX8_fineOf_123 ?_
              refine x_goto (tgt := 149) dX8_fineOf_124 (by decide) ?_
              obtain ⟨c38, h⟩ := x_ck h
              refine x_last dX8_fineOf_149 k25 (xb_at n26 c38) rfl ?_
              obtain ⟨N39, eN39, h⟩ := x_lt h
              refine x_nmN eN39 ?_
              refine x_iinc 2 [1, 2, 0, 3, 4] dX8_fineOf_150 rfl rfl (by decide) rfl ?_
              refine x_goto (tgt := 186) dX8_fineOf_153 (by decide) ?_
              refine x_iinc 4 [1, 2, 3, 4, 0] dX8_fineOf_186 rfl rfl (by decide) rfl ?_
              refine x_goto (tgt := 33) dX8_fineOf_189 (by decide) ?_
              exact ih p_0 v_1 (v_2 + 1) v_3 ((v_4 + 1) + 1) N39 kk0 h
            · refine x_icmp_ne_t (tgt := 127) dX8_fineOf_114 (by decide) c35 ?_
              refine x_iload 6 dX8_fineOf_127 rfl ?_
              refine x_iconst (v := 2) dX8_fineOf_129 rfl ?_
              rcases x_if h with ⟨c40, h⟩ | ⟨c40, h⟩
              · refine x_icmp_ne_f (tgt := 147) dX8_fineOf_130 (by decide) c40 ?_
                refine x_aload_n 0 dX8_fineOf_133 rfl rfl ?_
                refine x_aload_n 0 dX8_fineOf_134 rfl rfl ?_
                refine x_iload_n 1 dX8_fineOf_135 rfl rfl ?_
                refine x_iconst (v := 4) dX8_fineOf_136 rfl ?_
                obtain ⟨r42, q41, h⟩ := x_bd1 h
                refine x_cv (b := p_0) (As := [.int v_1, .int 4]) (ci := 8) (d' := 2) (zz := yX8_ofRequest) dX8_fineOf_137 ml_X8_206 wi_X8_ofRequest wv_X8_ofRequest wn_X8 wc_X8_ofRequest hp_X8_ofRequest (by decide) (by decide) rfl (Nat.le_of_ble_eq_true rfl) ⟨Nat.zero_le _, Nat.zero_le _⟩ rfl kk0 (T_X8_ofRequest (G := G) hw kk0 q41) ?_
                obtain ⟨r44, q43, h⟩ := x_bd1 h
                refine x_cv (b := p_0) (As := [.int r42]) (ci := 8) (d' := 5) (zz := yX8_heldBy) dX8_fineOf_140 ml_X8_216 wi_X8_heldBy wv_X8_heldBy wn_X8 wc_X8_heldBy hp_X8_heldBy (by decide) (by decide) rfl (Nat.le_of_ble_eq_true rfl) ⟨Nat.zero_le _, Nat.zero_le _⟩ rfl kk0 (T_X8_heldBy (G := G) hw kk0 q43) ?_
                refine x_i2l dX8_fineOf_143 ?_
                refine x_goto (tgt := 149) dX8_fineOf_144 (by decide) ?_
                obtain ⟨c45, h⟩ := x_ck h
                refine x_last dX8_fineOf_149 k25 (xb_at n26 c45) rfl ?_
                obtain ⟨N46, eN46, h⟩ := x_lt h
                refine x_nmN eN46 ?_
                refine x_iinc 2 [1, 2, 0, 3, 4] dX8_fineOf_150 rfl rfl (by decide) rfl ?_
                refine x_goto (tgt := 186) dX8_fineOf_153 (by decide) ?_
                refine x_iinc 4 [1, 2, 3, 4, 0] dX8_fineOf_186 rfl rfl (by decide) rfl ?_
                refine x_goto (tgt := 33) dX8_fineOf_189 (by decide) ?_
                exact ih p_0 v_1 (v_2 + 1) v_3 ((v_4 + 1) + 1) N46 kk0 h
              · refine x_icmp_ne_t (tgt := 147) dX8_fineOf_130 (by decide) c40 ?_
                refine x_iload_n 3 dX8_fineOf_147 rfl rfl ?_
                refine x_i2l dX8_fineOf_148 ?_
                obtain ⟨c47, h⟩ := x_ck h
                refine x_last dX8_fineOf_149 k25 (xb_at n26 c47) rfl ?_
                obtain ⟨N48, eN48, h⟩ := x_lt h
                refine x_nmN eN48 ?_
                refine x_iinc 2 [1, 2, 0, 3, 4] dX8_fineOf_150 rfl rfl (by decide) rfl ?_
                refine x_goto (tgt := 186) dX8_fineOf_153 (by decide) ?_
                refine x_iinc 4 [1, 2, 3, 4, 0] dX8_fineOf_186 rfl rfl (by decide) rfl ?_
                refine x_goto (tgt := 33) dX8_fineOf_189 (by decide) ?_
                exact ih p_0 v_1 (v_2 + 1) v_3 ((v_4 + 1) + 1) N48 kk0 h
set_option maxHeartbeats 4000000 in
set_option maxRecDepth 100000 in
theorem T_X8_fineOf {G : XG} {Y : XY} (hw : WT Y) {a0 : Nat} {a1 : Int32} {N : XN} (k100 : kc Y a0 = 18) {r9 : Int32} {N9 : XN} (h : f_X8_fineOf Y a0 a1 N = some (r9, N9)) : Cl G yX8_fineOf cX8_fineOf 7 (some .int) (xR 6 0 0) [.ref a0, .int a1] (.inl (some (.int r9))) Y N Y N9 := by
  refine x_entry (by decide) (Nat.le_of_ble_eq_true rfl) rfl ?_
  rw [f_X8_fineOf] at h
  refine x_iconst (v := 0) dX8_fineOf_0 rfl ?_
  refine x_istore_n [1, 2, 0] dX8_fineOf_1 rfl (by decide) rfl ?_
  refine x_aload_n 0 dX8_fineOf_2 rfl rfl ?_
  obtain ⟨g1, k2, n3⟩ := wt_X8_8 hw k100
  refine x_getr dX8_fineOf_3 (ci := 8) (f := 8) (M := 19) (C9 := RX8) (T9 := TX8) rfl xin8 (by decide) fl_X8_17 rfl k100 g1 ?_
  refine x_iconst (v := 0) dX8_fineOf_6 rfl ?_
  refine x_iald dX8_fineOf_7 k2 (xb_at n3 (by decide)) rfl ?_
  refine x_aload_n 0 dX8_fineOf_8 rfl rfl ?_
  refine x_iload_n 1 dX8_fineOf_9 rfl rfl ?_
  refine x_bipush (v := 7) dX8_fineOf_10 rfl ?_
  obtain ⟨r5, q4, h⟩ := x_bd1 h
  refine x_cv (b := a0) (As := [.int a1, .int 7]) (ci := 8) (d' := 2) (zz := yX8_ofRequest) dX8_fineOf_12 ml_X8_206 wi_X8_ofRequest wv_X8_ofRequest wn_X8 wc_X8_ofRequest hp_X8_ofRequest (by decide) (by decide) rfl (Nat.le_of_ble_eq_true rfl) ⟨Nat.zero_le _, Nat.zero_le _⟩ rfl k100 (T_X8_ofRequest (G := G) hw k100 q4) ?_
  refine x_isub dX8_fineOf_15 ?_
  obtain ⟨v6, ev6, h⟩ := x_lt h
  refine x_nmi ev6 ?_
  refine x_istore_n [1, 2, 3, 0] dX8_fineOf_16 rfl (by decide) rfl ?_
  refine x_aload_n 0 dX8_fineOf_17 rfl rfl ?_
  obtain ⟨g7, k8, n9⟩ := wt_X8_17 hw k100
  refine x_getr dX8_fineOf_18 (ci := 8) (f := 17) (M := 19) (C9 := RX8) (T9 := TX8) rfl xin8 (by decide) fl_X8_34 rfl k100 g7 ?_
  refine x_iconst (v := 0) dX8_fineOf_21 rfl ?_
  refine x_aload_n 0 dX8_fineOf_22 rfl rfl ?_
  refine x_iload_n 1 dX8_fineOf_23 rfl rfl ?_
  refine x_iconst (v := 5) dX8_fineOf_24 rfl ?_
  obtain ⟨r11, q10, h⟩ := x_bd1 h
  refine x_cv (b := a0) (As := [.int a1, .int 5]) (ci := 8) (d' := 2) (zz := yX8_ofRequest) dX8_fineOf_25 ml_X8_206 wi_X8_ofRequest wv_X8_ofRequest wn_X8 wc_X8_ofRequest hp_X8_ofRequest (by decide) (by decide) rfl (Nat.le_of_ble_eq_true rfl) ⟨Nat.zero_le _, Nat.zero_le _⟩ rfl k100 (T_X8_ofRequest (G := G) hw k100 q10) ?_
  refine x_i2l dX8_fineOf_28 ?_
  refine x_last dX8_fineOf_29 k8 (xb_at n9 (by decide)) rfl ?_
  obtain ⟨N12, eN12, h⟩ := x_lt h
  refine x_nmN eN12 ?_
  refine x_iconst (v := 0) dX8_fineOf_30 rfl ?_
  refine x_istore [1, 2, 3, 4, 0] dX8_fineOf_31 (by decide) rfl ?_
  exact T_X8_fineOf_33 (G := G) hw FU a0 a1 0 v6 0 N12 k100 h
set_option maxHeartbeats 4000000 in
set_option maxRecDepth 100000 in
theorem T_X8_answer {G : XG} {Y : XY} (hw : WT Y) {a0 : Nat} {a1 : Int32} {a2 : Int32} {N : XN} (k100 : kc Y a0 = 18) {N9 : XN} (h : f_X8_answer Y a0 a1 a2 N = some N9) : Cl G yX8_answer cX8_answer 6 none (xR 2 0 0) [.ref a0, .int a1, .int a2] (.inl none) Y N Y N9 := by
  refine x_entry (by decide) (Nat.le_of_ble_eq_true rfl) rfl ?_
  rw [f_X8_answer] at h
  refine x_iload_n 1 dX8_answer_0 rfl rfl ?_
  refine x_cs (As := [.int a1]) (d' := 1) (zz := yX8_requestAt) dX8_answer_1 ml_X8_203 wt_X8_requestAt wn_X8 wc_X8_requestAt hp_X8_requestAt (by decide) (by decide) rfl (Nat.le_of_ble_eq_true rfl) ⟨Nat.zero_le _, Nat.zero_le _⟩ (T_X8_requestAt (G := G) hw  rfl) ?_
  refine x_istore_n [1, 3, 0] dX8_answer_4 rfl (by decide) rfl ?_
  refine x_aload_n 0 dX8_answer_5 rfl rfl ?_
  obtain ⟨g1, k2, n3⟩ := wt_X8_8 hw k100
  refine x_getr dX8_answer_6 (ci := 8) (f := 8) (M := 19) (C9 := RX8) (T9 := TX8) rfl xin8 (by decide) fl_X8_17 rfl k100 g1 ?_
  refine x_iload_n 2 dX8_answer_9 rfl rfl ?_
  refine x_iconst (v := 0) dX8_answer_10 rfl ?_
  refine x_iadd dX8_answer_11 ?_
  obtain ⟨c4, h⟩ := x_ck h
  refine x_iald dX8_answer_12 k2 (xb_at n3 c4) rfl ?_
  refine x_cs (As := [.int (gi N (gp Y a0 8) ((f_X8_requestAt Y a1 N) + 0).toNatClampNeg)]) (d' := 1) (zz := yX8_lineAt) dX8_answer_13 ml_X8_200 wt_X8_lineAt wn_X8 wc_X8_lineAt hp_X8_lineAt (by decide) (by decide) rfl (Nat.le_of_ble_eq_true rfl) ⟨Nat.zero_le _, Nat.zero_le _⟩ (T_X8_lineAt (G := G) hw  rfl) ?_
  refine x_iconst (v := 2) dX8_answer_16 rfl ?_
  refine x_iadd dX8_answer_17 ?_
  obtain ⟨v5, ev5, h⟩ := x_lt h
  refine x_nmi ev5 ?_
  refine x_istore [1, 2, 3, 0] dX8_answer_18 (by decide) rfl ?_
  refine x_aload_n 0 dX8_answer_20 rfl rfl ?_
  refine x_getr dX8_answer_21 (ci := 8) (f := 8) (M := 19) (C9 := RX8) (T9 := TX8) rfl xin8 (by decide) fl_X8_17 rfl k100 g1 ?_
  refine x_iload 3 dX8_answer_24 rfl ?_
  obtain ⟨c6, h⟩ := x_ck h
  refine x_iald dX8_answer_26 k2 (xb_at n3 c6) rfl ?_
  refine x_aload_n 0 dX8_answer_27 rfl rfl ?_
  refine x_getr dX8_answer_28 (ci := 8) (f := 8) (M := 19) (C9 := RX8) (T9 := TX8) rfl xin8 (by decide) fl_X8_17 rfl k100 g1 ?_
  refine x_bipush (v := 9) dX8_answer_31 rfl ?_
  refine x_iald dX8_answer_33 k2 (xb_at n3 (by decide)) rfl ?_
  refine x_aload_n 0 dX8_answer_34 rfl rfl ?_
  refine x_getr dX8_answer_35 (ci := 8) (f := 8) (M := 19) (C9 := RX8) (T9 := TX8) rfl xin8 (by decide) fl_X8_17 rfl k100 g1 ?_
  refine x_iload_n 2 dX8_answer_38 rfl rfl ?_
  refine x_iconst (v := 2) dX8_answer_39 rfl ?_
  refine x_iadd dX8_answer_40 ?_
  obtain ⟨c7, h⟩ := x_ck h
  refine x_iald dX8_answer_41 k2 (xb_at n3 c7) rfl ?_
  refine x_imul dX8_answer_42 ?_
  refine x_cs (As := [.int (gi N (gp Y a0 8) v5.toNatClampNeg), .int ((gi N (gp Y a0 8) 9) * (gi N (gp Y a0 8) ((f_X8_requestAt Y a1 N) + 2).toNatClampNeg))]) (d' := 1) (zz := yX8_min) dX8_answer_43 ml_X8_100 wt_X8_min wn_X8 wc_X8_min hp_X8_min (by decide) (by decide) rfl (Nat.le_of_ble_eq_true rfl) ⟨Nat.zero_le _, Nat.zero_le _⟩ (T_X8_min (G := G) hw  rfl) ?_
  obtain ⟨v8, ev8, h⟩ := x_lt h
  refine x_nmi ev8 ?_
  refine x_istore [1, 2, 3, 4, 0] dX8_answer_46 (by decide) rfl ?_
  refine x_aload_n 0 dX8_answer_48 rfl rfl ?_
  refine x_getr dX8_answer_49 (ci := 8) (f := 8) (M := 19) (C9 := RX8) (T9 := TX8) rfl xin8 (by decide) fl_X8_17 rfl k100 g1 ?_
  refine x_iload_n 2 dX8_answer_52 rfl rfl ?_
  refine x_iconst (v := 3) dX8_answer_53 rfl ?_
  refine x_iadd dX8_answer_54 ?_
  refine x_iconst (v := 2) dX8_answer_55 rfl ?_
  obtain ⟨c9, h⟩ := x_ck h
  refine x_iast dX8_answer_56 k2 (xb_at n3 c9) rfl ?_
  obtain ⟨N10, eN10, h⟩ := x_lt h
  refine x_nmN eN10 ?_
  refine x_aload_n 0 dX8_answer_57 rfl rfl ?_
  refine x_getr dX8_answer_58 (ci := 8) (f := 8) (M := 19) (C9 := RX8) (T9 := TX8) rfl xin8 (by decide) fl_X8_17 rfl k100 g1 ?_
  refine x_iload_n 2 dX8_answer_61 rfl rfl ?_
  refine x_bipush (v := 6) dX8_answer_62 rfl ?_
  refine x_iadd dX8_answer_64 ?_
  refine x_aload_n 0 dX8_answer_65 rfl rfl ?_
  refine x_getr dX8_answer_66 (ci := 8) (f := 8) (M := 19) (C9 := RX8) (T9 := TX8) rfl xin8 (by decide) fl_X8_17 rfl k100 g1 ?_
  refine x_iconst (v := 0) dX8_answer_69 rfl ?_
  refine x_iald dX8_answer_70 k2 (xb_at n3 (by decide)) rfl ?_
  obtain ⟨c11, h⟩ := x_ck h
  refine x_iast dX8_answer_71 k2 (xb_at n3 c11) rfl ?_
  obtain ⟨N12, eN12, h⟩ := x_lt h
  refine x_nmN eN12 ?_
  refine x_aload_n 0 dX8_answer_72 rfl rfl ?_
  refine x_getr dX8_answer_73 (ci := 8) (f := 8) (M := 19) (C9 := RX8) (T9 := TX8) rfl xin8 (by decide) fl_X8_17 rfl k100 g1 ?_
  refine x_iload_n 2 dX8_answer_76 rfl rfl ?_
  refine x_iconst (v := 4) dX8_answer_77 rfl ?_
  refine x_iadd dX8_answer_78 ?_
  refine x_iconst (v := (-1)) dX8_answer_79 rfl ?_
  obtain ⟨c13, h⟩ := x_ck h
  refine x_iast dX8_answer_80 k2 (xb_at n3 c13) rfl ?_
  obtain ⟨N14, eN14, h⟩ := x_lt h
  refine x_nmN eN14 ?_
  refine x_aload_n 0 dX8_answer_81 rfl rfl ?_
  refine x_getr dX8_answer_82 (ci := 8) (f := 8) (M := 19) (C9 := RX8) (T9 := TX8) rfl xin8 (by decide) fl_X8_17 rfl k100 g1 ?_
  refine x_iload 3 dX8_answer_85 rfl ?_
  refine x_dup2 dX8_answer_87 rfl rfl ?_
  obtain ⟨c15, h⟩ := x_ck h
  refine x_iald dX8_answer_88 k2 (xb_at n3 c15) rfl ?_
  refine x_iload 4 dX8_answer_89 rfl ?_
  refine x_isub dX8_answer_91 ?_
  obtain ⟨c16, h⟩ := x_ck h
  refine x_iast dX8_answer_92 k2 (xb_at n3 c16) rfl ?_
  obtain ⟨N17, eN17, h⟩ := x_lt h
  refine x_nmN eN17 ?_
  refine x_aload_n 0 dX8_answer_93 rfl rfl ?_
  refine x_getr dX8_answer_94 (ci := 8) (f := 8) (M := 19) (C9 := RX8) (T9 := TX8) rfl xin8 (by decide) fl_X8_17 rfl k100 g1 ?_
  refine x_iload_n 1 dX8_answer_97 rfl rfl ?_
  refine x_cs (As := [.int a2]) (d' := 1) (zz := yX8_handlerAt) dX8_answer_98 ml_X8_197 wt_X8_handlerAt wn_X8 wc_X8_handlerAt hp_X8_handlerAt (by decide) (by decide) rfl (Nat.le_of_ble_eq_true rfl) ⟨Nat.zero_le _, Nat.zero_le _⟩ (T_X8_handlerAt (G := G) hw  rfl) ?_
  refine x_iconst (v := 0) dX8_answer_101 rfl ?_
  refine x_iadd dX8_answer_102 ?_
  refine x_dup2 dX8_answer_103 rfl rfl ?_
  obtain ⟨c18, h⟩ := x_ck h
  refine x_iald dX8_answer_104 k2 (xb_at n3 c18) rfl ?_
  refine x_iload 4 dX8_answer_105 rfl ?_
  refine x_iadd dX8_answer_107 ?_
  obtain ⟨c19, h⟩ := x_ck h
  refine x_iast dX8_answer_108 k2 (xb_at n3 c19) rfl ?_
  obtain ⟨N20, eN20, h⟩ := x_lt h
  refine x_nmN eN20 ?_
  refine x_aload_n 0 dX8_answer_109 rfl rfl ?_
  refine x_getr dX8_answer_110 (ci := 8) (f := 8) (M := 19) (C9 := RX8) (T9 := TX8) rfl xin8 (by decide) fl_X8_17 rfl k100 g1 ?_
  refine x_iload_n 1 dX8_answer_113 rfl rfl ?_
  refine x_cs (As := [.int a2]) (d' := 1) (zz := yX8_handlerAt) dX8_answer_114 ml_X8_197 wt_X8_handlerAt wn_X8 wc_X8_handlerAt hp_X8_handlerAt (by decide) (by decide) rfl (Nat.le_of_ble_eq_true rfl) ⟨Nat.zero_le _, Nat.zero_le _⟩ (T_X8_handlerAt (G := G) hw  rfl) ?_
  refine x_iconst (v := 5) dX8_answer_117 rfl ?_
  refine x_iadd dX8_answer_118 ?_
  refine x_dup2 dX8_answer_119 rfl rfl ?_
  obtain ⟨c21, h⟩ := x_ck h
  refine x_iald dX8_answer_120 k2 (xb_at n3 c21) rfl ?_
  refine x_iload 4 dX8_answer_121 rfl ?_
  refine x_iadd dX8_answer_123 ?_
  obtain ⟨c22, h⟩ := x_ck h
  refine x_iast dX8_answer_124 k2 (xb_at n3 c22) rfl ?_
  obtain ⟨N23, eN23, h⟩ := x_lt h
  refine x_nmN eN23 ?_
  obtain rfl := x_so h
  exact x_vret dX8_answer_125 rfl rfl rfl
set_option maxHeartbeats 4000000 in
set_option maxRecDepth 100000 in
theorem T_X8_work_9 {G : XG} {Y : XY} (hw : WT Y) {N9 : XN}: ∀ (D9 : Nat) (p_0 : Nat) (v_1 : Int32) (v_2 : Int32) (v_3 : Int32) (N : XN), kc Y p_0 = 18 → f_X8_work_9 Y D9 p_0 v_1 v_2 v_3 N = some N9 → Ex G yX8_work cX8_work 6 none (xR 5 0 0) (.inl none) Y N9 0 0 9 [(0, .ref p_0), (1, .int v_1), (2, .int v_2), (3, .int v_3)] [] Y N := by
  intro D9
  induction D9 with
  | zero => intro p_0 v_1 v_2 v_3 N kk0 h; exact nomatch (show none = some N9 from h)
  | succ D9 ih =>
    intro p_0 v_1 v_2 v_3 N kk0 h
    rw [f_X8_work_9] at h
    refine x_iload_n 3 dX8_work_9 rfl rfl ?_
    refine x_aload_n 0 dX8_work_10 rfl rfl ?_
    obtain ⟨g1, k2, n3⟩ := wt_X8_8 hw kk0
    refine x_getr dX8_work_11 (ci := 8) (f := 8) (M := 19) (C9 := RX8) (T9 := TX8) rfl xin8 (by decide) fl_X8_17 rfl kk0 g1 ?_
    refine x_iconst (v := 3) dX8_work_14 rfl ?_
    refine x_iald dX8_work_15 k2 (xb_at n3 (by decide)) rfl ?_
    rcases x_if h with ⟨c4, h⟩ | ⟨c4, h⟩
    · refine x_icmp_ge_t (tgt := 115) dX8_work_16 (by decide) c4 ?_
      obtain rfl := x_so h
      exact x_vret dX8_work_115 rfl rfl rfl
    · refine x_icmp_ge_f (tgt := 115) dX8_work_16 (by decide) c4 ?_
      refine x_iload_n 2 dX8_work_19 rfl rfl ?_
      rcases x_if h with ⟨c5, h⟩ | ⟨c5, h⟩
      · refine x_if_le_t (tgt := 115) dX8_work_20 (by decide) c5 ?_
        obtain rfl := x_so h
        exact x_vret dX8_work_115 rfl rfl rfl
      · refine x_if_le_f (tgt := 115) dX8_work_20 (by decide) c5 ?_
        refine x_aload_n 0 dX8_work_23 rfl rfl ?_
        refine x_iload_n 1 dX8_work_24 rfl rfl ?_
        refine x_iload_n 3 dX8_work_25 rfl rfl ?_
        obtain ⟨r7, q6, h⟩ := x_bd1 h
        refine x_cv (b := p_0) (As := [.int v_1, .int v_3]) (ci := 8) (d' := 4) (zz := yX8_holds) dX8_work_26 ml_X8_212 wi_X8_holds wv_X8_holds wn_X8 wc_X8_holds hp_X8_holds (by decide) (by decide) rfl (Nat.le_of_ble_eq_true rfl) ⟨Nat.zero_le _, Nat.zero_le _⟩ rfl kk0 (T_X8_holds (G := G) hw kk0 q6) ?_
        rcases x_if h with ⟨c8, h⟩ | ⟨c8, h⟩
        · refine x_if_ne_f (tgt := 35) dX8_work_29 (by decide) c8 ?_
          refine x_goto (tgt := 109) dX8_work_32 (by decide) ?_
          refine x_iinc 3 [1, 2, 3, 0] dX8_work_109 rfl rfl (by decide) rfl ?_
          refine x_goto (tgt := 9) dX8_work_112 (by decide) ?_
          exact ih p_0 v_1 v_2 (v_3 + 1) N kk0 h
        · refine x_if_ne_t (tgt := 35) dX8_work_29 (by decide) c8 ?_
          refine x_iload_n 3 dX8_work_35 rfl rfl ?_
          refine x_cs (As := [.int v_3]) (d' := 1) (zz := yX8_requestAt) dX8_work_36 ml_X8_203 wt_X8_requestAt wn_X8 wc_X8_requestAt hp_X8_requestAt (by decide) (by decide) rfl (Nat.le_of_ble_eq_true rfl) ⟨Nat.zero_le _, Nat.zero_le _⟩ (T_X8_requestAt (G := G) hw  rfl) ?_
          refine x_istore [1, 2, 3, 4, 0] dX8_work_39 (by decide) rfl ?_
          refine x_iload_n 2 dX8_work_41 rfl rfl ?_
          refine x_aload_n 0 dX8_work_42 rfl rfl ?_
          refine x_getr dX8_work_43 (ci := 8) (f := 8) (M := 19) (C9 := RX8) (T9 := TX8) rfl xin8 (by decide) fl_X8_17 rfl kk0 g1 ?_
          refine x_iload 4 dX8_work_46 rfl ?_
          refine x_iconst (v := 5) dX8_work_48 rfl ?_
          refine x_iadd dX8_work_49 ?_
          obtain ⟨c9, h⟩ := x_ck h
          refine x_iald dX8_work_50 k2 (xb_at n3 c9) rfl ?_
          refine x_cs (As := [.int v_2, .int (gi N (gp Y p_0 8) ((f_X8_requestAt Y v_3 N) + 5).toNatClampNeg)]) (d' := 1) (zz := yX8_min) dX8_work_51 ml_X8_100 wt_X8_min wn_X8 wc_X8_min hp_X8_min (by decide) (by decide) rfl (Nat.le_of_ble_eq_true rfl) ⟨Nat.zero_le _, Nat.zero_le _⟩ (T_X8_min (G := G) hw  rfl) ?_
          obtain ⟨v10, ev10, h⟩ := x_lt h
          refine x_nmi ev10 ?_
          refine x_istore [1, 2, 3, 4, 5, 0] dX8_work_54 (by decide) rfl ?_
          refine x_iload_n 2 dX8_work_56 rfl rfl ?_
          refine x_iload 5 dX8_work_57 rfl ?_
          refine x_isub dX8_work_59 ?_
          refine x_istore_n [1, 2, 0, 3, 4, 5] dX8_work_60 rfl (by decide) rfl ?_
          refine x_aload_n 0 dX8_work_61 rfl rfl ?_
          refine x_getr dX8_work_62 (ci := 8) (f := 8) (M := 19) (C9 := RX8) (T9 := TX8) rfl xin8 (by decide) fl_X8_17 rfl kk0 g1 ?_
          refine x_iload 4 dX8_work_65 rfl ?_
          refine x_iconst (v := 5) dX8_work_67 rfl ?_
          refine x_iadd dX8_work_68 ?_
          refine x_dup2 dX8_work_69 rfl rfl ?_
          obtain ⟨c11, h⟩ := x_ck h
          refine x_iald dX8_work_70 k2 (xb_at n3 c11) rfl ?_
          refine x_iload 5 dX8_work_71 rfl ?_
          refine x_isub dX8_work_73 ?_
          obtain ⟨c12, h⟩ := x_ck h
          refine x_iast dX8_work_74 k2 (xb_at n3 c12) rfl ?_
          obtain ⟨N13, eN13, h⟩ := x_lt h
          refine x_nmN eN13 ?_
          refine x_aload_n 0 dX8_work_75 rfl rfl ?_
          refine x_getr dX8_work_76 (ci := 8) (f := 8) (M := 19) (C9 := RX8) (T9 := TX8) rfl xin8 (by decide) fl_X8_17 rfl kk0 g1 ?_
          refine x_iload 4 dX8_work_79 rfl ?_
          refine x_bipush (v := 7) dX8_work_81 rfl ?_
          refine x_iadd dX8_work_83 ?_
          refine x_aload_n 0 dX8_work_84 rfl rfl ?_
          refine x_getr dX8_work_85 (ci := 8) (f := 8) (M := 19) (C9 := RX8) (T9 := TX8) rfl xin8 (by decide) fl_X8_17 rfl kk0 g1 ?_
          refine x_iconst (v := 0) dX8_work_88 rfl ?_
          refine x_iald dX8_work_89 k2 (xb_at n3 (by decide)) rfl ?_
          obtain ⟨c14, h⟩ := x_ck h
          refine x_iast dX8_work_90 k2 (xb_at n3 c14) rfl ?_
          obtain ⟨N15, eN15, h⟩ := x_lt h
          refine x_nmN eN15 ?_
          refine x_aload_n 0 dX8_work_91 rfl rfl ?_
          refine x_getr dX8_work_92 (ci := 8) (f := 8) (M := 19) (C9 := RX8) (T9 := TX8) rfl xin8 (by decide) fl_X8_17 rfl kk0 g1 ?_
          refine x_iload 4 dX8_work_95 rfl ?_
          refine x_iconst (v := 5) dX8_work_97 rfl ?_
          refine x_iadd dX8_work_98 ?_
          obtain ⟨c16, h⟩ := x_ck h
          refine x_iald dX8_work_99 k2 (xb_at n3 c16) rfl ?_
          rcases x_if h with ⟨c17, h⟩ | ⟨c17, h⟩
          · refine x_if_ne_f (tgt := 109) dX8_work_100 (by decide) c17 ?_
            refine x_aload_n 0 dX8_work_103 rfl rfl ?_
            refine x_iload_n 3 dX8_work_104 rfl rfl ?_
            refine x_iload_n 1 dX8_work_105 rfl rfl ?_
            obtain ⟨N19, q18, h⟩ := x_bd1 h
            refine x_cv (b := p_0) (As := [.int v_3, .int v_1]) (ci := 8) (d' := 2) (zz := yX8_answer) dX8_work_106 ml_X8_248 wi_X8_answer wv_X8_answer wn_X8 wc_X8_answer hp_X8_answer (by decide) (by decide) rfl (Nat.le_of_ble_eq_true rfl) ⟨Nat.zero_le _, Nat.zero_le _⟩ rfl kk0 (T_X8_answer (G := G) hw kk0 q18) ?_
            refine x_iinc 3 [1, 2, 3, 0] dX8_work_109 rfl rfl (by decide) rfl ?_
            refine x_goto (tgt := 9) dX8_work_112 (by decide) ?_
            exact ih p_0 v_1 (v_2 - v10) (v_3 + 1) N19 kk0 h
          · refine x_if_ne_t (tgt := 109) dX8_work_100 (by decide) c17 ?_
            refine x_iinc 3 [1, 2, 3, 0] dX8_work_109 rfl rfl (by decide) rfl ?_
            refine x_goto (tgt := 9) dX8_work_112 (by decide) ?_
            exact ih p_0 v_1 (v_2 - v10) (v_3 + 1) N15 kk0 h
set_option maxHeartbeats 4000000 in
set_option maxRecDepth 100000 in
theorem T_X8_work {G : XG} {Y : XY} (hw : WT Y) {a0 : Nat} {a1 : Int32} {N : XN} (k100 : kc Y a0 = 18) {N9 : XN} (h : f_X8_work Y a0 a1 N = some N9) : Cl G yX8_work cX8_work 6 none (xR 5 0 0) [.ref a0, .int a1] (.inl none) Y N Y N9 := by
  refine x_entry (by decide) (Nat.le_of_ble_eq_true rfl) rfl ?_
  rw [f_X8_work] at h
  refine x_aload_n 0 dX8_work_0 rfl rfl ?_
  refine x_iload_n 1 dX8_work_1 rfl rfl ?_
  refine x_iconst (v := 1) dX8_work_2 rfl ?_
  obtain ⟨r2, q1, h⟩ := x_bd1 h
  refine x_cv (b := a0) (As := [.int a1, .int 1]) (ci := 8) (d' := 2) (zz := yX8_ofHandler) dX8_work_3 ml_X8_245 wi_X8_ofHandler wv_X8_ofHandler wn_X8 wc_X8_ofHandler hp_X8_ofHandler (by decide) (by decide) rfl (Nat.le_of_ble_eq_true rfl) ⟨Nat.zero_le _, Nat.zero_le _⟩ rfl k100 (T_X8_ofHandler (G := G) hw k100 q1) ?_
  refine x_istore_n [1, 2, 0] dX8_work_6 rfl (by decide) rfl ?_
  refine x_iconst (v := 0) dX8_work_7 rfl ?_
  refine x_istore_n [1, 2, 3, 0] dX8_work_8 rfl (by decide) rfl ?_
  exact T_X8_work_9 (G := G) hw FU a0 a1 r2 0 N k100 h
set_option maxHeartbeats 4000000 in
set_option maxRecDepth 100000 in
theorem T_X8_fine {G : XG} {Y : XY} (hw : WT Y) {a0 : Nat} {a1 : Int32} {N : XN} (k100 : kc Y a0 = 18) {N9 : XN} (h : f_X8_fine Y a0 a1 N = some N9) : Cl G yX8_fine cX8_fine 4 none (xR 8 0 0) [.ref a0, .int a1] (.inl none) Y N Y N9 := by
  refine x_entry (by decide) (Nat.le_of_ble_eq_true rfl) rfl ?_
  rw [f_X8_fine] at h
  refine x_iload_n 1 dX8_fine_0 rfl rfl ?_
  refine x_cs (As := [.int a1]) (d' := 1) (zz := yX8_requestAt) dX8_fine_1 ml_X8_203 wt_X8_requestAt wn_X8 wc_X8_requestAt hp_X8_requestAt (by decide) (by decide) rfl (Nat.le_of_ble_eq_true rfl) ⟨Nat.zero_le _, Nat.zero_le _⟩ (T_X8_requestAt (G := G) hw  rfl) ?_
  refine x_istore_n [1, 2, 0] dX8_fine_4 rfl (by decide) rfl ?_
  refine x_aload_n 0 dX8_fine_5 rfl rfl ?_
  obtain ⟨g1, k2, n3⟩ := wt_X8_8 hw k100
  refine x_getr dX8_fine_6 (ci := 8) (f := 8) (M := 19) (C9 := RX8) (T9 := TX8) rfl xin8 (by decide) fl_X8_17 rfl k100 g1 ?_
  refine x_iconst (v := 0) dX8_fine_9 rfl ?_
  refine x_iald dX8_fine_10 k2 (xb_at n3 (by decide)) rfl ?_
  refine x_aload_n 0 dX8_fine_11 rfl rfl ?_
  refine x_getr dX8_fine_12 (ci := 8) (f := 8) (M := 19) (C9 := RX8) (T9 := TX8) rfl xin8 (by decide) fl_X8_17 rfl k100 g1 ?_
  refine x_iload_n 2 dX8_fine_15 rfl rfl ?_
  refine x_bipush (v := 7) dX8_fine_16 rfl ?_
  refine x_iadd dX8_fine_18 ?_
  obtain ⟨c4, h⟩ := x_ck h
  refine x_iald dX8_fine_19 k2 (xb_at n3 c4) rfl ?_
  refine x_isub dX8_fine_20 ?_
  refine x_aload_n 0 dX8_fine_21 rfl rfl ?_
  refine x_getr dX8_fine_22 (ci := 8) (f := 8) (M := 19) (C9 := RX8) (T9 := TX8) rfl xin8 (by decide) fl_X8_17 rfl k100 g1 ?_
  refine x_iconst (v := 5) dX8_fine_25 rfl ?_
  refine x_iald dX8_fine_26 k2 (xb_at n3 (by decide)) rfl ?_
  rcases x_if h with ⟨c5, h⟩ | ⟨c5, h⟩
  · refine x_icmp_ge_t (tgt := 31) dX8_fine_27 (by decide) c5 ?_
    refine x_aload_n 0 dX8_fine_31 rfl rfl ?_
    refine x_iload_n 1 dX8_fine_32 rfl rfl ?_
    obtain ⟨r7, N8, q6, h⟩ := x_bd2 h
    refine x_cv (b := a0) (As := [.int a1]) (ci := 8) (d' := 6) (zz := yX8_fineOf) dX8_fine_33 ml_X8_251 wi_X8_fineOf wv_X8_fineOf wn_X8 wc_X8_fineOf hp_X8_fineOf (by decide) (by decide) rfl (Nat.le_of_ble_eq_true rfl) ⟨Nat.zero_le _, Nat.zero_le _⟩ rfl k100 (T_X8_fineOf (G := G) hw k100 q6) ?_
    refine x_istore_n [1, 3, 0] dX8_fine_36 rfl (by decide) rfl ?_
    refine x_aload_n 0 dX8_fine_37 rfl rfl ?_
    refine x_aload_n 0 dX8_fine_38 rfl rfl ?_
    refine x_getr dX8_fine_39 (ci := 8) (f := 8) (M := 19) (C9 := RX8) (T9 := TX8) rfl xin8 (by decide) fl_X8_17 rfl k100 g1 ?_
    refine x_iload_n 1 dX8_fine_42 rfl rfl ?_
    refine x_iconst (v := 4) dX8_fine_43 rfl ?_
    refine x_iadd dX8_fine_44 ?_
    obtain ⟨c9, h⟩ := x_ck h
    refine x_iald dX8_fine_45 k2 (xb_at n3 c9) rfl ?_
    refine x_iload_n 2 dX8_fine_46 rfl rfl ?_
    refine x_iconst (v := 3) dX8_fine_47 rfl ?_
    refine x_aload_n 0 dX8_fine_48 rfl rfl ?_
    refine x_getr dX8_fine_49 (ci := 8) (f := 8) (M := 19) (C9 := RX8) (T9 := TX8) rfl xin8 (by decide) fl_X8_17 rfl k100 g1 ?_
    refine x_iload_n 1 dX8_fine_52 rfl rfl ?_
    refine x_iconst (v := 0) dX8_fine_53 rfl ?_
    refine x_iadd dX8_fine_54 ?_
    obtain ⟨c10, h⟩ := x_ck h
    refine x_iald dX8_fine_55 k2 (xb_at n3 c10) rfl ?_
    refine x_cs (As := [.int (gi N8 (gp Y a0 8) ((f_X8_requestAt Y a1 N) + 0).toNatClampNeg)]) (d' := 1) (zz := yX8_lineAt) dX8_fine_56 ml_X8_200 wt_X8_lineAt wn_X8 wc_X8_lineAt hp_X8_lineAt (by decide) (by decide) rfl (Nat.le_of_ble_eq_true rfl) ⟨Nat.zero_le _, Nat.zero_le _⟩ (T_X8_lineAt (G := G) hw  rfl) ?_
    refine x_iconst (v := 2) dX8_fine_59 rfl ?_
    refine x_iadd dX8_fine_60 ?_
    obtain ⟨N12, q11, h⟩ := x_bd1 h
    refine x_cv (b := a0) (As := [.int (gi N8 (gp Y a0 8) ((f_X8_requestAt Y a1 N) + 4).toNatClampNeg), .int r7, .int 3, .int ((f_X8_lineAt Y (gi N8 (gp Y a0 8) ((f_X8_requestAt Y a1 N) + 0).toNatClampNeg) N8) + 2)]) (ci := 8) (d' := 7) (zz := yX8_mustPay) dX8_fine_61 ml_X8_254 wi_X8_mustPay wv_X8_mustPay wn_X8 wc_X8_mustPay hp_X8_mustPay (by decide) (by decide) rfl (Nat.le_of_ble_eq_true rfl) ⟨Nat.zero_le _, Nat.zero_le _⟩ rfl k100 (T_X8_mustPay (G := G) hw k100 q11) ?_
    refine x_aload_n 0 dX8_fine_64 rfl rfl ?_
    refine x_getr dX8_fine_65 (ci := 8) (f := 8) (M := 19) (C9 := RX8) (T9 := TX8) rfl xin8 (by decide) fl_X8_17 rfl k100 g1 ?_
    refine x_iload_n 1 dX8_fine_68 rfl rfl ?_
    refine x_bipush (v := 7) dX8_fine_69 rfl ?_
    refine x_iadd dX8_fine_71 ?_
    refine x_aload_n 0 dX8_fine_72 rfl rfl ?_
    refine x_getr dX8_fine_73 (ci := 8) (f := 8) (M := 19) (C9 := RX8) (T9 := TX8) rfl xin8 (by decide) fl_X8_17 rfl k100 g1 ?_
    refine x_iconst (v := 0) dX8_fine_76 rfl ?_
    refine x_iald dX8_fine_77 k2 (xb_at n3 (by decide)) rfl ?_
    obtain ⟨c13, h⟩ := x_ck h
    refine x_iast dX8_fine_78 k2 (xb_at n3 c13) rfl ?_
    obtain ⟨N14, eN14, h⟩ := x_lt h
    refine x_nmN eN14 ?_
    obtain rfl := x_so h
    exact x_vret dX8_fine_79 rfl rfl rfl
  · refine x_icmp_ge_f (tgt := 31) dX8_fine_27 (by decide) c5 ?_
    obtain rfl := x_so h
    exact x_vret dX8_fine_30 rfl rfl rfl
set_option maxHeartbeats 4000000 in
set_option maxRecDepth 100000 in
theorem T_X8_payRent_50 {G : XG} {Y : XY} (hw : WT Y) {N9 : XN}: ∀ (D9 : Nat) (p_0 : Nat) (v_1 : Int32) (v_2 : Int32) (v_3 : Int32) (v_4 : Int32) (N : XN), kc Y p_0 = 18 → f_X8_payRent_50 Y D9 p_0 v_1 v_2 v_3 v_4 N = some N9 → Ex G yX8_payRent cX8_payRent 5 none (xR 8 0 0) (.inl none) Y N9 0 0 50 [(0, .ref p_0), (1, .int v_1), (2, .int v_2), (3, .int v_3), (4, .int v_4)] [] Y N := by
  intro D9
  induction D9 with
  | zero => intro p_0 v_1 v_2 v_3 v_4 N kk0 h; exact nomatch (show none = some N9 from h)
  | succ D9 ih =>
    intro p_0 v_1 v_2 v_3 v_4 N kk0 h
    rw [f_X8_payRent_50] at h
    refine x_iload 4 dX8_payRent_50 rfl ?_
    refine x_iload_n 3 dX8_payRent_52 rfl rfl ?_
    rcases x_if h with ⟨c1, h⟩ | ⟨c1, h⟩
    · refine x_icmp_ge_t (tgt := 121) dX8_payRent_53 (by decide) c1 ?_
      obtain rfl := x_so h
      exact x_vret dX8_payRent_121 rfl rfl rfl
    · refine x_icmp_ge_f (tgt := 121) dX8_payRent_53 (by decide) c1 ?_
      refine x_aload_n 0 dX8_payRent_56 rfl rfl ?_
      refine x_aload_n 0 dX8_payRent_57 rfl rfl ?_
      obtain ⟨g2, k3, n4⟩ := wt_X8_18 hw kk0
      refine x_getr dX8_payRent_58 (ci := 8) (f := 18) (M := 19) (C9 := RX8) (T9 := TX8) rfl xin8 (by decide) fl_X8_38 rfl kk0 g2 ?_
      refine x_iload 4 dX8_payRent_61 rfl ?_
      obtain ⟨c5, h⟩ := x_ck h
      refine x_iald dX8_payRent_63 k3 (xb_at n4 c5) rfl ?_
      refine x_iload_n 1 dX8_payRent_64 rfl rfl ?_
      obtain ⟨r7, q6, h⟩ := x_bd1 h
      refine x_cv (b := p_0) (As := [.int (gi N (gp Y p_0 18) v_4.toNatClampNeg), .int v_1]) (ci := 8) (d' := 2) (zz := yX8_isTenant) dX8_payRent_65 ml_X8_258 wi_X8_isTenant wv_X8_isTenant wn_X8 wc_X8_isTenant hp_X8_isTenant (by decide) (by decide) rfl (Nat.le_of_ble_eq_true rfl) ⟨Nat.zero_le _, Nat.zero_le _⟩ rfl kk0 (T_X8_isTenant (G := G) hw kk0 q6) ?_
      rcases x_if h with ⟨c8, h⟩ | ⟨c8, h⟩
      · refine x_if_eq_t (tgt := 115) dX8_payRent_68 (by decide) c8 ?_
        refine x_iinc 4 [1, 2, 3, 4, 0] dX8_payRent_115 rfl rfl (by decide) rfl ?_
        refine x_goto (tgt := 50) dX8_payRent_118 (by decide) ?_
        exact ih p_0 v_1 v_2 v_3 (v_4 + 1) N kk0 h
      · refine x_if_eq_f (tgt := 115) dX8_payRent_68 (by decide) c8 ?_
        refine x_aload_n 0 dX8_payRent_71 rfl rfl ?_
        refine x_aload_n 0 dX8_payRent_72 rfl rfl ?_
        refine x_getr dX8_payRent_73 (ci := 8) (f := 18) (M := 19) (C9 := RX8) (T9 := TX8) rfl xin8 (by decide) fl_X8_38 rfl kk0 g2 ?_
        refine x_iload 4 dX8_payRent_76 rfl ?_
        obtain ⟨c9, h⟩ := x_ck h
        refine x_iald dX8_payRent_78 k3 (xb_at n4 c9) rfl ?_
        refine x_aload_n 0 dX8_payRent_79 rfl rfl ?_
        obtain ⟨g10, k11, n12⟩ := wt_X8_8 hw kk0
        refine x_getr dX8_payRent_80 (ci := 8) (f := 8) (M := 19) (C9 := RX8) (T9 := TX8) rfl xin8 (by decide) fl_X8_17 rfl kk0 g10 ?_
        refine x_iload_n 2 dX8_payRent_83 rfl rfl ?_
        refine x_iconst (v := 0) dX8_payRent_84 rfl ?_
        refine x_iadd dX8_payRent_85 ?_
        obtain ⟨c13, h⟩ := x_ck h
        refine x_iald dX8_payRent_86 k11 (xb_at n12 c13) rfl ?_
        refine x_iload_n 3 dX8_payRent_87 rfl rfl ?_
        obtain ⟨c14, h⟩ := x_cn h
        refine x_idiv dX8_payRent_88 c14 ?_
        refine x_iload 4 dX8_payRent_89 rfl ?_
        refine x_aload_n 0 dX8_payRent_91 rfl rfl ?_
        refine x_getr dX8_payRent_92 (ci := 8) (f := 8) (M := 19) (C9 := RX8) (T9 := TX8) rfl xin8 (by decide) fl_X8_17 rfl kk0 g10 ?_
        refine x_iload_n 2 dX8_payRent_95 rfl rfl ?_
        refine x_iconst (v := 0) dX8_payRent_96 rfl ?_
        refine x_iadd dX8_payRent_97 ?_
        obtain ⟨c15, h⟩ := x_ck h
        refine x_iald dX8_payRent_98 k11 (xb_at n12 c15) rfl ?_
        refine x_iload_n 3 dX8_payRent_99 rfl rfl ?_
        obtain ⟨c16, h⟩ := x_cn h
        refine x_irem dX8_payRent_100 c16 ?_
        rcases x_if h with ⟨c17, h⟩ | ⟨c17, h⟩
        · refine x_icmp_ge_t (tgt := 108) dX8_payRent_101 (by decide) c17 ?_
          refine x_iconst (v := 0) dX8_payRent_108 rfl ?_
          refine x_iadd dX8_payRent_109 ?_
          refine x_iconst (v := 4) dX8_payRent_110 rfl ?_
          refine x_iconst (v := 4) dX8_payRent_111 rfl ?_
          obtain ⟨N19, q18, h⟩ := x_bd1 h
          refine x_cv (b := p_0) (As := [.int (gi N (gp Y p_0 18) v_4.toNatClampNeg), .int (((gi N (gp Y p_0 8) (v_2 + 0).toNatClampNeg) / v_3) + 0), .int 4, .int 4]) (ci := 8) (d' := 7) (zz := yX8_mustPay) dX8_payRent_112 ml_X8_254 wi_X8_mustPay wv_X8_mustPay wn_X8 wc_X8_mustPay hp_X8_mustPay (by decide) (by decide) rfl (Nat.le_of_ble_eq_true rfl) ⟨Nat.zero_le _, Nat.zero_le _⟩ rfl kk0 (T_X8_mustPay (G := G) hw kk0 q18) ?_
          refine x_iinc 4 [1, 2, 3, 4, 0] dX8_payRent_115 rfl rfl (by decide) rfl ?_
          refine x_goto (tgt := 50) dX8_payRent_118 (by decide) ?_
          exact ih p_0 v_1 v_2 v_3 (v_4 + 1) N19 kk0 h
        · refine x_icmp_ge_f (tgt := 108) dX8_payRent_101 (by decide) c17 ?_
          refine x_iconst (v := 1) dX8_payRent_104 rfl ?_
          refine x_goto (tgt := 109) dX8_payRent_105 (by decide) ?_
          refine x_iadd dX8_payRent_109 ?_
          refine x_iconst (v := 4) dX8_payRent_110 rfl ?_
          refine x_iconst (v := 4) dX8_payRent_111 rfl ?_
          obtain ⟨N21, q20, h⟩ := x_bd1 h
          refine x_cv (b := p_0) (As := [.int (gi N (gp Y p_0 18) v_4.toNatClampNeg), .int (((gi N (gp Y p_0 8) (v_2 + 0).toNatClampNeg) / v_3) + 1), .int 4, .int 4]) (ci := 8) (d' := 7) (zz := yX8_mustPay) dX8_payRent_112 ml_X8_254 wi_X8_mustPay wv_X8_mustPay wn_X8 wc_X8_mustPay hp_X8_mustPay (by decide) (by decide) rfl (Nat.le_of_ble_eq_true rfl) ⟨Nat.zero_le _, Nat.zero_le _⟩ rfl kk0 (T_X8_mustPay (G := G) hw kk0 q20) ?_
          refine x_iinc 4 [1, 2, 3, 4, 0] dX8_payRent_115 rfl rfl (by decide) rfl ?_
          refine x_goto (tgt := 50) dX8_payRent_118 (by decide) ?_
          exact ih p_0 v_1 v_2 v_3 (v_4 + 1) N21 kk0 h
set_option maxHeartbeats 4000000 in
set_option maxRecDepth 100000 in
theorem T_X8_payRent_17 {G : XG} {Y : XY} (hw : WT Y) {N9 : XN}: ∀ (D9 : Nat) (p_0 : Nat) (v_1 : Int32) (v_2 : Int32) (v_3 : Int32) (v_4 : Int32) (N : XN), kc Y p_0 = 18 → f_X8_payRent_17 Y D9 p_0 v_1 v_2 v_3 v_4 N = some N9 → Ex G yX8_payRent cX8_payRent 5 none (xR 8 0 0) (.inl none) Y N9 0 0 17 [(0, .ref p_0), (1, .int v_1), (2, .int v_2), (3, .int v_3), (4, .int v_4)] [] Y N := by
  intro D9
  induction D9 with
  | zero => intro p_0 v_1 v_2 v_3 v_4 N kk0 h; exact nomatch (show none = some N9 from h)
  | succ D9 ih =>
    intro p_0 v_1 v_2 v_3 v_4 N kk0 h
    rw [f_X8_payRent_17] at h
    refine x_iload 4 dX8_payRent_17 rfl ?_
    refine x_iload_n 3 dX8_payRent_19 rfl rfl ?_
    rcases x_if h with ⟨c1, h⟩ | ⟨c1, h⟩
    · refine x_icmp_ge_t (tgt := 47) dX8_payRent_20 (by decide) c1 ?_
      refine x_iconst (v := 0) dX8_payRent_47 rfl ?_
      refine x_istore [1, 2, 3, 4, 0] dX8_payRent_48 (by decide) rfl ?_
      exact T_X8_payRent_50 (G := G) hw FU p_0 v_1 v_2 v_3 0 N kk0 h
    · refine x_icmp_ge_f (tgt := 47) dX8_payRent_20 (by decide) c1 ?_
      refine x_aload_n 0 dX8_payRent_23 rfl rfl ?_
      obtain ⟨g2, k3, n4⟩ := wt_X8_18 hw kk0
      refine x_getr dX8_payRent_24 (ci := 8) (f := 18) (M := 19) (C9 := RX8) (T9 := TX8) rfl xin8 (by decide) fl_X8_38 rfl kk0 g2 ?_
      refine x_iload 4 dX8_payRent_27 rfl ?_
      refine x_aload_n 0 dX8_payRent_29 rfl rfl ?_
      obtain ⟨g5, k6, n7⟩ := wt_X8_8 hw kk0
      refine x_getr dX8_payRent_30 (ci := 8) (f := 8) (M := 19) (C9 := RX8) (T9 := TX8) rfl xin8 (by decide) fl_X8_17 rfl kk0 g5 ?_
      refine x_iload_n 2 dX8_payRent_33 rfl rfl ?_
      refine x_iconst (v := 4) dX8_payRent_34 rfl ?_
      refine x_iadd dX8_payRent_35 ?_
      refine x_iload 4 dX8_payRent_36 rfl ?_
      refine x_iadd dX8_payRent_38 ?_
      obtain ⟨c8, h⟩ := x_ck h
      refine x_iald dX8_payRent_39 k6 (xb_at n7 c8) rfl ?_
      obtain ⟨c9, h⟩ := x_ck h
      refine x_iast dX8_payRent_40 k3 (xb_at n4 c9) rfl ?_
      obtain ⟨N10, eN10, h⟩ := x_lt h
      refine x_nmN eN10 ?_
      refine x_iinc 4 [1, 2, 3, 4, 0] dX8_payRent_41 rfl rfl (by decide) rfl ?_
      refine x_goto (tgt := 17) dX8_payRent_44 (by decide) ?_
      exact ih p_0 v_1 v_2 v_3 (v_4 + 1) N10 kk0 h
set_option maxHeartbeats 4000000 in
set_option maxRecDepth 100000 in
theorem T_X8_payRent {G : XG} {Y : XY} (hw : WT Y) {a0 : Nat} {a1 : Int32} {N : XN} (k100 : kc Y a0 = 18) {N9 : XN} (h : f_X8_payRent Y a0 a1 N = some N9) : Cl G yX8_payRent cX8_payRent 5 none (xR 8 0 0) [.ref a0, .int a1] (.inl none) Y N Y N9 := by
  refine x_entry (by decide) (Nat.le_of_ble_eq_true rfl) rfl ?_
  rw [f_X8_payRent] at h
  refine x_iload_n 1 dX8_payRent_0 rfl rfl ?_
  refine x_cs (As := [.int a1]) (d' := 1) (zz := yX8_lineAt) dX8_payRent_1 ml_X8_200 wt_X8_lineAt wn_X8 wc_X8_lineAt hp_X8_lineAt (by decide) (by decide) rfl (Nat.le_of_ble_eq_true rfl) ⟨Nat.zero_le _, Nat.zero_le _⟩ (T_X8_lineAt (G := G) hw  rfl) ?_
  refine x_istore_n [1, 2, 0] dX8_payRent_4 rfl (by decide) rfl ?_
  refine x_aload_n 0 dX8_payRent_5 rfl rfl ?_
  obtain ⟨g1, k2, n3⟩ := wt_X8_8 hw k100
  refine x_getr dX8_payRent_6 (ci := 8) (f := 8) (M := 19) (C9 := RX8) (T9 := TX8) rfl xin8 (by decide) fl_X8_17 rfl k100 g1 ?_
  refine x_iload_n 2 dX8_payRent_9 rfl rfl ?_
  refine x_iconst (v := 3) dX8_payRent_10 rfl ?_
  refine x_iadd dX8_payRent_11 ?_
  obtain ⟨c4, h⟩ := x_ck h
  refine x_iald dX8_payRent_12 k2 (xb_at n3 c4) rfl ?_
  obtain ⟨v5, ev5, h⟩ := x_lt h
  refine x_nmi ev5 ?_
  refine x_istore_n [1, 2, 3, 0] dX8_payRent_13 rfl (by decide) rfl ?_
  refine x_iconst (v := 0) dX8_payRent_14 rfl ?_
  refine x_istore [1, 2, 3, 4, 0] dX8_payRent_15 (by decide) rfl ?_
  exact T_X8_payRent_17 (G := G) hw FU a0 a1 (f_X8_lineAt Y a1 N) v5 0 N k100 h
set_option maxHeartbeats 4000000 in
set_option maxRecDepth 100000 in
theorem T_X8_tick_141 {G : XG} {Y : XY} (hw : WT Y) {N9 : XN}: ∀ (D9 : Nat) (p_0 : Nat) (v_1 : Int32) (N : XN), kc Y p_0 = 18 → f_X8_tick_141 Y D9 p_0 v_1 N = some N9 → Ex G yX8_tick cX8_tick 2 none (xR 9 0 0) (.inl none) Y N9 0 0 141 [(0, .ref p_0), (1, .int v_1)] [] Y N := by
  intro D9
  induction D9 with
  | zero => intro p_0 v_1 N kk0 h; exact nomatch (show none = some N9 from h)
  | succ D9 ih =>
    intro p_0 v_1 N kk0 h
    rw [f_X8_tick_141] at h
    refine x_iload_n 1 dX8_tick_141 rfl rfl ?_
    refine x_aload_n 0 dX8_tick_142 rfl rfl ?_
    obtain ⟨g1, k2, n3⟩ := wt_X8_8 hw kk0
    refine x_getr dX8_tick_143 (ci := 8) (f := 8) (M := 19) (C9 := RX8) (T9 := TX8) rfl xin8 (by decide) fl_X8_17 rfl kk0 g1 ?_
    refine x_iconst (v := 2) dX8_tick_146 rfl ?_
    refine x_iald dX8_tick_147 k2 (xb_at n3 (by decide)) rfl ?_
    rcases x_if h with ⟨c4, h⟩ | ⟨c4, h⟩
    · refine x_icmp_ge_t (tgt := 162) dX8_tick_148 (by decide) c4 ?_
      refine x_aload_n 0 dX8_tick_162 rfl rfl ?_
      refine x_getr dX8_tick_163 (ci := 8) (f := 8) (M := 19) (C9 := RX8) (T9 := TX8) rfl xin8 (by decide) fl_X8_17 rfl kk0 g1 ?_
      refine x_iconst (v := 0) dX8_tick_166 rfl ?_
      refine x_dup2 dX8_tick_167 rfl rfl ?_
      refine x_iald dX8_tick_168 k2 (xb_at n3 (by decide)) rfl ?_
      refine x_iconst (v := 1) dX8_tick_169 rfl ?_
      refine x_iadd dX8_tick_170 ?_
      refine x_iast dX8_tick_171 k2 (xb_at n3 (by decide)) rfl ?_
      obtain ⟨N5, eN5, h⟩ := x_lt h
      refine x_nmN eN5 ?_
      obtain rfl := x_so h
      exact x_vret dX8_tick_172 rfl rfl rfl
    · refine x_icmp_ge_f (tgt := 162) dX8_tick_148 (by decide) c4 ?_
      refine x_aload_n 0 dX8_tick_151 rfl rfl ?_
      refine x_iload_n 1 dX8_tick_152 rfl rfl ?_
      obtain ⟨N7, q6, h⟩ := x_bd1 h
      refine x_cv (b := p_0) (As := [.int v_1]) (ci := 8) (d' := 8) (zz := yX8_payRent) dX8_tick_153 ml_X8_269 wi_X8_payRent wv_X8_payRent wn_X8 wc_X8_payRent hp_X8_payRent (by decide) (by decide) rfl (Nat.le_of_ble_eq_true rfl) ⟨Nat.zero_le _, Nat.zero_le _⟩ rfl kk0 (T_X8_payRent (G := G) hw kk0 q6) ?_
      refine x_iinc 1 [1, 0] dX8_tick_156 rfl rfl (by decide) rfl ?_
      refine x_goto (tgt := 141) dX8_tick_159 (by decide) ?_
      exact ih p_0 (v_1 + 1) N7 kk0 h
set_option maxHeartbeats 4000000 in
set_option maxRecDepth 100000 in
theorem T_X8_tick_81 {G : XG} {Y : XY} (hw : WT Y) {N9 : XN}: ∀ (D9 : Nat) (p_0 : Nat) (v_1 : Int32) (N : XN), kc Y p_0 = 18 → f_X8_tick_81 Y D9 p_0 v_1 N = some N9 → Ex G yX8_tick cX8_tick 2 none (xR 9 0 0) (.inl none) Y N9 0 0 81 [(0, .ref p_0), (1, .int v_1)] [] Y N := by
  intro D9
  induction D9 with
  | zero => intro p_0 v_1 N kk0 h; exact nomatch (show none = some N9 from h)
  | succ D9 ih =>
    intro p_0 v_1 N kk0 h
    rw [f_X8_tick_81] at h
    refine x_iload_n 1 dX8_tick_81 rfl rfl ?_
    refine x_aload_n 0 dX8_tick_82 rfl rfl ?_
    obtain ⟨g1, k2, n3⟩ := wt_X8_8 hw kk0
    refine x_getr dX8_tick_83 (ci := 8) (f := 8) (M := 19) (C9 := RX8) (T9 := TX8) rfl xin8 (by decide) fl_X8_17 rfl kk0 g1 ?_
    refine x_iconst (v := 3) dX8_tick_86 rfl ?_
    refine x_iald dX8_tick_87 k2 (xb_at n3 (by decide)) rfl ?_
    rcases x_if h with ⟨c4, h⟩ | ⟨c4, h⟩
    · refine x_icmp_ge_t (tgt := 120) dX8_tick_88 (by decide) c4 ?_
      refine x_aload_n 0 dX8_tick_120 rfl rfl ?_
      refine x_getr dX8_tick_121 (ci := 8) (f := 8) (M := 19) (C9 := RX8) (T9 := TX8) rfl xin8 (by decide) fl_X8_17 rfl kk0 g1 ?_
      refine x_iconst (v := 0) dX8_tick_124 rfl ?_
      refine x_iald dX8_tick_125 k2 (xb_at n3 (by decide)) rfl ?_
      refine x_iconst (v := 1) dX8_tick_126 rfl ?_
      refine x_iadd dX8_tick_127 ?_
      refine x_aload_n 0 dX8_tick_128 rfl rfl ?_
      refine x_getr dX8_tick_129 (ci := 8) (f := 8) (M := 19) (C9 := RX8) (T9 := TX8) rfl xin8 (by decide) fl_X8_17 rfl kk0 g1 ?_
      refine x_bipush (v := 8) dX8_tick_132 rfl ?_
      refine x_iald dX8_tick_134 k2 (xb_at n3 (by decide)) rfl ?_
      obtain ⟨c5, h⟩ := x_cn h
      refine x_irem dX8_tick_135 c5 ?_
      rcases x_if h with ⟨c6, h⟩ | ⟨c6, h⟩
      · refine x_if_ne_f (tgt := 162) dX8_tick_136 (by decide) c6 ?_
        refine x_iconst (v := 0) dX8_tick_139 rfl ?_
        refine x_istore_n [1, 0] dX8_tick_140 rfl (by decide) rfl ?_
        exact T_X8_tick_141 (G := G) hw FU p_0 0 N kk0 h
      · refine x_if_ne_t (tgt := 162) dX8_tick_136 (by decide) c6 ?_
        refine x_aload_n 0 dX8_tick_162 rfl rfl ?_
        refine x_getr dX8_tick_163 (ci := 8) (f := 8) (M := 19) (C9 := RX8) (T9 := TX8) rfl xin8 (by decide) fl_X8_17 rfl kk0 g1 ?_
        refine x_iconst (v := 0) dX8_tick_166 rfl ?_
        refine x_dup2 dX8_tick_167 rfl rfl ?_
        refine x_iald dX8_tick_168 k2 (xb_at n3 (by decide)) rfl ?_
        refine x_iconst (v := 1) dX8_tick_169 rfl ?_
        refine x_iadd dX8_tick_170 ?_
        refine x_iast dX8_tick_171 k2 (xb_at n3 (by decide)) rfl ?_
        obtain ⟨N7, eN7, h⟩ := x_lt h
        refine x_nmN eN7 ?_
        obtain rfl := x_so h
        exact x_vret dX8_tick_172 rfl rfl rfl
    · refine x_icmp_ge_f (tgt := 120) dX8_tick_88 (by decide) c4 ?_
      refine x_aload_n 0 dX8_tick_91 rfl rfl ?_
      refine x_iload_n 1 dX8_tick_92 rfl rfl ?_
      obtain ⟨r9, q8, h⟩ := x_bd1 h
      refine x_cv (b := p_0) (As := [.int v_1]) (ci := 8) (d' := 3) (zz := yX8_isOpen) dX8_tick_93 ml_X8_209 wi_X8_isOpen wv_X8_isOpen wn_X8 wc_X8_isOpen hp_X8_isOpen (by decide) (by decide) rfl (Nat.le_of_ble_eq_true rfl) ⟨Nat.zero_le _, Nat.zero_le _⟩ rfl kk0 (T_X8_isOpen (G := G) hw kk0 q8) ?_
      rcases x_if h with ⟨c10, h⟩ | ⟨c10, h⟩
      · refine x_if_eq_t (tgt := 114) dX8_tick_96 (by decide) c10 ?_
        refine x_iinc 1 [1, 0] dX8_tick_114 rfl rfl (by decide) rfl ?_
        refine x_goto (tgt := 81) dX8_tick_117 (by decide) ?_
        exact ih p_0 (v_1 + 1) N kk0 h
      · refine x_if_eq_f (tgt := 114) dX8_tick_96 (by decide) c10 ?_
        refine x_aload_n 0 dX8_tick_99 rfl rfl ?_
        refine x_iload_n 1 dX8_tick_100 rfl rfl ?_
        refine x_iconst (v := 4) dX8_tick_101 rfl ?_
        obtain ⟨r12, q11, h⟩ := x_bd1 h
        refine x_cv (b := p_0) (As := [.int v_1, .int 4]) (ci := 8) (d' := 2) (zz := yX8_ofRequest) dX8_tick_102 ml_X8_206 wi_X8_ofRequest wv_X8_ofRequest wn_X8 wc_X8_ofRequest hp_X8_ofRequest (by decide) (by decide) rfl (Nat.le_of_ble_eq_true rfl) ⟨Nat.zero_le _, Nat.zero_le _⟩ rfl kk0 (T_X8_ofRequest (G := G) hw kk0 q11) ?_
        refine x_iconst (v := (-1)) dX8_tick_105 rfl ?_
        rcases x_if h with ⟨c13, h⟩ | ⟨c13, h⟩
        · refine x_icmp_eq_t (tgt := 114) dX8_tick_106 (by decide) c13 ?_
          refine x_iinc 1 [1, 0] dX8_tick_114 rfl rfl (by decide) rfl ?_
          refine x_goto (tgt := 81) dX8_tick_117 (by decide) ?_
          exact ih p_0 (v_1 + 1) N kk0 h
        · refine x_icmp_eq_f (tgt := 114) dX8_tick_106 (by decide) c13 ?_
          refine x_aload_n 0 dX8_tick_109 rfl rfl ?_
          refine x_iload_n 1 dX8_tick_110 rfl rfl ?_
          obtain ⟨N15, q14, h⟩ := x_bd1 h
          refine x_cv (b := p_0) (As := [.int v_1]) (ci := 8) (d' := 8) (zz := yX8_fine) dX8_tick_111 ml_X8_267 wi_X8_fine wv_X8_fine wn_X8 wc_X8_fine hp_X8_fine (by decide) (by decide) rfl (Nat.le_of_ble_eq_true rfl) ⟨Nat.zero_le _, Nat.zero_le _⟩ rfl kk0 (T_X8_fine (G := G) hw kk0 q14) ?_
          refine x_iinc 1 [1, 0] dX8_tick_114 rfl rfl (by decide) rfl ?_
          refine x_goto (tgt := 81) dX8_tick_117 (by decide) ?_
          exact ih p_0 (v_1 + 1) N15 kk0 h
set_option maxHeartbeats 4000000 in
set_option maxRecDepth 100000 in
theorem T_X8_tick_49 {G : XG} {Y : XY} (hw : WT Y) {N9 : XN}: ∀ (D9 : Nat) (p_0 : Nat) (v_1 : Int32) (N : XN), kc Y p_0 = 18 → f_X8_tick_49 Y D9 p_0 v_1 N = some N9 → Ex G yX8_tick cX8_tick 2 none (xR 9 0 0) (.inl none) Y N9 0 0 49 [(0, .ref p_0), (1, .int v_1)] [] Y N := by
  intro D9
  induction D9 with
  | zero => intro p_0 v_1 N kk0 h; exact nomatch (show none = some N9 from h)
  | succ D9 ih =>
    intro p_0 v_1 N kk0 h
    rw [f_X8_tick_49] at h
    refine x_iload_n 1 dX8_tick_49 rfl rfl ?_
    refine x_aload_n 0 dX8_tick_50 rfl rfl ?_
    obtain ⟨g1, k2, n3⟩ := wt_X8_8 hw kk0
    refine x_getr dX8_tick_51 (ci := 8) (f := 8) (M := 19) (C9 := RX8) (T9 := TX8) rfl xin8 (by decide) fl_X8_17 rfl kk0 g1 ?_
    refine x_iconst (v := 1) dX8_tick_54 rfl ?_
    refine x_iald dX8_tick_55 k2 (xb_at n3 (by decide)) rfl ?_
    rcases x_if h with ⟨c4, h⟩ | ⟨c4, h⟩
    · refine x_icmp_ge_t (tgt := 79) dX8_tick_56 (by decide) c4 ?_
      refine x_iconst (v := 0) dX8_tick_79 rfl ?_
      refine x_istore_n [1, 0] dX8_tick_80 rfl (by decide) rfl ?_
      exact T_X8_tick_81 (G := G) hw FU p_0 0 N kk0 h
    · refine x_icmp_ge_f (tgt := 79) dX8_tick_56 (by decide) c4 ?_
      refine x_aload_n 0 dX8_tick_59 rfl rfl ?_
      refine x_iload_n 1 dX8_tick_60 rfl rfl ?_
      refine x_iconst (v := 2) dX8_tick_61 rfl ?_
      obtain ⟨r6, q5, h⟩ := x_bd1 h
      refine x_cv (b := p_0) (As := [.int v_1, .int 2]) (ci := 8) (d' := 2) (zz := yX8_ofHandler) dX8_tick_62 ml_X8_245 wi_X8_ofHandler wv_X8_ofHandler wn_X8 wc_X8_ofHandler hp_X8_ofHandler (by decide) (by decide) rfl (Nat.le_of_ble_eq_true rfl) ⟨Nat.zero_le _, Nat.zero_le _⟩ rfl kk0 (T_X8_ofHandler (G := G) hw kk0 q5) ?_
      rcases x_if h with ⟨c7, h⟩ | ⟨c7, h⟩
      · refine x_if_ne_f (tgt := 73) dX8_tick_65 (by decide) c7 ?_
        refine x_aload_n 0 dX8_tick_68 rfl rfl ?_
        refine x_iload_n 1 dX8_tick_69 rfl rfl ?_
        obtain ⟨N9, q8, h⟩ := x_bd1 h
        refine x_cv (b := p_0) (As := [.int v_1]) (ci := 8) (d' := 5) (zz := yX8_work) dX8_tick_70 ml_X8_264 wi_X8_work wv_X8_work wn_X8 wc_X8_work hp_X8_work (by decide) (by decide) rfl (Nat.le_of_ble_eq_true rfl) ⟨Nat.zero_le _, Nat.zero_le _⟩ rfl kk0 (T_X8_work (G := G) hw kk0 q8) ?_
        refine x_iinc 1 [1, 0] dX8_tick_73 rfl rfl (by decide) rfl ?_
        refine x_goto (tgt := 49) dX8_tick_76 (by decide) ?_
        exact ih p_0 (v_1 + 1) N9 kk0 h
      · refine x_if_ne_t (tgt := 73) dX8_tick_65 (by decide) c7 ?_
        refine x_iinc 1 [1, 0] dX8_tick_73 rfl rfl (by decide) rfl ?_
        refine x_goto (tgt := 49) dX8_tick_76 (by decide) ?_
        exact ih p_0 (v_1 + 1) N kk0 h
set_option maxHeartbeats 4000000 in
set_option maxRecDepth 100000 in
theorem T_X8_tick_2 {G : XG} {Y : XY} (hw : WT Y) {N9 : XN}: ∀ (D9 : Nat) (p_0 : Nat) (v_1 : Int32) (N : XN), kc Y p_0 = 18 → f_X8_tick_2 Y D9 p_0 v_1 N = some N9 → Ex G yX8_tick cX8_tick 2 none (xR 9 0 0) (.inl none) Y N9 0 0 2 [(0, .ref p_0), (1, .int v_1)] [] Y N := by
  intro D9
  induction D9 with
  | zero => intro p_0 v_1 N kk0 h; exact nomatch (show none = some N9 from h)
  | succ D9 ih =>
    intro p_0 v_1 N kk0 h
    rw [f_X8_tick_2] at h
    refine x_iload_n 1 dX8_tick_2 rfl rfl ?_
    refine x_aload_n 0 dX8_tick_3 rfl rfl ?_
    obtain ⟨g1, k2, n3⟩ := wt_X8_8 hw kk0
    refine x_getr dX8_tick_4 (ci := 8) (f := 8) (M := 19) (C9 := RX8) (T9 := TX8) rfl xin8 (by decide) fl_X8_17 rfl kk0 g1 ?_
    refine x_iconst (v := 3) dX8_tick_7 rfl ?_
    refine x_iald dX8_tick_8 k2 (xb_at n3 (by decide)) rfl ?_
    rcases x_if h with ⟨c4, h⟩ | ⟨c4, h⟩
    · refine x_icmp_ge_t (tgt := 47) dX8_tick_9 (by decide) c4 ?_
      refine x_iconst (v := 0) dX8_tick_47 rfl ?_
      refine x_istore_n [1, 0] dX8_tick_48 rfl (by decide) rfl ?_
      exact T_X8_tick_49 (G := G) hw FU p_0 0 N kk0 h
    · refine x_icmp_ge_f (tgt := 47) dX8_tick_9 (by decide) c4 ?_
      refine x_aload_n 0 dX8_tick_12 rfl rfl ?_
      refine x_iload_n 1 dX8_tick_13 rfl rfl ?_
      refine x_iconst (v := 3) dX8_tick_14 rfl ?_
      obtain ⟨r6, q5, h⟩ := x_bd1 h
      refine x_cv (b := p_0) (As := [.int v_1, .int 3]) (ci := 8) (d' := 2) (zz := yX8_ofRequest) dX8_tick_15 ml_X8_206 wi_X8_ofRequest wv_X8_ofRequest wn_X8 wc_X8_ofRequest hp_X8_ofRequest (by decide) (by decide) rfl (Nat.le_of_ble_eq_true rfl) ⟨Nat.zero_le _, Nat.zero_le _⟩ rfl kk0 (T_X8_ofRequest (G := G) hw kk0 q5) ?_
      rcases x_if h with ⟨c7, h⟩ | ⟨c7, h⟩
      · refine x_if_ne_f (tgt := 41) dX8_tick_18 (by decide) c7 ?_
        refine x_aload_n 0 dX8_tick_21 rfl rfl ?_
        refine x_iload_n 1 dX8_tick_22 rfl rfl ?_
        refine x_iconst (v := 1) dX8_tick_23 rfl ?_
        obtain ⟨r9, q8, h⟩ := x_bd1 h
        refine x_cv (b := p_0) (As := [.int v_1, .int 1]) (ci := 8) (d' := 2) (zz := yX8_ofRequest) dX8_tick_24 ml_X8_206 wi_X8_ofRequest wv_X8_ofRequest wn_X8 wc_X8_ofRequest hp_X8_ofRequest (by decide) (by decide) rfl (Nat.le_of_ble_eq_true rfl) ⟨Nat.zero_le _, Nat.zero_le _⟩ rfl kk0 (T_X8_ofRequest (G := G) hw kk0 q8) ?_
        refine x_aload_n 0 dX8_tick_27 rfl rfl ?_
        refine x_getr dX8_tick_28 (ci := 8) (f := 8) (M := 19) (C9 := RX8) (T9 := TX8) rfl xin8 (by decide) fl_X8_17 rfl kk0 g1 ?_
        refine x_iconst (v := 0) dX8_tick_31 rfl ?_
        refine x_iald dX8_tick_32 k2 (xb_at n3 (by decide)) rfl ?_
        rcases x_if h with ⟨c10, h⟩ | ⟨c10, h⟩
        · refine x_icmp_ne_f (tgt := 41) dX8_tick_33 (by decide) c10 ?_
          refine x_aload_n 0 dX8_tick_36 rfl rfl ?_
          refine x_iload_n 1 dX8_tick_37 rfl rfl ?_
          obtain ⟨N12, q11, h⟩ := x_bd1 h
          refine x_cv (b := p_0) (As := [.int v_1]) (ci := 8) (d' := 7) (zz := yX8_raiseNow) dX8_tick_38 ml_X8_261 wi_X8_raiseNow wv_X8_raiseNow wn_X8 wc_X8_raiseNow hp_X8_raiseNow (by decide) (by decide) rfl (Nat.le_of_ble_eq_true rfl) ⟨Nat.zero_le _, Nat.zero_le _⟩ rfl kk0 (T_X8_raiseNow (G := G) hw kk0 q11) ?_
          refine x_iinc 1 [1, 0] dX8_tick_41 rfl rfl (by decide) rfl ?_
          refine x_goto (tgt := 2) dX8_tick_44 (by decide) ?_
          exact ih p_0 (v_1 + 1) N12 kk0 h
        · refine x_icmp_ne_t (tgt := 41) dX8_tick_33 (by decide) c10 ?_
          refine x_iinc 1 [1, 0] dX8_tick_41 rfl rfl (by decide) rfl ?_
          refine x_goto (tgt := 2) dX8_tick_44 (by decide) ?_
          exact ih p_0 (v_1 + 1) N kk0 h
      · refine x_if_ne_t (tgt := 41) dX8_tick_18 (by decide) c7 ?_
        refine x_iinc 1 [1, 0] dX8_tick_41 rfl rfl (by decide) rfl ?_
        refine x_goto (tgt := 2) dX8_tick_44 (by decide) ?_
        exact ih p_0 (v_1 + 1) N kk0 h
set_option maxHeartbeats 4000000 in
set_option maxRecDepth 100000 in
theorem T_X8_tick {G : XG} {Y : XY} (hw : WT Y) {a0 : Nat} {N : XN} (k100 : kc Y a0 = 18) {N9 : XN} (h : f_X8_tick Y a0 N = some N9) : Cl G yX8_tick cX8_tick 2 none (xR 9 0 0) [.ref a0] (.inl none) Y N Y N9 := by
  refine x_entry (by decide) (Nat.le_of_ble_eq_true rfl) rfl ?_
  rw [f_X8_tick] at h
  refine x_iconst (v := 0) dX8_tick_0 rfl ?_
  refine x_istore_n [1, 0] dX8_tick_1 rfl (by decide) rfl ?_
  exact T_X8_tick_2 (G := G) hw FU a0 0 N k100 h
set_option maxHeartbeats 4000000 in
set_option maxRecDepth 100000 in
theorem T_X8_noHandler {G : XG} {Y : XY} (hw : WT Y) {a0 : Nat} {a1 : Int32} {N : XN} (k100 : kc Y a0 = 18) {r9 : Int32} {N9 : XN} (h : f_X8_noHandler Y a0 a1 N = some (r9, N9)) : Cl G yX8_noHandler cX8_noHandler 2 (some .boolean) (xR 2 0 0) [.ref a0, .int a1] (.inl (some (.int r9))) Y N Y N9 := by
  refine x_entry (by decide) (Nat.le_of_ble_eq_true rfl) rfl ?_
  rw [f_X8_noHandler] at h
  refine x_aload_n 0 dX8_noHandler_0 rfl rfl ?_
  refine x_iload_n 1 dX8_noHandler_1 rfl rfl ?_
  refine x_iconst (v := 0) dX8_noHandler_2 rfl ?_
  refine x_aload_n 0 dX8_noHandler_3 rfl rfl ?_
  obtain ⟨g1, k2, n3⟩ := wt_X8_8 hw k100
  refine x_getr dX8_noHandler_4 (ci := 8) (f := 8) (M := 19) (C9 := RX8) (T9 := TX8) rfl xin8 (by decide) fl_X8_17 rfl k100 g1 ?_
  refine x_iconst (v := 1) dX8_noHandler_7 rfl ?_
  refine x_iald dX8_noHandler_8 k2 (xb_at n3 (by decide)) rfl ?_
  refine x_iconst (v := 1) dX8_noHandler_9 rfl ?_
  refine x_isub dX8_noHandler_10 ?_
  refine x_cs (As := [.int a1, .int 0, .int ((gi N (gp Y a0 8) 1) - 1)]) (d' := 1) (zz := yX8_in) dX8_noHandler_11 ml_X8_67 wt_X8_in wn_X8 wc_X8_in hp_X8_in (by decide) (by decide) rfl (Nat.le_of_ble_eq_true rfl) ⟨Nat.zero_le _, Nat.zero_le _⟩ (T_X8_in (G := G) hw  rfl) ?_
  rcases x_if h with ⟨c4, h⟩ | ⟨c4, h⟩
  · refine x_if_ne_f (tgt := 21) dX8_noHandler_14 (by decide) c4 ?_
    refine x_iconst (v := 1) dX8_noHandler_17 rfl ?_
    refine x_goto (tgt := 22) dX8_noHandler_18 (by decide) ?_
    refine x_iconst (v := 1) dX8_noHandler_22 rfl ?_
    obtain ⟨r6, N7, q5, h⟩ := x_bd2 h
    refine x_cv (b := a0) (As := [.int 1, .int 1]) (ci := 8) (d' := 1) (zz := yX8_fails) dX8_noHandler_23 ml_X8_181 wi_X8_fails wv_X8_fails wn_X8 wc_X8_fails hp_X8_fails (by decide) (by decide) rfl (Nat.le_of_ble_eq_true rfl) ⟨Nat.zero_le _, Nat.zero_le _⟩ rfl k100 (T_X8_fails (G := G) hw k100 q5) ?_
    obtain ⟨c8, h⟩ := x_ck h
    obtain ⟨rfl, rfl⟩ := Prod.mk.inj (x_so h)
    exact x_zret dX8_noHandler_26 rfl (xz_or c8) rfl rfl
  · refine x_if_ne_t (tgt := 21) dX8_noHandler_14 (by decide) c4 ?_
    refine x_iconst (v := 0) dX8_noHandler_21 rfl ?_
    refine x_iconst (v := 1) dX8_noHandler_22 rfl ?_
    obtain ⟨r10, N11, q9, h⟩ := x_bd2 h
    refine x_cv (b := a0) (As := [.int 0, .int 1]) (ci := 8) (d' := 1) (zz := yX8_fails) dX8_noHandler_23 ml_X8_181 wi_X8_fails wv_X8_fails wn_X8 wc_X8_fails hp_X8_fails (by decide) (by decide) rfl (Nat.le_of_ble_eq_true rfl) ⟨Nat.zero_le _, Nat.zero_le _⟩ rfl k100 (T_X8_fails (G := G) hw k100 q9) ?_
    obtain ⟨c12, h⟩ := x_ck h
    obtain ⟨rfl, rfl⟩ := Prod.mk.inj (x_so h)
    exact x_zret dX8_noHandler_26 rfl (xz_or c12) rfl rfl
set_option maxHeartbeats 4000000 in
set_option maxRecDepth 100000 in
theorem T_X8_noLine {G : XG} {Y : XY} (hw : WT Y) {a0 : Nat} {a1 : Int32} {N : XN} (k100 : kc Y a0 = 18) {r9 : Int32} {N9 : XN} (h : f_X8_noLine Y a0 a1 N = some (r9, N9)) : Cl G yX8_noLine cX8_noLine 2 (some .boolean) (xR 2 0 0) [.ref a0, .int a1] (.inl (some (.int r9))) Y N Y N9 := by
  refine x_entry (by decide) (Nat.le_of_ble_eq_true rfl) rfl ?_
  rw [f_X8_noLine] at h
  refine x_aload_n 0 dX8_noLine_0 rfl rfl ?_
  refine x_iload_n 1 dX8_noLine_1 rfl rfl ?_
  refine x_iconst (v := 0) dX8_noLine_2 rfl ?_
  refine x_aload_n 0 dX8_noLine_3 rfl rfl ?_
  obtain ⟨g1, k2, n3⟩ := wt_X8_8 hw k100
  refine x_getr dX8_noLine_4 (ci := 8) (f := 8) (M := 19) (C9 := RX8) (T9 := TX8) rfl xin8 (by decide) fl_X8_17 rfl k100 g1 ?_
  refine x_iconst (v := 2) dX8_noLine_7 rfl ?_
  refine x_iald dX8_noLine_8 k2 (xb_at n3 (by decide)) rfl ?_
  refine x_iconst (v := 1) dX8_noLine_9 rfl ?_
  refine x_isub dX8_noLine_10 ?_
  refine x_cs (As := [.int a1, .int 0, .int ((gi N (gp Y a0 8) 2) - 1)]) (d' := 1) (zz := yX8_in) dX8_noLine_11 ml_X8_67 wt_X8_in wn_X8 wc_X8_in hp_X8_in (by decide) (by decide) rfl (Nat.le_of_ble_eq_true rfl) ⟨Nat.zero_le _, Nat.zero_le _⟩ (T_X8_in (G := G) hw  rfl) ?_
  rcases x_if h with ⟨c4, h⟩ | ⟨c4, h⟩
  · refine x_if_ne_f (tgt := 21) dX8_noLine_14 (by decide) c4 ?_
    refine x_iconst (v := 1) dX8_noLine_17 rfl ?_
    refine x_goto (tgt := 22) dX8_noLine_18 (by decide) ?_
    refine x_iconst (v := 1) dX8_noLine_22 rfl ?_
    obtain ⟨r6, N7, q5, h⟩ := x_bd2 h
    refine x_cv (b := a0) (As := [.int 1, .int 1]) (ci := 8) (d' := 1) (zz := yX8_fails) dX8_noLine_23 ml_X8_181 wi_X8_fails wv_X8_fails wn_X8 wc_X8_fails hp_X8_fails (by decide) (by decide) rfl (Nat.le_of_ble_eq_true rfl) ⟨Nat.zero_le _, Nat.zero_le _⟩ rfl k100 (T_X8_fails (G := G) hw k100 q5) ?_
    obtain ⟨c8, h⟩ := x_ck h
    obtain ⟨rfl, rfl⟩ := Prod.mk.inj (x_so h)
    exact x_zret dX8_noLine_26 rfl (xz_or c8) rfl rfl
  · refine x_if_ne_t (tgt := 21) dX8_noLine_14 (by decide) c4 ?_
    refine x_iconst (v := 0) dX8_noLine_21 rfl ?_
    refine x_iconst (v := 1) dX8_noLine_22 rfl ?_
    obtain ⟨r10, N11, q9, h⟩ := x_bd2 h
    refine x_cv (b := a0) (As := [.int 0, .int 1]) (ci := 8) (d' := 1) (zz := yX8_fails) dX8_noLine_23 ml_X8_181 wi_X8_fails wv_X8_fails wn_X8 wc_X8_fails hp_X8_fails (by decide) (by decide) rfl (Nat.le_of_ble_eq_true rfl) ⟨Nat.zero_le _, Nat.zero_le _⟩ rfl k100 (T_X8_fails (G := G) hw k100 q9) ?_
    obtain ⟨c12, h⟩ := x_ck h
    obtain ⟨rfl, rfl⟩ := Prod.mk.inj (x_so h)
    exact x_zret dX8_noLine_26 rfl (xz_or c12) rfl rfl
set_option maxHeartbeats 4000000 in
set_option maxRecDepth 100000 in
theorem T_X8_noRequest {G : XG} {Y : XY} (hw : WT Y) {a0 : Nat} {a1 : Int32} {N : XN} (k100 : kc Y a0 = 18) {r9 : Int32} {N9 : XN} (h : f_X8_noRequest Y a0 a1 N = some (r9, N9)) : Cl G yX8_noRequest cX8_noRequest 2 (some .boolean) (xR 2 0 0) [.ref a0, .int a1] (.inl (some (.int r9))) Y N Y N9 := by
  refine x_entry (by decide) (Nat.le_of_ble_eq_true rfl) rfl ?_
  rw [f_X8_noRequest] at h
  refine x_aload_n 0 dX8_noRequest_0 rfl rfl ?_
  refine x_iload_n 1 dX8_noRequest_1 rfl rfl ?_
  refine x_iconst (v := 0) dX8_noRequest_2 rfl ?_
  refine x_aload_n 0 dX8_noRequest_3 rfl rfl ?_
  obtain ⟨g1, k2, n3⟩ := wt_X8_8 hw k100
  refine x_getr dX8_noRequest_4 (ci := 8) (f := 8) (M := 19) (C9 := RX8) (T9 := TX8) rfl xin8 (by decide) fl_X8_17 rfl k100 g1 ?_
  refine x_iconst (v := 3) dX8_noRequest_7 rfl ?_
  refine x_iald dX8_noRequest_8 k2 (xb_at n3 (by decide)) rfl ?_
  refine x_iconst (v := 1) dX8_noRequest_9 rfl ?_
  refine x_isub dX8_noRequest_10 ?_
  refine x_cs (As := [.int a1, .int 0, .int ((gi N (gp Y a0 8) 3) - 1)]) (d' := 1) (zz := yX8_in) dX8_noRequest_11 ml_X8_67 wt_X8_in wn_X8 wc_X8_in hp_X8_in (by decide) (by decide) rfl (Nat.le_of_ble_eq_true rfl) ⟨Nat.zero_le _, Nat.zero_le _⟩ (T_X8_in (G := G) hw  rfl) ?_
  rcases x_if h with ⟨c4, h⟩ | ⟨c4, h⟩
  · refine x_if_ne_f (tgt := 21) dX8_noRequest_14 (by decide) c4 ?_
    refine x_iconst (v := 1) dX8_noRequest_17 rfl ?_
    refine x_goto (tgt := 22) dX8_noRequest_18 (by decide) ?_
    refine x_iconst (v := 1) dX8_noRequest_22 rfl ?_
    obtain ⟨r6, N7, q5, h⟩ := x_bd2 h
    refine x_cv (b := a0) (As := [.int 1, .int 1]) (ci := 8) (d' := 1) (zz := yX8_fails) dX8_noRequest_23 ml_X8_181 wi_X8_fails wv_X8_fails wn_X8 wc_X8_fails hp_X8_fails (by decide) (by decide) rfl (Nat.le_of_ble_eq_true rfl) ⟨Nat.zero_le _, Nat.zero_le _⟩ rfl k100 (T_X8_fails (G := G) hw k100 q5) ?_
    obtain ⟨c8, h⟩ := x_ck h
    obtain ⟨rfl, rfl⟩ := Prod.mk.inj (x_so h)
    exact x_zret dX8_noRequest_26 rfl (xz_or c8) rfl rfl
  · refine x_if_ne_t (tgt := 21) dX8_noRequest_14 (by decide) c4 ?_
    refine x_iconst (v := 0) dX8_noRequest_21 rfl ?_
    refine x_iconst (v := 1) dX8_noRequest_22 rfl ?_
    obtain ⟨r10, N11, q9, h⟩ := x_bd2 h
    refine x_cv (b := a0) (As := [.int 0, .int 1]) (ci := 8) (d' := 1) (zz := yX8_fails) dX8_noRequest_23 ml_X8_181 wi_X8_fails wv_X8_fails wn_X8 wc_X8_fails hp_X8_fails (by decide) (by decide) rfl (Nat.le_of_ble_eq_true rfl) ⟨Nat.zero_le _, Nat.zero_le _⟩ rfl k100 (T_X8_fails (G := G) hw k100 q9) ?_
    obtain ⟨c12, h⟩ := x_ck h
    obtain ⟨rfl, rfl⟩ := Prod.mk.inj (x_so h)
    exact x_zret dX8_noRequest_26 rfl (xz_or c12) rfl rfl
set_option maxHeartbeats 4000000 in
set_option maxRecDepth 100000 in
theorem T_X8_noNumber {G : XG} {Y : XY} (hw : WT Y) {a0 : Nat} {a1 : Int32} {a2 : Int32} {a3 : Int32} {N : XN} (k100 : kc Y a0 = 18) {r9 : Int32} {N9 : XN} (h : f_X8_noNumber Y a0 a1 a2 a3 N = some (r9, N9)) : Cl G yX8_noNumber cX8_noNumber 4 (some .boolean) (xR 2 0 0) [.ref a0, .int a1, .int a2, .int a3] (.inl (some (.int r9))) Y N Y N9 := by
  refine x_entry (by decide) (Nat.le_of_ble_eq_true rfl) rfl ?_
  rw [f_X8_noNumber] at h
  refine x_aload_n 0 dX8_noNumber_0 rfl rfl ?_
  refine x_iload_n 1 dX8_noNumber_1 rfl rfl ?_
  refine x_iload_n 2 dX8_noNumber_2 rfl rfl ?_
  refine x_iload_n 3 dX8_noNumber_3 rfl rfl ?_
  refine x_cs (As := [.int a1, .int a2, .int a3]) (d' := 1) (zz := yX8_in) dX8_noNumber_4 ml_X8_67 wt_X8_in wn_X8 wc_X8_in hp_X8_in (by decide) (by decide) rfl (Nat.le_of_ble_eq_true rfl) ⟨Nat.zero_le _, Nat.zero_le _⟩ (T_X8_in (G := G) hw  rfl) ?_
  rcases x_if h with ⟨c1, h⟩ | ⟨c1, h⟩
  · refine x_if_ne_f (tgt := 14) dX8_noNumber_7 (by decide) c1 ?_
    refine x_iconst (v := 1) dX8_noNumber_10 rfl ?_
    refine x_goto (tgt := 15) dX8_noNumber_11 (by decide) ?_
    refine x_iconst (v := 2) dX8_noNumber_15 rfl ?_
    obtain ⟨r3, N4, q2, h⟩ := x_bd2 h
    refine x_cv (b := a0) (As := [.int 1, .int 2]) (ci := 8) (d' := 1) (zz := yX8_fails) dX8_noNumber_16 ml_X8_181 wi_X8_fails wv_X8_fails wn_X8 wc_X8_fails hp_X8_fails (by decide) (by decide) rfl (Nat.le_of_ble_eq_true rfl) ⟨Nat.zero_le _, Nat.zero_le _⟩ rfl k100 (T_X8_fails (G := G) hw k100 q2) ?_
    obtain ⟨c5, h⟩ := x_ck h
    obtain ⟨rfl, rfl⟩ := Prod.mk.inj (x_so h)
    exact x_zret dX8_noNumber_19 rfl (xz_or c5) rfl rfl
  · refine x_if_ne_t (tgt := 14) dX8_noNumber_7 (by decide) c1 ?_
    refine x_iconst (v := 0) dX8_noNumber_14 rfl ?_
    refine x_iconst (v := 2) dX8_noNumber_15 rfl ?_
    obtain ⟨r7, N8, q6, h⟩ := x_bd2 h
    refine x_cv (b := a0) (As := [.int 0, .int 2]) (ci := 8) (d' := 1) (zz := yX8_fails) dX8_noNumber_16 ml_X8_181 wi_X8_fails wv_X8_fails wn_X8 wc_X8_fails hp_X8_fails (by decide) (by decide) rfl (Nat.le_of_ble_eq_true rfl) ⟨Nat.zero_le _, Nat.zero_le _⟩ rfl k100 (T_X8_fails (G := G) hw k100 q6) ?_
    obtain ⟨c9, h⟩ := x_ck h
    obtain ⟨rfl, rfl⟩ := Prod.mk.inj (x_so h)
    exact x_zret dX8_noNumber_19 rfl (xz_or c9) rfl rfl
set_option maxHeartbeats 4000000 in
set_option maxRecDepth 100000 in
theorem T_X8_countOf_4 {G : XG} {Y : XY} (hw : WT Y) {r9 : Int32}: ∀ (D9 : Nat) (p_0 : Nat) (v_1 : Int32) (v_2 : Int32) (v_3 : Int32) (N : XN), kc Y p_0 = 18 → f_X8_countOf_4 Y D9 p_0 v_1 v_2 v_3 N = some r9 → Ex G yX8_countOf cX8_countOf 4 (some .int) (xR 3 0 0) (.inl (some (.int r9))) Y N 0 0 4 [(0, .ref p_0), (1, .int v_1), (2, .int v_2), (3, .int v_3)] [] Y N := by
  intro D9
  induction D9 with
  | zero => intro p_0 v_1 v_2 v_3 N kk0 h; exact nomatch (show none = some r9 from h)
  | succ D9 ih =>
    intro p_0 v_1 v_2 v_3 N kk0 h
    rw [f_X8_countOf_4] at h
    refine x_iload_n 3 dX8_countOf_4 rfl rfl ?_
    refine x_aload_n 0 dX8_countOf_5 rfl rfl ?_
    obtain ⟨g1, k2, n3⟩ := wt_X8_8 hw kk0
    refine x_getr dX8_countOf_6 (ci := 8) (f := 8) (M := 19) (C9 := RX8) (T9 := TX8) rfl xin8 (by decide) fl_X8_17 rfl kk0 g1 ?_
    refine x_iconst (v := 3) dX8_countOf_9 rfl ?_
    refine x_iald dX8_countOf_10 k2 (xb_at n3 (by decide)) rfl ?_
    rcases x_if h with ⟨c4, h⟩ | ⟨c4, h⟩
    · refine x_icmp_ge_t (tgt := 38) dX8_countOf_11 (by decide) c4 ?_
      refine x_iload_n 2 dX8_countOf_38 rfl rfl ?_
      obtain rfl := x_so h
      exact x_iret dX8_countOf_39 rfl rfl rfl
    · refine x_icmp_ge_f (tgt := 38) dX8_countOf_11 (by decide) c4 ?_
      refine x_iload_n 2 dX8_countOf_14 rfl rfl ?_
      refine x_aload_n 0 dX8_countOf_15 rfl rfl ?_
      refine x_iload_n 3 dX8_countOf_16 rfl rfl ?_
      refine x_iconst (v := 3) dX8_countOf_17 rfl ?_
      obtain ⟨r6, q5, h⟩ := x_bd1 h
      refine x_cv (b := p_0) (As := [.int v_3, .int 3]) (ci := 8) (d' := 2) (zz := yX8_ofRequest) dX8_countOf_18 ml_X8_206 wi_X8_ofRequest wv_X8_ofRequest wn_X8 wc_X8_ofRequest hp_X8_ofRequest (by decide) (by decide) rfl (Nat.le_of_ble_eq_true rfl) ⟨Nat.zero_le _, Nat.zero_le _⟩ rfl kk0 (T_X8_ofRequest (G := G) hw kk0 q5) ?_
      refine x_iload_n 1 dX8_countOf_21 rfl rfl ?_
      rcases x_if h with ⟨c7, h⟩ | ⟨c7, h⟩
      · refine x_icmp_ne_f (tgt := 29) dX8_countOf_22 (by decide) c7 ?_
        refine x_iconst (v := 1) dX8_countOf_25 rfl ?_
        refine x_goto (tgt := 30) dX8_countOf_26 (by decide) ?_
        refine x_iadd dX8_countOf_30 ?_
        refine x_istore_n [1, 2, 0, 3] dX8_countOf_31 rfl (by decide) rfl ?_
        refine x_iinc 3 [1, 2, 3, 0] dX8_countOf_32 rfl rfl (by decide) rfl ?_
        refine x_goto (tgt := 4) dX8_countOf_35 (by decide) ?_
        exact ih p_0 v_1 (v_2 + 1) (v_3 + 1) N kk0 h
      · refine x_icmp_ne_t (tgt := 29) dX8_countOf_22 (by decide) c7 ?_
        refine x_iconst (v := 0) dX8_countOf_29 rfl ?_
        refine x_iadd dX8_countOf_30 ?_
        refine x_istore_n [1, 2, 0, 3] dX8_countOf_31 rfl (by decide) rfl ?_
        refine x_iinc 3 [1, 2, 3, 0] dX8_countOf_32 rfl rfl (by decide) rfl ?_
        refine x_goto (tgt := 4) dX8_countOf_35 (by decide) ?_
        exact ih p_0 v_1 (v_2 + 0) (v_3 + 1) N kk0 h
set_option maxHeartbeats 4000000 in
set_option maxRecDepth 100000 in
theorem T_X8_countOf {G : XG} {Y : XY} (hw : WT Y) {a0 : Nat} {a1 : Int32} {N : XN} (k100 : kc Y a0 = 18) {r9 : Int32} (h : f_X8_countOf Y a0 a1 N = some r9) : Cl G yX8_countOf cX8_countOf 4 (some .int) (xR 3 0 0) [.ref a0, .int a1] (.inl (some (.int r9))) Y N Y N := by
  refine x_entry (by decide) (Nat.le_of_ble_eq_true rfl) rfl ?_
  rw [f_X8_countOf] at h
  refine x_iconst (v := 0) dX8_countOf_0 rfl ?_
  refine x_istore_n [1, 2, 0] dX8_countOf_1 rfl (by decide) rfl ?_
  refine x_iconst (v := 0) dX8_countOf_2 rfl ?_
  refine x_istore_n [1, 2, 3, 0] dX8_countOf_3 rfl (by decide) rfl ?_
  exact T_X8_countOf_4 (G := G) hw FU a0 a1 0 0 N k100 h
set_option maxHeartbeats 4000000 in
set_option maxRecDepth 100000 in
theorem T_X8_broken_4 {G : XG} {Y : XY} (hw : WT Y) {r9 : Int32}: ∀ (D9 : Nat) (p_0 : Nat) (v_1 : Int32) (v_2 : Int32) (N : XN), kc Y p_0 = 18 → f_X8_broken_4 Y D9 p_0 v_1 v_2 N = some r9 → Ex G yX8_broken cX8_broken 3 (some .int) (xR 3 0 0) (.inl (some (.int r9))) Y N 0 0 4 [(0, .ref p_0), (1, .int v_1), (2, .int v_2)] [] Y N := by
  intro D9
  induction D9 with
  | zero => intro p_0 v_1 v_2 N kk0 h; exact nomatch (show none = some r9 from h)
  | succ D9 ih =>
    intro p_0 v_1 v_2 N kk0 h
    rw [f_X8_broken_4] at h
    refine x_iload_n 2 dX8_broken_4 rfl rfl ?_
    refine x_aload_n 0 dX8_broken_5 rfl rfl ?_
    obtain ⟨g1, k2, n3⟩ := wt_X8_8 hw kk0
    refine x_getr dX8_broken_6 (ci := 8) (f := 8) (M := 19) (C9 := RX8) (T9 := TX8) rfl xin8 (by decide) fl_X8_17 rfl kk0 g1 ?_
    refine x_iconst (v := 1) dX8_broken_9 rfl ?_
    refine x_iald dX8_broken_10 k2 (xb_at n3 (by decide)) rfl ?_
    rcases x_if h with ⟨c4, h⟩ | ⟨c4, h⟩
    · refine x_icmp_ge_t (tgt := 29) dX8_broken_11 (by decide) c4 ?_
      refine x_iload_n 1 dX8_broken_29 rfl rfl ?_
      obtain rfl := x_so h
      exact x_iret dX8_broken_30 rfl rfl rfl
    · refine x_icmp_ge_f (tgt := 29) dX8_broken_11 (by decide) c4 ?_
      refine x_iload_n 1 dX8_broken_14 rfl rfl ?_
      refine x_aload_n 0 dX8_broken_15 rfl rfl ?_
      refine x_iload_n 2 dX8_broken_16 rfl rfl ?_
      refine x_iconst (v := 2) dX8_broken_17 rfl ?_
      obtain ⟨r6, q5, h⟩ := x_bd1 h
      refine x_cv (b := p_0) (As := [.int v_2, .int 2]) (ci := 8) (d' := 2) (zz := yX8_ofHandler) dX8_broken_18 ml_X8_245 wi_X8_ofHandler wv_X8_ofHandler wn_X8 wc_X8_ofHandler hp_X8_ofHandler (by decide) (by decide) rfl (Nat.le_of_ble_eq_true rfl) ⟨Nat.zero_le _, Nat.zero_le _⟩ rfl kk0 (T_X8_ofHandler (G := G) hw kk0 q5) ?_
      refine x_iadd dX8_broken_21 ?_
      refine x_istore_n [1, 0, 2] dX8_broken_22 rfl (by decide) rfl ?_
      refine x_iinc 2 [1, 2, 0] dX8_broken_23 rfl rfl (by decide) rfl ?_
      refine x_goto (tgt := 4) dX8_broken_26 (by decide) ?_
      exact ih p_0 (v_1 + r6) (v_2 + 1) N kk0 h
set_option maxHeartbeats 4000000 in
set_option maxRecDepth 100000 in
theorem T_X8_broken {G : XG} {Y : XY} (hw : WT Y) {a0 : Nat} {N : XN} (k100 : kc Y a0 = 18) {r9 : Int32} (h : f_X8_broken Y a0 N = some r9) : Cl G yX8_broken cX8_broken 3 (some .int) (xR 3 0 0) [.ref a0] (.inl (some (.int r9))) Y N Y N := by
  refine x_entry (by decide) (Nat.le_of_ble_eq_true rfl) rfl ?_
  rw [f_X8_broken] at h
  refine x_iconst (v := 0) dX8_broken_0 rfl ?_
  refine x_istore_n [1, 0] dX8_broken_1 rfl (by decide) rfl ?_
  refine x_iconst (v := 0) dX8_broken_2 rfl ?_
  refine x_istore_n [1, 2, 0] dX8_broken_3 rfl (by decide) rfl ?_
  exact T_X8_broken_4 (G := G) hw FU a0 0 0 N k100 h
set_option maxHeartbeats 4000000 in
set_option maxRecDepth 100000 in
theorem T_X8_coins_36 {G : XG} {Y : XY} (hw : WT Y) {r9 : Int32}: ∀ (D9 : Nat) (p_0 : Nat) (v_1 : Int32) (v_2 : Int32) (N : XN), kc Y p_0 = 18 → f_X8_coins_36 Y D9 p_0 v_1 v_2 N = some r9 → Ex G yX8_coins cX8_coins 3 (some .int) (xR 3 0 0) (.inl (some (.int r9))) Y N 0 0 36 [(0, .ref p_0), (1, .int v_1), (2, .int v_2)] [] Y N := by
  intro D9
  induction D9 with
  | zero => intro p_0 v_1 v_2 N kk0 h; exact nomatch (show none = some r9 from h)
  | succ D9 ih =>
    intro p_0 v_1 v_2 N kk0 h
    rw [f_X8_coins_36] at h
    refine x_iload_n 2 dX8_coins_36 rfl rfl ?_
    refine x_aload_n 0 dX8_coins_37 rfl rfl ?_
    obtain ⟨g1, k2, n3⟩ := wt_X8_8 hw kk0
    refine x_getr dX8_coins_38 (ci := 8) (f := 8) (M := 19) (C9 := RX8) (T9 := TX8) rfl xin8 (by decide) fl_X8_17 rfl kk0 g1 ?_
    refine x_iconst (v := 2) dX8_coins_41 rfl ?_
    refine x_iald dX8_coins_42 k2 (xb_at n3 (by decide)) rfl ?_
    rcases x_if h with ⟨c4, h⟩ | ⟨c4, h⟩
    · refine x_icmp_ge_t (tgt := 61) dX8_coins_43 (by decide) c4 ?_
      refine x_iload_n 1 dX8_coins_61 rfl rfl ?_
      obtain rfl := x_so h
      exact x_iret dX8_coins_62 rfl rfl rfl
    · refine x_icmp_ge_f (tgt := 61) dX8_coins_43 (by decide) c4 ?_
      refine x_iload_n 1 dX8_coins_46 rfl rfl ?_
      refine x_aload_n 0 dX8_coins_47 rfl rfl ?_
      refine x_iload_n 2 dX8_coins_48 rfl rfl ?_
      refine x_iconst (v := 2) dX8_coins_49 rfl ?_
      obtain ⟨r6, q5, h⟩ := x_bd1 h
      refine x_cv (b := p_0) (As := [.int v_2, .int 2]) (ci := 8) (d' := 2) (zz := yX8_ofLine) dX8_coins_50 ml_X8_222 wi_X8_ofLine wv_X8_ofLine wn_X8 wc_X8_ofLine hp_X8_ofLine (by decide) (by decide) rfl (Nat.le_of_ble_eq_true rfl) ⟨Nat.zero_le _, Nat.zero_le _⟩ rfl kk0 (T_X8_ofLine (G := G) hw kk0 q5) ?_
      refine x_iadd dX8_coins_53 ?_
      refine x_istore_n [1, 0, 2] dX8_coins_54 rfl (by decide) rfl ?_
      refine x_iinc 2 [1, 2, 0] dX8_coins_55 rfl rfl (by decide) rfl ?_
      refine x_goto (tgt := 36) dX8_coins_58 (by decide) ?_
      exact ih p_0 (v_1 + r6) (v_2 + 1) N kk0 h
set_option maxHeartbeats 4000000 in
set_option maxRecDepth 100000 in
theorem T_X8_coins_9 {G : XG} {Y : XY} (hw : WT Y) {r9 : Int32}: ∀ (D9 : Nat) (p_0 : Nat) (v_1 : Int32) (v_2 : Int32) (N : XN), kc Y p_0 = 18 → f_X8_coins_9 Y D9 p_0 v_1 v_2 N = some r9 → Ex G yX8_coins cX8_coins 3 (some .int) (xR 3 0 0) (.inl (some (.int r9))) Y N 0 0 9 [(0, .ref p_0), (1, .int v_1), (2, .int v_2)] [] Y N := by
  intro D9
  induction D9 with
  | zero => intro p_0 v_1 v_2 N kk0 h; exact nomatch (show none = some r9 from h)
  | succ D9 ih =>
    intro p_0 v_1 v_2 N kk0 h
    rw [f_X8_coins_9] at h
    refine x_iload_n 2 dX8_coins_9 rfl rfl ?_
    refine x_aload_n 0 dX8_coins_10 rfl rfl ?_
    obtain ⟨g1, k2, n3⟩ := wt_X8_8 hw kk0
    refine x_getr dX8_coins_11 (ci := 8) (f := 8) (M := 19) (C9 := RX8) (T9 := TX8) rfl xin8 (by decide) fl_X8_17 rfl kk0 g1 ?_
    refine x_iconst (v := 1) dX8_coins_14 rfl ?_
    refine x_iald dX8_coins_15 k2 (xb_at n3 (by decide)) rfl ?_
    rcases x_if h with ⟨c4, h⟩ | ⟨c4, h⟩
    · refine x_icmp_ge_t (tgt := 34) dX8_coins_16 (by decide) c4 ?_
      refine x_iconst (v := 0) dX8_coins_34 rfl ?_
      refine x_istore_n [1, 2, 0] dX8_coins_35 rfl (by decide) rfl ?_
      exact T_X8_coins_36 (G := G) hw FU p_0 v_1 0 N kk0 h
    · refine x_icmp_ge_f (tgt := 34) dX8_coins_16 (by decide) c4 ?_
      refine x_iload_n 1 dX8_coins_19 rfl rfl ?_
      refine x_aload_n 0 dX8_coins_20 rfl rfl ?_
      refine x_iload_n 2 dX8_coins_21 rfl rfl ?_
      refine x_iconst (v := 0) dX8_coins_22 rfl ?_
      obtain ⟨r6, q5, h⟩ := x_bd1 h
      refine x_cv (b := p_0) (As := [.int v_2, .int 0]) (ci := 8) (d' := 2) (zz := yX8_ofHandler) dX8_coins_23 ml_X8_245 wi_X8_ofHandler wv_X8_ofHandler wn_X8 wc_X8_ofHandler hp_X8_ofHandler (by decide) (by decide) rfl (Nat.le_of_ble_eq_true rfl) ⟨Nat.zero_le _, Nat.zero_le _⟩ rfl kk0 (T_X8_ofHandler (G := G) hw kk0 q5) ?_
      refine x_iadd dX8_coins_26 ?_
      refine x_istore_n [1, 0, 2] dX8_coins_27 rfl (by decide) rfl ?_
      refine x_iinc 2 [1, 2, 0] dX8_coins_28 rfl rfl (by decide) rfl ?_
      refine x_goto (tgt := 9) dX8_coins_31 (by decide) ?_
      exact ih p_0 (v_1 + r6) (v_2 + 1) N kk0 h
set_option maxHeartbeats 4000000 in
set_option maxRecDepth 100000 in
theorem T_X8_coins {G : XG} {Y : XY} (hw : WT Y) {a0 : Nat} {N : XN} (k100 : kc Y a0 = 18) {r9 : Int32} (h : f_X8_coins Y a0 N = some r9) : Cl G yX8_coins cX8_coins 3 (some .int) (xR 3 0 0) [.ref a0] (.inl (some (.int r9))) Y N Y N := by
  refine x_entry (by decide) (Nat.le_of_ble_eq_true rfl) rfl ?_
  rw [f_X8_coins] at h
  refine x_aload_n 0 dX8_coins_0 rfl rfl ?_
  obtain ⟨g1, k2, n3⟩ := wt_X8_8 hw k100
  refine x_getr dX8_coins_1 (ci := 8) (f := 8) (M := 19) (C9 := RX8) (T9 := TX8) rfl xin8 (by decide) fl_X8_17 rfl k100 g1 ?_
  refine x_iconst (v := 4) dX8_coins_4 rfl ?_
  refine x_iald dX8_coins_5 k2 (xb_at n3 (by decide)) rfl ?_
  refine x_istore_n [1, 0] dX8_coins_6 rfl (by decide) rfl ?_
  refine x_iconst (v := 0) dX8_coins_7 rfl ?_
  refine x_istore_n [1, 2, 0] dX8_coins_8 rfl (by decide) rfl ?_
  exact T_X8_coins_9 (G := G) hw FU a0 (gi N (gp Y a0 8) 4) 0 N k100 h
set_option maxHeartbeats 4000000 in
set_option maxRecDepth 100000 in
theorem T_X8_told {G : XG} {Y : XY} (hw : WT Y) {a0 : Nat} {a1 : Int32} {N : XN} (k100 : kc Y a0 = 18) {r9 : Int32} (h : f_X8_told Y a0 a1 N = some r9) : Cl G yX8_told cX8_told 2 (some .int) (xR 4 0 0) [.ref a0, .int a1] (.inl (some (.int r9))) Y N Y N := by
  refine x_entry (by decide) (Nat.le_of_ble_eq_true rfl) rfl ?_
  rw [f_X8_told] at h
  refine x_iload_n 1 dX8_told_0 rfl rfl ?_
  refine x_iconst (v := 5) dX8_told_1 rfl ?_
  rcases x_if h with ⟨c1, h⟩ | ⟨c1, h⟩
  · refine x_icmp_ge_t (tgt := 14) dX8_told_2 (by decide) c1 ?_
    refine x_iload_n 1 dX8_told_14 rfl rfl ?_
    refine x_bipush (v := 8) dX8_told_15 rfl ?_
    rcases x_if h with ⟨c2, h⟩ | ⟨c2, h⟩
    · refine x_icmp_ge_t (tgt := 30) dX8_told_17 (by decide) c2 ?_
      refine x_iload_n 1 dX8_told_30 rfl rfl ?_
      refine x_bipush (v := 8) dX8_told_31 rfl ?_
      rcases x_if h with ⟨c3, h⟩ | ⟨c3, h⟩
      · refine x_icmp_ne_f (tgt := 43) dX8_told_33 (by decide) c3 ?_
        refine x_aload_n 0 dX8_told_36 rfl rfl ?_
        obtain ⟨r5, q4, h⟩ := x_bd1 h
        refine x_cv (b := a0) (As := []) (ci := 8) (d' := 3) (zz := yX8_broken) dX8_told_37 ml_X8_275 wi_X8_broken wv_X8_broken wn_X8 wc_X8_broken hp_X8_broken (by decide) (by decide) rfl (Nat.le_of_ble_eq_true rfl) ⟨Nat.zero_le _, Nat.zero_le _⟩ rfl k100 (T_X8_broken (G := G) hw k100 q4) ?_
        refine x_goto (tgt := 47) dX8_told_40 (by decide) ?_
        obtain rfl := x_so h
        exact x_iret dX8_told_47 rfl rfl rfl
      · refine x_icmp_ne_t (tgt := 43) dX8_told_33 (by decide) c3 ?_
        refine x_aload_n 0 dX8_told_43 rfl rfl ?_
        obtain ⟨r7, q6, h⟩ := x_bd1 h
        refine x_cv (b := a0) (As := []) (ci := 8) (d' := 3) (zz := yX8_coins) dX8_told_44 ml_X8_278 wi_X8_coins wv_X8_coins wn_X8 wc_X8_coins hp_X8_coins (by decide) (by decide) rfl (Nat.le_of_ble_eq_true rfl) ⟨Nat.zero_le _, Nat.zero_le _⟩ rfl k100 (T_X8_coins (G := G) hw k100 q6) ?_
        obtain rfl := x_so h
        exact x_iret dX8_told_47 rfl rfl rfl
    · refine x_icmp_ge_f (tgt := 30) dX8_told_17 (by decide) c2 ?_
      refine x_aload_n 0 dX8_told_20 rfl rfl ?_
      refine x_iload_n 1 dX8_told_21 rfl rfl ?_
      refine x_iconst (v := 4) dX8_told_22 rfl ?_
      refine x_isub dX8_told_23 ?_
      obtain ⟨r9, q8, h⟩ := x_bd1 h
      refine x_cv (b := a0) (As := [.int (a1 - 4)]) (ci := 8) (d' := 3) (zz := yX8_countOf) dX8_told_24 ml_X8_272 wi_X8_countOf wv_X8_countOf wn_X8 wc_X8_countOf hp_X8_countOf (by decide) (by decide) rfl (Nat.le_of_ble_eq_true rfl) ⟨Nat.zero_le _, Nat.zero_le _⟩ rfl k100 (T_X8_countOf (G := G) hw k100 q8) ?_
      refine x_goto (tgt := 47) dX8_told_27 (by decide) ?_
      obtain rfl := x_so h
      exact x_iret dX8_told_47 rfl rfl rfl
  · refine x_icmp_ge_f (tgt := 14) dX8_told_2 (by decide) c1 ?_
    refine x_aload_n 0 dX8_told_5 rfl rfl ?_
    obtain ⟨g10, k11, n12⟩ := wt_X8_8 hw k100
    refine x_getr dX8_told_6 (ci := 8) (f := 8) (M := 19) (C9 := RX8) (T9 := TX8) rfl xin8 (by decide) fl_X8_17 rfl k100 g10 ?_
    refine x_iload_n 1 dX8_told_9 rfl rfl ?_
    obtain ⟨c13, h⟩ := x_ck h
    refine x_iald dX8_told_10 k11 (xb_at n12 c13) rfl ?_
    refine x_goto (tgt := 47) dX8_told_11 (by decide) ?_
    obtain rfl := x_so h
    exact x_iret dX8_told_47 rfl rfl rfl
set_option maxHeartbeats 4000000 in
set_option maxRecDepth 100000 in
theorem T_X8_state {G : XG} {Y : XY} (hw : WT Y) {a0 : Nat} {a1 : Int32} {N : XN} (k100 : kc Y a0 = 18) {r9 : Int32} {N9 : XN} (h : f_X8_state Y a0 a1 N = some (r9, N9)) : Cl G yX8_state cX8_state 2 (some .int) (xR 5 0 0) [.ref a0, .int a1] (.inl (some (.int r9))) Y N Y N9 := by
  refine x_entry (by decide) (Nat.le_of_ble_eq_true rfl) rfl ?_
  rw [f_X8_state] at h
  refine x_aload_n 0 dX8_state_0 rfl rfl ?_
  refine x_iconst (v := 0) dX8_state_1 rfl ?_
  refine x_puti dX8_state_2 (ci := 8) (f := 0) (M := 19) (C9 := RX8) (T9 := TX8) rfl xin8 tyX8_ok nmX8 (by decide) fl_X8_45 rfl rfl rfl rfl k100 ?_
  obtain ⟨N1, eN1, h⟩ := x_lt h
  refine x_nmN eN1 ?_
  refine x_aload_n 0 dX8_state_5 rfl rfl ?_
  refine x_iload_n 1 dX8_state_6 rfl rfl ?_
  refine x_iconst (v := 0) dX8_state_7 rfl ?_
  refine x_bipush (v := 9) dX8_state_8 rfl ?_
  refine x_cs (As := [.int a1, .int 0, .int 9]) (d' := 1) (zz := yX8_in) dX8_state_10 ml_X8_67 wt_X8_in wn_X8 wc_X8_in hp_X8_in (by decide) (by decide) rfl (Nat.le_of_ble_eq_true rfl) ⟨Nat.zero_le _, Nat.zero_le _⟩ (T_X8_in (G := G) hw  rfl) ?_
  rcases x_if h with ⟨c2, h⟩ | ⟨c2, h⟩
  · refine x_if_ne_f (tgt := 20) dX8_state_13 (by decide) c2 ?_
    refine x_iconst (v := 1) dX8_state_16 rfl ?_
    refine x_goto (tgt := 21) dX8_state_17 (by decide) ?_
    refine x_iconst (v := 1) dX8_state_21 rfl ?_
    obtain ⟨r4, N5, q3, h⟩ := x_bd2 h
    refine x_cv (b := a0) (As := [.int 1, .int 1]) (ci := 8) (d' := 1) (zz := yX8_fails) dX8_state_22 ml_X8_181 wi_X8_fails wv_X8_fails wn_X8 wc_X8_fails hp_X8_fails (by decide) (by decide) rfl (Nat.le_of_ble_eq_true rfl) ⟨Nat.zero_le _, Nat.zero_le _⟩ rfl k100 (T_X8_fails (G := G) hw k100 q3) ?_
    rcases x_if h with ⟨c6, h⟩ | ⟨c6, h⟩
    · refine x_if_eq_t (tgt := 32) dX8_state_25 (by decide) c6 ?_
      refine x_aload_n 0 dX8_state_32 rfl rfl ?_
      refine x_iload_n 1 dX8_state_33 rfl rfl ?_
      obtain ⟨r8, q7, h⟩ := x_bd1 h
      refine x_cv (b := a0) (As := [.int a1]) (ci := 8) (d' := 4) (zz := yX8_told) dX8_state_34 ml_X8_281 wi_X8_told wv_X8_told wn_X8 wc_X8_told hp_X8_told (by decide) (by decide) rfl (Nat.le_of_ble_eq_true rfl) ⟨Nat.zero_le _, Nat.zero_le _⟩ rfl k100 (T_X8_told (G := G) hw k100 q7) ?_
      obtain ⟨rfl, rfl⟩ := Prod.mk.inj (x_so h)
      exact x_iret dX8_state_37 rfl rfl rfl
    · refine x_if_eq_f (tgt := 32) dX8_state_25 (by decide) c6 ?_
      refine x_iconst (v := 0) dX8_state_28 rfl ?_
      refine x_goto (tgt := 37) dX8_state_29 (by decide) ?_
      obtain ⟨rfl, rfl⟩ := Prod.mk.inj (x_so h)
      exact x_iret dX8_state_37 rfl rfl rfl
  · refine x_if_ne_t (tgt := 20) dX8_state_13 (by decide) c2 ?_
    refine x_iconst (v := 0) dX8_state_20 rfl ?_
    refine x_iconst (v := 1) dX8_state_21 rfl ?_
    obtain ⟨r10, N11, q9, h⟩ := x_bd2 h
    refine x_cv (b := a0) (As := [.int 0, .int 1]) (ci := 8) (d' := 1) (zz := yX8_fails) dX8_state_22 ml_X8_181 wi_X8_fails wv_X8_fails wn_X8 wc_X8_fails hp_X8_fails (by decide) (by decide) rfl (Nat.le_of_ble_eq_true rfl) ⟨Nat.zero_le _, Nat.zero_le _⟩ rfl k100 (T_X8_fails (G := G) hw k100 q9) ?_
    rcases x_if h with ⟨c12, h⟩ | ⟨c12, h⟩
    · refine x_if_eq_t (tgt := 32) dX8_state_25 (by decide) c12 ?_
      refine x_aload_n 0 dX8_state_32 rfl rfl ?_
      refine x_iload_n 1 dX8_state_33 rfl rfl ?_
      obtain ⟨r14, q13, h⟩ := x_bd1 h
      refine x_cv (b := a0) (As := [.int a1]) (ci := 8) (d' := 4) (zz := yX8_told) dX8_state_34 ml_X8_281 wi_X8_told wv_X8_told wn_X8 wc_X8_told hp_X8_told (by decide) (by decide) rfl (Nat.le_of_ble_eq_true rfl) ⟨Nat.zero_le _, Nat.zero_le _⟩ rfl k100 (T_X8_told (G := G) hw k100 q13) ?_
      obtain ⟨rfl, rfl⟩ := Prod.mk.inj (x_so h)
      exact x_iret dX8_state_37 rfl rfl rfl
    · refine x_if_eq_f (tgt := 32) dX8_state_25 (by decide) c12 ?_
      refine x_iconst (v := 0) dX8_state_28 rfl ?_
      refine x_goto (tgt := 37) dX8_state_29 (by decide) ?_
      obtain ⟨rfl, rfl⟩ := Prod.mk.inj (x_so h)
      exact x_iret dX8_state_37 rfl rfl rfl
set_option maxHeartbeats 4000000 in
set_option maxRecDepth 100000 in
theorem T_X8_linesOf_4 {G : XG} {Y : XY} (hw : WT Y) {r9 : Int32}: ∀ (D9 : Nat) (p_0 : Nat) (v_1 : Int32) (v_2 : Int32) (v_3 : Int32) (N : XN), kc Y p_0 = 18 → f_X8_linesOf_4 Y D9 p_0 v_1 v_2 v_3 N = some r9 → Ex G yX8_linesOf cX8_linesOf 4 (some .int) (xR 3 0 0) (.inl (some (.int r9))) Y N 0 0 4 [(0, .ref p_0), (1, .int v_1), (2, .int v_2), (3, .int v_3)] [] Y N := by
  intro D9
  induction D9 with
  | zero => intro p_0 v_1 v_2 v_3 N kk0 h; exact nomatch (show none = some r9 from h)
  | succ D9 ih =>
    intro p_0 v_1 v_2 v_3 N kk0 h
    rw [f_X8_linesOf_4] at h
    refine x_iload_n 3 dX8_linesOf_4 rfl rfl ?_
    refine x_aload_n 0 dX8_linesOf_5 rfl rfl ?_
    obtain ⟨g1, k2, n3⟩ := wt_X8_8 hw kk0
    refine x_getr dX8_linesOf_6 (ci := 8) (f := 8) (M := 19) (C9 := RX8) (T9 := TX8) rfl xin8 (by decide) fl_X8_17 rfl kk0 g1 ?_
    refine x_iconst (v := 2) dX8_linesOf_9 rfl ?_
    refine x_iald dX8_linesOf_10 k2 (xb_at n3 (by decide)) rfl ?_
    rcases x_if h with ⟨c4, h⟩ | ⟨c4, h⟩
    · refine x_icmp_ge_t (tgt := 37) dX8_linesOf_11 (by decide) c4 ?_
      refine x_iload_n 2 dX8_linesOf_37 rfl rfl ?_
      obtain rfl := x_so h
      exact x_iret dX8_linesOf_38 rfl rfl rfl
    · refine x_icmp_ge_f (tgt := 37) dX8_linesOf_11 (by decide) c4 ?_
      refine x_iload_n 2 dX8_linesOf_14 rfl rfl ?_
      refine x_aload_n 0 dX8_linesOf_15 rfl rfl ?_
      refine x_iload_n 1 dX8_linesOf_16 rfl rfl ?_
      refine x_iload_n 3 dX8_linesOf_17 rfl rfl ?_
      obtain ⟨r6, q5, h⟩ := x_bd1 h
      refine x_cv (b := p_0) (As := [.int v_1, .int v_3]) (ci := 8) (d' := 2) (zz := yX8_isTenant) dX8_linesOf_18 ml_X8_258 wi_X8_isTenant wv_X8_isTenant wn_X8 wc_X8_isTenant hp_X8_isTenant (by decide) (by decide) rfl (Nat.le_of_ble_eq_true rfl) ⟨Nat.zero_le _, Nat.zero_le _⟩ rfl kk0 (T_X8_isTenant (G := G) hw kk0 q5) ?_
      rcases x_if h with ⟨c7, h⟩ | ⟨c7, h⟩
      · refine x_if_eq_t (tgt := 28) dX8_linesOf_21 (by decide) c7 ?_
        refine x_iconst (v := 0) dX8_linesOf_28 rfl ?_
        refine x_iadd dX8_linesOf_29 ?_
        refine x_istore_n [1, 2, 0, 3] dX8_linesOf_30 rfl (by decide) rfl ?_
        refine x_iinc 3 [1, 2, 3, 0] dX8_linesOf_31 rfl rfl (by decide) rfl ?_
        refine x_goto (tgt := 4) dX8_linesOf_34 (by decide) ?_
        exact ih p_0 v_1 (v_2 + 0) (v_3 + 1) N kk0 h
      · refine x_if_eq_f (tgt := 28) dX8_linesOf_21 (by decide) c7 ?_
        refine x_iconst (v := 1) dX8_linesOf_24 rfl ?_
        refine x_goto (tgt := 29) dX8_linesOf_25 (by decide) ?_
        refine x_iadd dX8_linesOf_29 ?_
        refine x_istore_n [1, 2, 0, 3] dX8_linesOf_30 rfl (by decide) rfl ?_
        refine x_iinc 3 [1, 2, 3, 0] dX8_linesOf_31 rfl rfl (by decide) rfl ?_
        refine x_goto (tgt := 4) dX8_linesOf_34 (by decide) ?_
        exact ih p_0 v_1 (v_2 + 1) (v_3 + 1) N kk0 h
set_option maxHeartbeats 4000000 in
set_option maxRecDepth 100000 in
theorem T_X8_linesOf {G : XG} {Y : XY} (hw : WT Y) {a0 : Nat} {a1 : Int32} {N : XN} (k100 : kc Y a0 = 18) {r9 : Int32} (h : f_X8_linesOf Y a0 a1 N = some r9) : Cl G yX8_linesOf cX8_linesOf 4 (some .int) (xR 3 0 0) [.ref a0, .int a1] (.inl (some (.int r9))) Y N Y N := by
  refine x_entry (by decide) (Nat.le_of_ble_eq_true rfl) rfl ?_
  rw [f_X8_linesOf] at h
  refine x_iconst (v := 0) dX8_linesOf_0 rfl ?_
  refine x_istore_n [1, 2, 0] dX8_linesOf_1 rfl (by decide) rfl ?_
  refine x_iconst (v := 0) dX8_linesOf_2 rfl ?_
  refine x_istore_n [1, 2, 3, 0] dX8_linesOf_3 rfl (by decide) rfl ?_
  exact T_X8_linesOf_4 (G := G) hw FU a0 a1 0 0 N k100 h
set_option maxHeartbeats 4000000 in
set_option maxRecDepth 100000 in
theorem T_X8_toldHandler {G : XG} {Y : XY} (hw : WT Y) {a0 : Nat} {a1 : Int32} {a2 : Int32} {N : XN} (k100 : kc Y a0 = 18) {r9 : Int32} (h : f_X8_toldHandler Y a0 a1 a2 N = some r9) : Cl G yX8_toldHandler cX8_toldHandler 3 (some .int) (xR 6 0 0) [.ref a0, .int a1, .int a2] (.inl (some (.int r9))) Y N Y N := by
  refine x_entry (by decide) (Nat.le_of_ble_eq_true rfl) rfl ?_
  rw [f_X8_toldHandler] at h
  refine x_iload_n 2 dX8_toldHandler_0 rfl rfl ?_
  refine x_iconst (v := 3) dX8_toldHandler_1 rfl ?_
  rcases x_if h with ⟨c1, h⟩ | ⟨c1, h⟩
  · refine x_icmp_ge_t (tgt := 14) dX8_toldHandler_2 (by decide) c1 ?_
    refine x_iload_n 2 dX8_toldHandler_14 rfl rfl ?_
    refine x_iconst (v := 3) dX8_toldHandler_15 rfl ?_
    rcases x_if h with ⟨c2, h⟩ | ⟨c2, h⟩
    · refine x_icmp_ne_f (tgt := 27) dX8_toldHandler_16 (by decide) c2 ?_
      refine x_aload_n 0 dX8_toldHandler_19 rfl rfl ?_
      refine x_iload_n 1 dX8_toldHandler_20 rfl rfl ?_
      obtain ⟨r4, q3, h⟩ := x_bd1 h
      refine x_cv (b := a0) (As := [.int a1]) (ci := 8) (d' := 5) (zz := yX8_heldBy) dX8_toldHandler_21 ml_X8_216 wi_X8_heldBy wv_X8_heldBy wn_X8 wc_X8_heldBy hp_X8_heldBy (by decide) (by decide) rfl (Nat.le_of_ble_eq_true rfl) ⟨Nat.zero_le _, Nat.zero_le _⟩ rfl k100 (T_X8_heldBy (G := G) hw k100 q3) ?_
      refine x_goto (tgt := 48) dX8_toldHandler_24 (by decide) ?_
      obtain rfl := x_so h
      exact x_iret dX8_toldHandler_48 rfl rfl rfl
    · refine x_icmp_ne_t (tgt := 27) dX8_toldHandler_16 (by decide) c2 ?_
      refine x_iload_n 2 dX8_toldHandler_27 rfl rfl ?_
      refine x_iconst (v := 4) dX8_toldHandler_28 rfl ?_
      rcases x_if h with ⟨c5, h⟩ | ⟨c5, h⟩
      · refine x_icmp_ne_f (tgt := 40) dX8_toldHandler_29 (by decide) c5 ?_
        refine x_aload_n 0 dX8_toldHandler_32 rfl rfl ?_
        refine x_iload_n 1 dX8_toldHandler_33 rfl rfl ?_
        obtain ⟨r7, q6, h⟩ := x_bd1 h
        refine x_cv (b := a0) (As := [.int a1]) (ci := 8) (d' := 3) (zz := yX8_linesOf) dX8_toldHandler_34 ml_X8_284 wi_X8_linesOf wv_X8_linesOf wn_X8 wc_X8_linesOf hp_X8_linesOf (by decide) (by decide) rfl (Nat.le_of_ble_eq_true rfl) ⟨Nat.zero_le _, Nat.zero_le _⟩ rfl k100 (T_X8_linesOf (G := G) hw k100 q6) ?_
        refine x_goto (tgt := 48) dX8_toldHandler_37 (by decide) ?_
        obtain rfl := x_so h
        exact x_iret dX8_toldHandler_48 rfl rfl rfl
      · refine x_icmp_ne_t (tgt := 40) dX8_toldHandler_29 (by decide) c5 ?_
        refine x_aload_n 0 dX8_toldHandler_40 rfl rfl ?_
        refine x_iload_n 1 dX8_toldHandler_41 rfl rfl ?_
        refine x_iload_n 2 dX8_toldHandler_42 rfl rfl ?_
        refine x_iconst (v := 2) dX8_toldHandler_43 rfl ?_
        refine x_isub dX8_toldHandler_44 ?_
        obtain ⟨r9, q8, h⟩ := x_bd1 h
        refine x_cv (b := a0) (As := [.int a1, .int (a2 - 2)]) (ci := 8) (d' := 2) (zz := yX8_ofHandler) dX8_toldHandler_45 ml_X8_245 wi_X8_ofHandler wv_X8_ofHandler wn_X8 wc_X8_ofHandler hp_X8_ofHandler (by decide) (by decide) rfl (Nat.le_of_ble_eq_true rfl) ⟨Nat.zero_le _, Nat.zero_le _⟩ rfl k100 (T_X8_ofHandler (G := G) hw k100 q8) ?_
        obtain rfl := x_so h
        exact x_iret dX8_toldHandler_48 rfl rfl rfl
  · refine x_icmp_ge_f (tgt := 14) dX8_toldHandler_2 (by decide) c1 ?_
    refine x_aload_n 0 dX8_toldHandler_5 rfl rfl ?_
    refine x_iload_n 1 dX8_toldHandler_6 rfl rfl ?_
    refine x_iload_n 2 dX8_toldHandler_7 rfl rfl ?_
    obtain ⟨r11, q10, h⟩ := x_bd1 h
    refine x_cv (b := a0) (As := [.int a1, .int a2]) (ci := 8) (d' := 2) (zz := yX8_ofHandler) dX8_toldHandler_8 ml_X8_245 wi_X8_ofHandler wv_X8_ofHandler wn_X8 wc_X8_ofHandler hp_X8_ofHandler (by decide) (by decide) rfl (Nat.le_of_ble_eq_true rfl) ⟨Nat.zero_le _, Nat.zero_le _⟩ rfl k100 (T_X8_ofHandler (G := G) hw k100 q10) ?_
    refine x_goto (tgt := 48) dX8_toldHandler_11 (by decide) ?_
    obtain rfl := x_so h
    exact x_iret dX8_toldHandler_48 rfl rfl rfl
set_option maxHeartbeats 4000000 in
set_option maxRecDepth 100000 in
theorem T_X8_handler {G : XG} {Y : XY} (hw : WT Y) {a0 : Nat} {a1 : Int32} {a2 : Int32} {N : XN} (k100 : kc Y a0 = 18) {r9 : Int32} {N9 : XN} (h : f_X8_handler Y a0 a1 a2 N = some (r9, N9)) : Cl G yX8_handler cX8_handler 3 (some .int) (xR 7 0 0) [.ref a0, .int a1, .int a2] (.inl (some (.int r9))) Y N Y N9 := by
  refine x_entry (by decide) (Nat.le_of_ble_eq_true rfl) rfl ?_
  rw [f_X8_handler] at h
  refine x_aload_n 0 dX8_handler_0 rfl rfl ?_
  refine x_iconst (v := 0) dX8_handler_1 rfl ?_
  refine x_puti dX8_handler_2 (ci := 8) (f := 0) (M := 19) (C9 := RX8) (T9 := TX8) rfl xin8 tyX8_ok nmX8 (by decide) fl_X8_45 rfl rfl rfl rfl k100 ?_
  obtain ⟨N1, eN1, h⟩ := x_lt h
  refine x_nmN eN1 ?_
  refine x_aload_n 0 dX8_handler_5 rfl rfl ?_
  refine x_iload_n 1 dX8_handler_6 rfl rfl ?_
  obtain ⟨r3, N4, q2, h⟩ := x_bd2 h
  refine x_cv (b := a0) (As := [.int a1]) (ci := 8) (d' := 2) (zz := yX8_noHandler) dX8_handler_7 ml_X8_287 wi_X8_noHandler wv_X8_noHandler wn_X8 wc_X8_noHandler hp_X8_noHandler (by decide) (by decide) rfl (Nat.le_of_ble_eq_true rfl) ⟨Nat.zero_le _, Nat.zero_le _⟩ rfl k100 (T_X8_noHandler (G := G) hw k100 q2) ?_
  rcases x_if h with ⟨c5, h⟩ | ⟨c5, h⟩
  · refine x_if_ne_f (tgt := 24) dX8_handler_10 (by decide) c5 ?_
    refine x_aload_n 0 dX8_handler_13 rfl rfl ?_
    refine x_iload_n 2 dX8_handler_14 rfl rfl ?_
    refine x_iconst (v := 0) dX8_handler_15 rfl ?_
    refine x_bipush (v := 7) dX8_handler_16 rfl ?_
    obtain ⟨r7, N8, q6, h⟩ := x_bd2 h
    refine x_cv (b := a0) (As := [.int a2, .int 0, .int 7]) (ci := 8) (d' := 2) (zz := yX8_noNumber) dX8_handler_18 ml_X8_290 wi_X8_noNumber wv_X8_noNumber wn_X8 wc_X8_noNumber hp_X8_noNumber (by decide) (by decide) rfl (Nat.le_of_ble_eq_true rfl) ⟨Nat.zero_le _, Nat.zero_le _⟩ rfl k100 (T_X8_noNumber (G := G) hw k100 q6) ?_
    rcases x_if h with ⟨c9, h⟩ | ⟨c9, h⟩
    · refine x_if_eq_t (tgt := 28) dX8_handler_21 (by decide) c9 ?_
      refine x_aload_n 0 dX8_handler_28 rfl rfl ?_
      refine x_iload_n 1 dX8_handler_29 rfl rfl ?_
      refine x_iload_n 2 dX8_handler_30 rfl rfl ?_
      obtain ⟨r11, q10, h⟩ := x_bd1 h
      refine x_cv (b := a0) (As := [.int a1, .int a2]) (ci := 8) (d' := 6) (zz := yX8_toldHandler) dX8_handler_31 ml_X8_293 wi_X8_toldHandler wv_X8_toldHandler wn_X8 wc_X8_toldHandler hp_X8_toldHandler (by decide) (by decide) rfl (Nat.le_of_ble_eq_true rfl) ⟨Nat.zero_le _, Nat.zero_le _⟩ rfl k100 (T_X8_toldHandler (G := G) hw k100 q10) ?_
      obtain ⟨rfl, rfl⟩ := Prod.mk.inj (x_so h)
      exact x_iret dX8_handler_34 rfl rfl rfl
    · refine x_if_eq_f (tgt := 28) dX8_handler_21 (by decide) c9 ?_
      refine x_iconst (v := 0) dX8_handler_24 rfl ?_
      refine x_goto (tgt := 34) dX8_handler_25 (by decide) ?_
      obtain ⟨rfl, rfl⟩ := Prod.mk.inj (x_so h)
      exact x_iret dX8_handler_34 rfl rfl rfl
  · refine x_if_ne_t (tgt := 24) dX8_handler_10 (by decide) c5 ?_
    refine x_iconst (v := 0) dX8_handler_24 rfl ?_
    refine x_goto (tgt := 34) dX8_handler_25 (by decide) ?_
    obtain ⟨rfl, rfl⟩ := Prod.mk.inj (x_so h)
    exact x_iret dX8_handler_34 rfl rfl rfl
set_option maxHeartbeats 4000000 in
set_option maxRecDepth 100000 in
theorem T_X8_toldLine_17 {G : XG} {Y : XY} (hw : WT Y) {r9 : Int32}: ∀ (D9 : Nat) (p_0 : Nat) (v_1 : Int32) (v_3 : Int32) (v_4 : Int32) (N : XN), kc Y p_0 = 18 → f_X8_toldLine_17 Y D9 p_0 v_1 v_3 v_4 N = some r9 → Ex G yX8_toldLine cX8_toldLine 5 (some .int) (xR 4 0 0) (.inl (some (.int r9))) Y N 0 0 17 [(0, .ref p_0), (1, .int v_1), (3, .int v_3), (4, .int v_4)] [] Y N := by
  intro D9
  induction D9 with
  | zero => intro p_0 v_1 v_3 v_4 N kk0 h; exact nomatch (show none = some r9 from h)
  | succ D9 ih =>
    intro p_0 v_1 v_3 v_4 N kk0 h
    rw [f_X8_toldLine_17] at h
    refine x_iload 3 dX8_toldLine_17 rfl ?_
    refine x_aload_n 0 dX8_toldLine_19 rfl rfl ?_
    obtain ⟨g1, k2, n3⟩ := wt_X8_8 hw kk0
    refine x_getr dX8_toldLine_20 (ci := 8) (f := 8) (M := 19) (C9 := RX8) (T9 := TX8) rfl xin8 (by decide) fl_X8_17 rfl kk0 g1 ?_
    refine x_iconst (v := 3) dX8_toldLine_23 rfl ?_
    refine x_iald dX8_toldLine_24 k2 (xb_at n3 (by decide)) rfl ?_
    rcases x_if h with ⟨c4, h⟩ | ⟨c4, h⟩
    · refine x_icmp_ge_t (tgt := 73) dX8_toldLine_25 (by decide) c4 ?_
      refine x_iload_n 2 dX8_toldLine_73 rfl rfl ?_
      obtain rfl := x_so h
      exact x_iret dX8_toldLine_74 rfl rfl rfl
    · refine x_icmp_ge_f (tgt := 73) dX8_toldLine_25 (by decide) c4 ?_
      refine x_iload_n 2 dX8_toldLine_28 rfl rfl ?_
      refine x_aload_n 0 dX8_toldLine_29 rfl rfl ?_
      refine x_iload 3 dX8_toldLine_30 rfl ?_
      obtain ⟨r6, q5, h⟩ := x_bd1 h
      refine x_cv (b := p_0) (As := [.int v_4]) (ci := 8) (d' := 3) (zz := yX8_isOpen) dX8_toldLine_32 ml_X8_209 wi_X8_isOpen wv_X8_isOpen wn_X8 wc_X8_isOpen hp_X8_isOpen (by decide) (by decide) rfl (Nat.le_of_ble_eq_true rfl) ⟨Nat.zero_le _, Nat.zero_le _⟩ rfl kk0 (T_X8_isOpen (G := G) hw kk0 q5) ?_
      rcases x_if h with ⟨c7, h⟩ | ⟨c7, h⟩
      · refine x_if_eq_t (tgt := 64) dX8_toldLine_35 (by decide) c7 ?_
        refine x_iconst (v := 0) dX8_toldLine_64 rfl ?_
        refine x_iadd dX8_toldLine_65 ?_
        refine x_istore_n [1, 2, 0, 3] dX8_toldLine_66 rfl (by decide) rfl ?_
        refine x_iinc 3 [1, 2, 3, 0] dX8_toldLine_67 rfl rfl (by decide) rfl ?_
        refine x_goto (tgt := 17) dX8_toldLine_70 (by decide) ?_
        exact ih p_0 v_1 (v_3 + 0) (v_4 + 1) N kk0 h
      · refine x_if_eq_f (tgt := 64) dX8_toldLine_35 (by decide) c7 ?_
        refine x_aload_n 0 dX8_toldLine_38 rfl rfl ?_
        refine x_iload 3 dX8_toldLine_39 rfl ?_
        refine x_iconst (v := 0) dX8_toldLine_41 rfl ?_
        obtain ⟨r9, q8, h⟩ := x_bd1 h
        refine x_cv (b := p_0) (As := [.int v_4, .int 0]) (ci := 8) (d' := 2) (zz := yX8_ofRequest) dX8_toldLine_42 ml_X8_206 wi_X8_ofRequest wv_X8_ofRequest wn_X8 wc_X8_ofRequest hp_X8_ofRequest (by decide) (by decide) rfl (Nat.le_of_ble_eq_true rfl) ⟨Nat.zero_le _, Nat.zero_le _⟩ rfl kk0 (T_X8_ofRequest (G := G) hw kk0 q8) ?_
        refine x_iload_n 1 dX8_toldLine_45 rfl rfl ?_
        rcases x_if h with ⟨c10, h⟩ | ⟨c10, h⟩
        · refine x_icmp_ne_f (tgt := 64) dX8_toldLine_46 (by decide) c10 ?_
          refine x_aload_n 0 dX8_toldLine_49 rfl rfl ?_
          refine x_iload 3 dX8_toldLine_50 rfl ?_
          refine x_iconst (v := 4) dX8_toldLine_52 rfl ?_
          obtain ⟨r12, q11, h⟩ := x_bd1 h
          refine x_cv (b := p_0) (As := [.int v_4, .int 4]) (ci := 8) (d' := 2) (zz := yX8_ofRequest) dX8_toldLine_53 ml_X8_206 wi_X8_ofRequest wv_X8_ofRequest wn_X8 wc_X8_ofRequest hp_X8_ofRequest (by decide) (by decide) rfl (Nat.le_of_ble_eq_true rfl) ⟨Nat.zero_le _, Nat.zero_le _⟩ rfl kk0 (T_X8_ofRequest (G := G) hw kk0 q11) ?_
          refine x_iconst (v := (-1)) dX8_toldLine_56 rfl ?_
          rcases x_if h with ⟨c13, h⟩ | ⟨c13, h⟩
          · refine x_icmp_ne_f (tgt := 64) dX8_toldLine_57 (by decide) c13 ?_
            refine x_iconst (v := 1) dX8_toldLine_60 rfl ?_
            refine x_goto (tgt := 65) dX8_toldLine_61 (by decide) ?_
            refine x_iadd dX8_toldLine_65 ?_
            refine x_istore_n [1, 2, 0, 3] dX8_toldLine_66 rfl (by decide) rfl ?_
            refine x_iinc 3 [1, 2, 3, 0] dX8_toldLine_67 rfl rfl (by decide) rfl ?_
            refine x_goto (tgt := 17) dX8_toldLine_70 (by decide) ?_
            exact ih p_0 v_1 (v_3 + 1) (v_4 + 1) N kk0 h
          · refine x_icmp_ne_t (tgt := 64) dX8_toldLine_57 (by decide) c13 ?_
            refine x_iconst (v := 0) dX8_toldLine_64 rfl ?_
            refine x_iadd dX8_toldLine_65 ?_
            refine x_istore_n [1, 2, 0, 3] dX8_toldLine_66 rfl (by decide) rfl ?_
            refine x_iinc 3 [1, 2, 3, 0] dX8_toldLine_67 rfl rfl (by decide) rfl ?_
            refine x_goto (tgt := 17) dX8_toldLine_70 (by decide) ?_
            exact ih p_0 v_1 (v_3 + 0) (v_4 + 1) N kk0 h
        · refine x_icmp_ne_t (tgt := 64) dX8_toldLine_46 (by decide) c10 ?_
          refine x_iconst (v := 0) dX8_toldLine_64 rfl ?_
          refine x_iadd dX8_toldLine_65 ?_
          refine x_istore_n [1, 2, 0, 3] dX8_toldLine_66 rfl (by decide) rfl ?_
          refine x_iinc 3 [1, 2, 3, 0] dX8_toldLine_67 rfl rfl (by decide) rfl ?_
          refine x_goto (tgt := 17) dX8_toldLine_70 (by decide) ?_
          exact ih p_0 v_1 (v_3 + 0) (v_4 + 1) N kk0 h
set_option maxHeartbeats 4000000 in
set_option maxRecDepth 100000 in
theorem T_X8_toldLine {G : XG} {Y : XY} (hw : WT Y) {a0 : Nat} {a1 : Int32} {a2 : Int32} {N : XN} (k100 : kc Y a0 = 18) {r9 : Int32} (h : f_X8_toldLine Y a0 a1 a2 N = some r9) : Cl G yX8_toldLine cX8_toldLine 5 (some .int) (xR 4 0 0) [.ref a0, .int a1, .int a2] (.inl (some (.int r9))) Y N Y N := by
  refine x_entry (by decide) (Nat.le_of_ble_eq_true rfl) rfl ?_
  rw [f_X8_toldLine] at h
  refine x_iload_n 2 dX8_toldLine_0 rfl rfl ?_
  refine x_iconst (v := 4) dX8_toldLine_1 rfl ?_
  rcases x_if h with ⟨c1, h⟩ | ⟨c1, h⟩
  · refine x_icmp_ge_t (tgt := 12) dX8_toldLine_2 (by decide) c1 ?_
    refine x_iconst (v := 0) dX8_toldLine_12 rfl ?_
    refine x_istore_n [1, 2, 0] dX8_toldLine_13 rfl (by decide) rfl ?_
    refine x_iconst (v := 0) dX8_toldLine_14 rfl ?_
    refine x_istore [1, 2, 3, 0] dX8_toldLine_15 (by decide) rfl ?_
    exact T_X8_toldLine_17 (G := G) hw FU a0 a1 0 0 N k100 h
  · refine x_icmp_ge_f (tgt := 12) dX8_toldLine_2 (by decide) c1 ?_
    refine x_aload_n 0 dX8_toldLine_5 rfl rfl ?_
    refine x_iload_n 1 dX8_toldLine_6 rfl rfl ?_
    refine x_iload_n 2 dX8_toldLine_7 rfl rfl ?_
    obtain ⟨r3, q2, h⟩ := x_bd1 h
    refine x_cv (b := a0) (As := [.int a1, .int a2]) (ci := 8) (d' := 2) (zz := yX8_ofLine) dX8_toldLine_8 ml_X8_222 wi_X8_ofLine wv_X8_ofLine wn_X8 wc_X8_ofLine hp_X8_ofLine (by decide) (by decide) rfl (Nat.le_of_ble_eq_true rfl) ⟨Nat.zero_le _, Nat.zero_le _⟩ rfl k100 (T_X8_ofLine (G := G) hw k100 q2) ?_
    obtain rfl := x_so h
    exact x_iret dX8_toldLine_11 rfl rfl rfl
set_option maxHeartbeats 4000000 in
set_option maxRecDepth 100000 in
theorem T_X8_line {G : XG} {Y : XY} (hw : WT Y) {a0 : Nat} {a1 : Int32} {a2 : Int32} {N : XN} (k100 : kc Y a0 = 18) {r9 : Int32} {N9 : XN} (h : f_X8_line Y a0 a1 a2 N = some (r9, N9)) : Cl G yX8_line cX8_line 3 (some .int) (xR 5 0 0) [.ref a0, .int a1, .int a2] (.inl (some (.int r9))) Y N Y N9 := by
  refine x_entry (by decide) (Nat.le_of_ble_eq_true rfl) rfl ?_
  rw [f_X8_line] at h
  refine x_aload_n 0 dX8_line_0 rfl rfl ?_
  refine x_iconst (v := 0) dX8_line_1 rfl ?_
  refine x_puti dX8_line_2 (ci := 8) (f := 0) (M := 19) (C9 := RX8) (T9 := TX8) rfl xin8 tyX8_ok nmX8 (by decide) fl_X8_45 rfl rfl rfl rfl k100 ?_
  obtain ⟨N1, eN1, h⟩ := x_lt h
  refine x_nmN eN1 ?_
  refine x_aload_n 0 dX8_line_5 rfl rfl ?_
  refine x_iload_n 1 dX8_line_6 rfl rfl ?_
  obtain ⟨r3, N4, q2, h⟩ := x_bd2 h
  refine x_cv (b := a0) (As := [.int a1]) (ci := 8) (d' := 2) (zz := yX8_noLine) dX8_line_7 ml_X8_296 wi_X8_noLine wv_X8_noLine wn_X8 wc_X8_noLine hp_X8_noLine (by decide) (by decide) rfl (Nat.le_of_ble_eq_true rfl) ⟨Nat.zero_le _, Nat.zero_le _⟩ rfl k100 (T_X8_noLine (G := G) hw k100 q2) ?_
  rcases x_if h with ⟨c5, h⟩ | ⟨c5, h⟩
  · refine x_if_ne_f (tgt := 23) dX8_line_10 (by decide) c5 ?_
    refine x_aload_n 0 dX8_line_13 rfl rfl ?_
    refine x_iload_n 2 dX8_line_14 rfl rfl ?_
    refine x_iconst (v := 0) dX8_line_15 rfl ?_
    refine x_iconst (v := 4) dX8_line_16 rfl ?_
    obtain ⟨r7, N8, q6, h⟩ := x_bd2 h
    refine x_cv (b := a0) (As := [.int a2, .int 0, .int 4]) (ci := 8) (d' := 2) (zz := yX8_noNumber) dX8_line_17 ml_X8_290 wi_X8_noNumber wv_X8_noNumber wn_X8 wc_X8_noNumber hp_X8_noNumber (by decide) (by decide) rfl (Nat.le_of_ble_eq_true rfl) ⟨Nat.zero_le _, Nat.zero_le _⟩ rfl k100 (T_X8_noNumber (G := G) hw k100 q6) ?_
    rcases x_if h with ⟨c9, h⟩ | ⟨c9, h⟩
    · refine x_if_eq_t (tgt := 27) dX8_line_20 (by decide) c9 ?_
      refine x_aload_n 0 dX8_line_27 rfl rfl ?_
      refine x_iload_n 1 dX8_line_28 rfl rfl ?_
      refine x_iload_n 2 dX8_line_29 rfl rfl ?_
      obtain ⟨r11, q10, h⟩ := x_bd1 h
      refine x_cv (b := a0) (As := [.int a1, .int a2]) (ci := 8) (d' := 4) (zz := yX8_toldLine) dX8_line_30 ml_X8_299 wi_X8_toldLine wv_X8_toldLine wn_X8 wc_X8_toldLine hp_X8_toldLine (by decide) (by decide) rfl (Nat.le_of_ble_eq_true rfl) ⟨Nat.zero_le _, Nat.zero_le _⟩ rfl k100 (T_X8_toldLine (G := G) hw k100 q10) ?_
      obtain ⟨rfl, rfl⟩ := Prod.mk.inj (x_so h)
      exact x_iret dX8_line_33 rfl rfl rfl
    · refine x_if_eq_f (tgt := 27) dX8_line_20 (by decide) c9 ?_
      refine x_iconst (v := 0) dX8_line_23 rfl ?_
      refine x_goto (tgt := 33) dX8_line_24 (by decide) ?_
      obtain ⟨rfl, rfl⟩ := Prod.mk.inj (x_so h)
      exact x_iret dX8_line_33 rfl rfl rfl
  · refine x_if_ne_t (tgt := 23) dX8_line_10 (by decide) c5 ?_
    refine x_iconst (v := 0) dX8_line_23 rfl ?_
    refine x_goto (tgt := 33) dX8_line_24 (by decide) ?_
    obtain ⟨rfl, rfl⟩ := Prod.mk.inj (x_so h)
    exact x_iret dX8_line_33 rfl rfl rfl
set_option maxHeartbeats 4000000 in
set_option maxRecDepth 100000 in
theorem T_X8_tenant {G : XG} {Y : XY} (hw : WT Y) {a0 : Nat} {a1 : Int32} {a2 : Int32} {N : XN} (k100 : kc Y a0 = 18) {r9 : Int32} {N9 : XN} (h : f_X8_tenant Y a0 a1 a2 N = some (r9, N9)) : Cl G yX8_tenant cX8_tenant 3 (some .int) (xR 3 0 0) [.ref a0, .int a1, .int a2] (.inl (some (.int r9))) Y N Y N9 := by
  refine x_entry (by decide) (Nat.le_of_ble_eq_true rfl) rfl ?_
  rw [f_X8_tenant] at h
  refine x_aload_n 0 dX8_tenant_0 rfl rfl ?_
  refine x_iconst (v := 0) dX8_tenant_1 rfl ?_
  refine x_puti dX8_tenant_2 (ci := 8) (f := 0) (M := 19) (C9 := RX8) (T9 := TX8) rfl xin8 tyX8_ok nmX8 (by decide) fl_X8_45 rfl rfl rfl rfl k100 ?_
  obtain ⟨N1, eN1, h⟩ := x_lt h
  refine x_nmN eN1 ?_
  refine x_aload_n 0 dX8_tenant_5 rfl rfl ?_
  refine x_iload_n 1 dX8_tenant_6 rfl rfl ?_
  obtain ⟨r3, N4, q2, h⟩ := x_bd2 h
  refine x_cv (b := a0) (As := [.int a1]) (ci := 8) (d' := 2) (zz := yX8_noLine) dX8_tenant_7 ml_X8_296 wi_X8_noLine wv_X8_noLine wn_X8 wc_X8_noLine hp_X8_noLine (by decide) (by decide) rfl (Nat.le_of_ble_eq_true rfl) ⟨Nat.zero_le _, Nat.zero_le _⟩ rfl k100 (T_X8_noLine (G := G) hw k100 q2) ?_
  rcases x_if h with ⟨c5, h⟩ | ⟨c5, h⟩
  · refine x_if_ne_f (tgt := 30) dX8_tenant_10 (by decide) c5 ?_
    refine x_aload_n 0 dX8_tenant_13 rfl rfl ?_
    refine x_iload_n 2 dX8_tenant_14 rfl rfl ?_
    refine x_iconst (v := 0) dX8_tenant_15 rfl ?_
    refine x_aload_n 0 dX8_tenant_16 rfl rfl ?_
    refine x_iload_n 1 dX8_tenant_17 rfl rfl ?_
    refine x_iconst (v := 3) dX8_tenant_18 rfl ?_
    obtain ⟨r7, q6, h⟩ := x_bd1 h
    refine x_cv (b := a0) (As := [.int a1, .int 3]) (ci := 8) (d' := 2) (zz := yX8_ofLine) dX8_tenant_19 ml_X8_222 wi_X8_ofLine wv_X8_ofLine wn_X8 wc_X8_ofLine hp_X8_ofLine (by decide) (by decide) rfl (Nat.le_of_ble_eq_true rfl) ⟨Nat.zero_le _, Nat.zero_le _⟩ rfl k100 (T_X8_ofLine (G := G) hw k100 q6) ?_
    refine x_iconst (v := 1) dX8_tenant_22 rfl ?_
    refine x_isub dX8_tenant_23 ?_
    obtain ⟨r9, N10, q8, h⟩ := x_bd2 h
    refine x_cv (b := a0) (As := [.int a2, .int 0, .int (r7 - 1)]) (ci := 8) (d' := 2) (zz := yX8_noNumber) dX8_tenant_24 ml_X8_290 wi_X8_noNumber wv_X8_noNumber wn_X8 wc_X8_noNumber hp_X8_noNumber (by decide) (by decide) rfl (Nat.le_of_ble_eq_true rfl) ⟨Nat.zero_le _, Nat.zero_le _⟩ rfl k100 (T_X8_noNumber (G := G) hw k100 q8) ?_
    rcases x_if h with ⟨c11, h⟩ | ⟨c11, h⟩
    · refine x_if_eq_t (tgt := 34) dX8_tenant_27 (by decide) c11 ?_
      refine x_aload_n 0 dX8_tenant_34 rfl rfl ?_
      refine x_iload_n 1 dX8_tenant_35 rfl rfl ?_
      refine x_iconst (v := 4) dX8_tenant_36 rfl ?_
      refine x_iload_n 2 dX8_tenant_37 rfl rfl ?_
      refine x_iadd dX8_tenant_38 ?_
      obtain ⟨r13, q12, h⟩ := x_bd1 h
      refine x_cv (b := a0) (As := [.int a1, .int (4 + a2)]) (ci := 8) (d' := 2) (zz := yX8_ofLine) dX8_tenant_39 ml_X8_222 wi_X8_ofLine wv_X8_ofLine wn_X8 wc_X8_ofLine hp_X8_ofLine (by decide) (by decide) rfl (Nat.le_of_ble_eq_true rfl) ⟨Nat.zero_le _, Nat.zero_le _⟩ rfl k100 (T_X8_ofLine (G := G) hw k100 q12) ?_
      obtain ⟨rfl, rfl⟩ := Prod.mk.inj (x_so h)
      exact x_iret dX8_tenant_42 rfl rfl rfl
    · refine x_if_eq_f (tgt := 34) dX8_tenant_27 (by decide) c11 ?_
      refine x_iconst (v := 0) dX8_tenant_30 rfl ?_
      refine x_goto (tgt := 42) dX8_tenant_31 (by decide) ?_
      obtain ⟨rfl, rfl⟩ := Prod.mk.inj (x_so h)
      exact x_iret dX8_tenant_42 rfl rfl rfl
  · refine x_if_ne_t (tgt := 30) dX8_tenant_10 (by decide) c5 ?_
    refine x_iconst (v := 0) dX8_tenant_30 rfl ?_
    refine x_goto (tgt := 42) dX8_tenant_31 (by decide) ?_
    obtain ⟨rfl, rfl⟩ := Prod.mk.inj (x_so h)
    exact x_iret dX8_tenant_42 rfl rfl rfl
set_option maxHeartbeats 4000000 in
set_option maxRecDepth 100000 in
theorem T_X8_request {G : XG} {Y : XY} (hw : WT Y) {a0 : Nat} {a1 : Int32} {a2 : Int32} {N : XN} (k100 : kc Y a0 = 18) {r9 : Int32} {N9 : XN} (h : f_X8_request Y a0 a1 a2 N = some (r9, N9)) : Cl G yX8_request cX8_request 3 (some .int) (xR 3 0 0) [.ref a0, .int a1, .int a2] (.inl (some (.int r9))) Y N Y N9 := by
  refine x_entry (by decide) (Nat.le_of_ble_eq_true rfl) rfl ?_
  rw [f_X8_request] at h
  refine x_aload_n 0 dX8_request_0 rfl rfl ?_
  refine x_iconst (v := 0) dX8_request_1 rfl ?_
  refine x_puti dX8_request_2 (ci := 8) (f := 0) (M := 19) (C9 := RX8) (T9 := TX8) rfl xin8 tyX8_ok nmX8 (by decide) fl_X8_45 rfl rfl rfl rfl k100 ?_
  obtain ⟨N1, eN1, h⟩ := x_lt h
  refine x_nmN eN1 ?_
  refine x_aload_n 0 dX8_request_5 rfl rfl ?_
  refine x_iload_n 1 dX8_request_6 rfl rfl ?_
  obtain ⟨r3, N4, q2, h⟩ := x_bd2 h
  refine x_cv (b := a0) (As := [.int a1]) (ci := 8) (d' := 2) (zz := yX8_noRequest) dX8_request_7 ml_X8_302 wi_X8_noRequest wv_X8_noRequest wn_X8 wc_X8_noRequest hp_X8_noRequest (by decide) (by decide) rfl (Nat.le_of_ble_eq_true rfl) ⟨Nat.zero_le _, Nat.zero_le _⟩ rfl k100 (T_X8_noRequest (G := G) hw k100 q2) ?_
  rcases x_if h with ⟨c5, h⟩ | ⟨c5, h⟩
  · refine x_if_ne_f (tgt := 24) dX8_request_10 (by decide) c5 ?_
    refine x_aload_n 0 dX8_request_13 rfl rfl ?_
    refine x_iload_n 2 dX8_request_14 rfl rfl ?_
    refine x_iconst (v := 0) dX8_request_15 rfl ?_
    refine x_bipush (v := 6) dX8_request_16 rfl ?_
    obtain ⟨r7, N8, q6, h⟩ := x_bd2 h
    refine x_cv (b := a0) (As := [.int a2, .int 0, .int 6]) (ci := 8) (d' := 2) (zz := yX8_noNumber) dX8_request_18 ml_X8_290 wi_X8_noNumber wv_X8_noNumber wn_X8 wc_X8_noNumber hp_X8_noNumber (by decide) (by decide) rfl (Nat.le_of_ble_eq_true rfl) ⟨Nat.zero_le _, Nat.zero_le _⟩ rfl k100 (T_X8_noNumber (G := G) hw k100 q6) ?_
    rcases x_if h with ⟨c9, h⟩ | ⟨c9, h⟩
    · refine x_if_eq_t (tgt := 28) dX8_request_21 (by decide) c9 ?_
      refine x_aload_n 0 dX8_request_28 rfl rfl ?_
      refine x_iload_n 1 dX8_request_29 rfl rfl ?_
      refine x_iload_n 2 dX8_request_30 rfl rfl ?_
      obtain ⟨r11, q10, h⟩ := x_bd1 h
      refine x_cv (b := a0) (As := [.int a1, .int a2]) (ci := 8) (d' := 2) (zz := yX8_ofRequest) dX8_request_31 ml_X8_206 wi_X8_ofRequest wv_X8_ofRequest wn_X8 wc_X8_ofRequest hp_X8_ofRequest (by decide) (by decide) rfl (Nat.le_of_ble_eq_true rfl) ⟨Nat.zero_le _, Nat.zero_le _⟩ rfl k100 (T_X8_ofRequest (G := G) hw k100 q10) ?_
      obtain ⟨rfl, rfl⟩ := Prod.mk.inj (x_so h)
      exact x_iret dX8_request_34 rfl rfl rfl
    · refine x_if_eq_f (tgt := 28) dX8_request_21 (by decide) c9 ?_
      refine x_iconst (v := 0) dX8_request_24 rfl ?_
      refine x_goto (tgt := 34) dX8_request_25 (by decide) ?_
      obtain ⟨rfl, rfl⟩ := Prod.mk.inj (x_so h)
      exact x_iret dX8_request_34 rfl rfl rfl
  · refine x_if_ne_t (tgt := 24) dX8_request_10 (by decide) c5 ?_
    refine x_iconst (v := 0) dX8_request_24 rfl ?_
    refine x_goto (tgt := 34) dX8_request_25 (by decide) ?_
    obtain ⟨rfl, rfl⟩ := Prod.mk.inj (x_so h)
    exact x_iret dX8_request_34 rfl rfl rfl
set_option maxHeartbeats 4000000 in
set_option maxRecDepth 100000 in
theorem T_X8_calm {G : XG} {Y : XY} (hw : WT Y) {a0 : Nat} {a1 : Int32} {N : XN} (k100 : kc Y a0 = 18) {r9 : Int32} {N9 : XN} (h : f_X8_calm Y a0 a1 N = some (r9, N9)) : Cl G yX8_calm cX8_calm 3 (some .int) (xR 4 0 0) [.ref a0, .int a1] (.inl (some (.int r9))) Y N Y N9 := by
  refine x_entry (by decide) (Nat.le_of_ble_eq_true rfl) rfl ?_
  rw [f_X8_calm] at h
  refine x_aload_n 0 dX8_calm_0 rfl rfl ?_
  refine x_iconst (v := 0) dX8_calm_1 rfl ?_
  refine x_puti dX8_calm_2 (ci := 8) (f := 0) (M := 19) (C9 := RX8) (T9 := TX8) rfl xin8 tyX8_ok nmX8 (by decide) fl_X8_45 rfl rfl rfl rfl k100 ?_
  obtain ⟨N1, eN1, h⟩ := x_lt h
  refine x_nmN eN1 ?_
  refine x_aload_n 0 dX8_calm_5 rfl rfl ?_
  refine x_iload_n 1 dX8_calm_6 rfl rfl ?_
  obtain ⟨r3, N4, q2, h⟩ := x_bd2 h
  refine x_cv (b := a0) (As := [.int a1]) (ci := 8) (d' := 2) (zz := yX8_noLine) dX8_calm_7 ml_X8_296 wi_X8_noLine wv_X8_noLine wn_X8 wc_X8_noLine hp_X8_noLine (by decide) (by decide) rfl (Nat.le_of_ble_eq_true rfl) ⟨Nat.zero_le _, Nat.zero_le _⟩ rfl k100 (T_X8_noLine (G := G) hw k100 q2) ?_
  rcases x_if h with ⟨c5, h⟩ | ⟨c5, h⟩
  · refine x_if_eq_t (tgt := 15) dX8_calm_10 (by decide) c5 ?_
    refine x_aload_n 0 dX8_calm_15 rfl rfl ?_
    refine x_iload_n 1 dX8_calm_16 rfl rfl ?_
    refine x_iconst (v := 1) dX8_calm_17 rfl ?_
    obtain ⟨r7, q6, h⟩ := x_bd1 h
    refine x_cv (b := a0) (As := [.int a1, .int 1]) (ci := 8) (d' := 2) (zz := yX8_ofLine) dX8_calm_18 ml_X8_222 wi_X8_ofLine wv_X8_ofLine wn_X8 wc_X8_ofLine hp_X8_ofLine (by decide) (by decide) rfl (Nat.le_of_ble_eq_true rfl) ⟨Nat.zero_le _, Nat.zero_le _⟩ rfl k100 (T_X8_ofLine (G := G) hw k100 q6) ?_
    refine x_aload_n 0 dX8_calm_21 rfl rfl ?_
    refine x_iload_n 1 dX8_calm_22 rfl rfl ?_
    obtain ⟨r9, q8, h⟩ := x_bd1 h
    refine x_cv (b := a0) (As := [.int a1]) (ci := 8) (d' := 3) (zz := yX8_raisedOn) dX8_calm_23 ml_X8_219 wi_X8_raisedOn wv_X8_raisedOn wn_X8 wc_X8_raisedOn hp_X8_raisedOn (by decide) (by decide) rfl (Nat.le_of_ble_eq_true rfl) ⟨Nat.zero_le _, Nat.zero_le _⟩ rfl k100 (T_X8_raisedOn (G := G) hw k100 q8) ?_
    refine x_isub dX8_calm_26 ?_
    refine x_istore_n [0] dX8_calm_27 rfl (by decide) rfl ?_
    refine x_iload_n 0 dX8_calm_28 rfl rfl ?_
    rcases x_if h with ⟨c10, h⟩ | ⟨c10, h⟩
    · refine x_if_le_t (tgt := 36) dX8_calm_29 (by decide) c10 ?_
      refine x_iconst (v := 0) dX8_calm_36 rfl ?_
      obtain ⟨rfl, rfl⟩ := Prod.mk.inj (x_so h)
      exact x_iret dX8_calm_37 rfl rfl rfl
    · refine x_if_le_f (tgt := 36) dX8_calm_29 (by decide) c10 ?_
      refine x_iload_n 0 dX8_calm_32 rfl rfl ?_
      refine x_goto (tgt := 37) dX8_calm_33 (by decide) ?_
      obtain ⟨rfl, rfl⟩ := Prod.mk.inj (x_so h)
      exact x_iret dX8_calm_37 rfl rfl rfl
  · refine x_if_eq_f (tgt := 15) dX8_calm_10 (by decide) c5 ?_
    refine x_iconst (v := 0) dX8_calm_13 rfl ?_
    obtain ⟨rfl, rfl⟩ := Prod.mk.inj (x_so h)
    exact x_iret dX8_calm_14 rfl rfl rfl
set_option maxHeartbeats 4000000 in
set_option maxRecDepth 100000 in
theorem T_X8_endsAt_31 {G : XG} {Y : XY} (hw : WT Y) {r9 : Int32} {N9 : XN}: ∀ (D9 : Nat) (p_0 : Nat) (v_1 : Int32) (v_2 : Int32) (N : XN), kc Y p_0 = 18 → f_X8_endsAt_31 Y D9 p_0 v_1 v_2 N = some (r9, N9) → Ex G yX8_endsAt cX8_endsAt 3 (some .int) (xR 10 0 0) (.inl (some (.int r9))) Y N9 0 0 31 [(0, .ref p_0), (1, .int v_1), (2, .int v_2)] [] Y N := by
  intro D9
  induction D9 with
  | zero => intro p_0 v_1 v_2 N kk0 h; exact nomatch (show none = some (r9, N9) from h)
  | succ D9 ih =>
    intro p_0 v_1 v_2 N kk0 h
    rw [f_X8_endsAt_31] at h
    refine x_iload_n 2 dX8_endsAt_31 rfl rfl ?_
    refine x_sipush (v := 1100) dX8_endsAt_32 rfl ?_
    rcases x_if h with ⟨c1, h⟩ | ⟨c1, h⟩
    · refine x_icmp_ge_t (tgt := 58) dX8_endsAt_35 (by decide) c1 ?_
      refine x_aload_n 0 dX8_endsAt_58 rfl rfl ?_
      refine x_iload_n 1 dX8_endsAt_59 rfl rfl ?_
      refine x_bipush (v := 6) dX8_endsAt_60 rfl ?_
      obtain ⟨r3, q2, h⟩ := x_bd1 h
      refine x_cv (b := p_0) (As := [.int v_1, .int 6]) (ci := 8) (d' := 2) (zz := yX8_ofRequest) dX8_endsAt_62 ml_X8_206 wi_X8_ofRequest wv_X8_ofRequest wn_X8 wc_X8_ofRequest hp_X8_ofRequest (by decide) (by decide) rfl (Nat.le_of_ble_eq_true rfl) ⟨Nat.zero_le _, Nat.zero_le _⟩ rfl kk0 (T_X8_ofRequest (G := G) hw kk0 q2) ?_
      refine x_istore_n [1, 0] dX8_endsAt_65 rfl (by decide) rfl ?_
      refine x_aload_n 0 dX8_endsAt_66 rfl rfl ?_
      obtain ⟨g4, k5, n6⟩ := wt_X8_10 hw kk0
      refine x_getr dX8_endsAt_67 (ci := 8) (f := 10) (M := 19) (C9 := RX8) (T9 := TX8) rfl xin8 (by decide) fl_X8_23 rfl kk0 g4 ?_
      refine x_aload_n 0 dX8_endsAt_70 rfl rfl ?_
      obtain ⟨g7, k8, n9⟩ := wt_X8_8 hw kk0
      refine x_getr dX8_endsAt_71 (ci := 8) (f := 8) (M := 19) (C9 := RX8) (T9 := TX8) rfl xin8 (by decide) fl_X8_17 rfl kk0 g7 ?_
      refine x_sipush (v := 584) dX8_endsAt_74 rfl ?_
      obtain ⟨N11, q10, h⟩ := x_bd1 h
      refine x_cs (As := [.ref (gp Y p_0 10), .ref (gp Y p_0 8), .int 584]) (d' := 1) (zz := yX8_copy) dX8_endsAt_77 ml_X8_193 wt_X8_copy wn_X8 wc_X8_copy hp_X8_copy (by decide) (by decide) rfl (Nat.le_of_ble_eq_true rfl) ⟨Nat.zero_le _, Nat.zero_le _⟩ (T_X8_copy (G := G) hw k5 k8 q10) ?_
      refine x_iload_n 1 dX8_endsAt_80 rfl rfl ?_
      obtain ⟨rfl, rfl⟩ := Prod.mk.inj (x_so h)
      exact x_iret dX8_endsAt_81 rfl rfl rfl
    · refine x_icmp_ge_f (tgt := 58) dX8_endsAt_35 (by decide) c1 ?_
      refine x_aload_n 0 dX8_endsAt_38 rfl rfl ?_
      refine x_iload_n 1 dX8_endsAt_39 rfl rfl ?_
      refine x_iconst (v := 3) dX8_endsAt_40 rfl ?_
      obtain ⟨r13, q12, h⟩ := x_bd1 h
      refine x_cv (b := p_0) (As := [.int v_1, .int 3]) (ci := 8) (d' := 2) (zz := yX8_ofRequest) dX8_endsAt_41 ml_X8_206 wi_X8_ofRequest wv_X8_ofRequest wn_X8 wc_X8_ofRequest hp_X8_ofRequest (by decide) (by decide) rfl (Nat.le_of_ble_eq_true rfl) ⟨Nat.zero_le _, Nat.zero_le _⟩ rfl kk0 (T_X8_ofRequest (G := G) hw kk0 q12) ?_
      refine x_iconst (v := 2) dX8_endsAt_44 rfl ?_
      rcases x_if h with ⟨c14, h⟩ | ⟨c14, h⟩
      · refine x_icmp_ge_t (tgt := 58) dX8_endsAt_45 (by decide) c14 ?_
        refine x_aload_n 0 dX8_endsAt_58 rfl rfl ?_
        refine x_iload_n 1 dX8_endsAt_59 rfl rfl ?_
        refine x_bipush (v := 6) dX8_endsAt_60 rfl ?_
        obtain ⟨r16, q15, h⟩ := x_bd1 h
        refine x_cv (b := p_0) (As := [.int v_1, .int 6]) (ci := 8) (d' := 2) (zz := yX8_ofRequest) dX8_endsAt_62 ml_X8_206 wi_X8_ofRequest wv_X8_ofRequest wn_X8 wc_X8_ofRequest hp_X8_ofRequest (by decide) (by decide) rfl (Nat.le_of_ble_eq_true rfl) ⟨Nat.zero_le _, Nat.zero_le _⟩ rfl kk0 (T_X8_ofRequest (G := G) hw kk0 q15) ?_
        refine x_istore_n [1, 0] dX8_endsAt_65 rfl (by decide) rfl ?_
        refine x_aload_n 0 dX8_endsAt_66 rfl rfl ?_
        obtain ⟨g17, k18, n19⟩ := wt_X8_10 hw kk0
        refine x_getr dX8_endsAt_67 (ci := 8) (f := 10) (M := 19) (C9 := RX8) (T9 := TX8) rfl xin8 (by decide) fl_X8_23 rfl kk0 g17 ?_
        refine x_aload_n 0 dX8_endsAt_70 rfl rfl ?_
        obtain ⟨g20, k21, n22⟩ := wt_X8_8 hw kk0
        refine x_getr dX8_endsAt_71 (ci := 8) (f := 8) (M := 19) (C9 := RX8) (T9 := TX8) rfl xin8 (by decide) fl_X8_17 rfl kk0 g20 ?_
        refine x_sipush (v := 584) dX8_endsAt_74 rfl ?_
        obtain ⟨N24, q23, h⟩ := x_bd1 h
        refine x_cs (As := [.ref (gp Y p_0 10), .ref (gp Y p_0 8), .int 584]) (d' := 1) (zz := yX8_copy) dX8_endsAt_77 ml_X8_193 wt_X8_copy wn_X8 wc_X8_copy hp_X8_copy (by decide) (by decide) rfl (Nat.le_of_ble_eq_true rfl) ⟨Nat.zero_le _, Nat.zero_le _⟩ (T_X8_copy (G := G) hw k18 k21 q23) ?_
        refine x_iload_n 1 dX8_endsAt_80 rfl rfl ?_
        obtain ⟨rfl, rfl⟩ := Prod.mk.inj (x_so h)
        exact x_iret dX8_endsAt_81 rfl rfl rfl
      · refine x_icmp_ge_f (tgt := 58) dX8_endsAt_45 (by decide) c14 ?_
        refine x_aload_n 0 dX8_endsAt_48 rfl rfl ?_
        obtain ⟨N26, q25, h⟩ := x_bd1 h
        refine x_cv (b := p_0) (As := []) (ci := 8) (d' := 9) (zz := yX8_tick) dX8_endsAt_49 ml_X8_305 wi_X8_tick wv_X8_tick wn_X8 wc_X8_tick hp_X8_tick (by decide) (by decide) rfl (Nat.le_of_ble_eq_true rfl) ⟨Nat.zero_le _, Nat.zero_le _⟩ rfl kk0 (T_X8_tick (G := G) hw kk0 q25) ?_
        refine x_iinc 2 [1, 2, 0] dX8_endsAt_52 rfl rfl (by decide) rfl ?_
        refine x_goto (tgt := 31) dX8_endsAt_55 (by decide) ?_
        exact ih p_0 v_1 (v_2 + 1) N26 kk0 h
set_option maxHeartbeats 4000000 in
set_option maxRecDepth 100000 in
theorem T_X8_endsAt {G : XG} {Y : XY} (hw : WT Y) {a0 : Nat} {a1 : Int32} {N : XN} (k100 : kc Y a0 = 18) {r9 : Int32} {N9 : XN} (h : f_X8_endsAt Y a0 a1 N = some (r9, N9)) : Cl G yX8_endsAt cX8_endsAt 3 (some .int) (xR 10 0 0) [.ref a0, .int a1] (.inl (some (.int r9))) Y N Y N9 := by
  refine x_entry (by decide) (Nat.le_of_ble_eq_true rfl) rfl ?_
  rw [f_X8_endsAt] at h
  refine x_aload_n 0 dX8_endsAt_0 rfl rfl ?_
  refine x_iconst (v := 0) dX8_endsAt_1 rfl ?_
  refine x_puti dX8_endsAt_2 (ci := 8) (f := 0) (M := 19) (C9 := RX8) (T9 := TX8) rfl xin8 tyX8_ok nmX8 (by decide) fl_X8_45 rfl rfl rfl rfl k100 ?_
  obtain ⟨N1, eN1, h⟩ := x_lt h
  refine x_nmN eN1 ?_
  refine x_aload_n 0 dX8_endsAt_5 rfl rfl ?_
  refine x_iload_n 1 dX8_endsAt_6 rfl rfl ?_
  obtain ⟨r3, N4, q2, h⟩ := x_bd2 h
  refine x_cv (b := a0) (As := [.int a1]) (ci := 8) (d' := 2) (zz := yX8_noRequest) dX8_endsAt_7 ml_X8_302 wi_X8_noRequest wv_X8_noRequest wn_X8 wc_X8_noRequest hp_X8_noRequest (by decide) (by decide) rfl (Nat.le_of_ble_eq_true rfl) ⟨Nat.zero_le _, Nat.zero_le _⟩ rfl k100 (T_X8_noRequest (G := G) hw k100 q2) ?_
  rcases x_if h with ⟨c5, h⟩ | ⟨c5, h⟩
  · refine x_if_eq_t (tgt := 15) dX8_endsAt_10 (by decide) c5 ?_
    refine x_aload_n 0 dX8_endsAt_15 rfl rfl ?_
    obtain ⟨g6, k7, n8⟩ := wt_X8_8 hw k100
    refine x_getr dX8_endsAt_16 (ci := 8) (f := 8) (M := 19) (C9 := RX8) (T9 := TX8) rfl xin8 (by decide) fl_X8_17 rfl k100 g6 ?_
    refine x_aload_n 0 dX8_endsAt_19 rfl rfl ?_
    obtain ⟨g9, k10, n11⟩ := wt_X8_10 hw k100
    refine x_getr dX8_endsAt_20 (ci := 8) (f := 10) (M := 19) (C9 := RX8) (T9 := TX8) rfl xin8 (by decide) fl_X8_23 rfl k100 g9 ?_
    refine x_sipush (v := 584) dX8_endsAt_23 rfl ?_
    obtain ⟨N13, q12, h⟩ := x_bd1 h
    refine x_cs (As := [.ref (gp Y a0 8), .ref (gp Y a0 10), .int 584]) (d' := 1) (zz := yX8_copy) dX8_endsAt_26 ml_X8_193 wt_X8_copy wn_X8 wc_X8_copy hp_X8_copy (by decide) (by decide) rfl (Nat.le_of_ble_eq_true rfl) ⟨Nat.zero_le _, Nat.zero_le _⟩ (T_X8_copy (G := G) hw k7 k10 q12) ?_
    refine x_iconst (v := 0) dX8_endsAt_29 rfl ?_
    refine x_istore_n [1, 2, 0] dX8_endsAt_30 rfl (by decide) rfl ?_
    exact T_X8_endsAt_31 (G := G) hw FU a0 a1 0 N13 k100 h
  · refine x_if_eq_f (tgt := 15) dX8_endsAt_10 (by decide) c5 ?_
    refine x_iconst (v := 0) dX8_endsAt_13 rfl ?_
    obtain ⟨rfl, rfl⟩ := Prod.mk.inj (x_so h)
    exact x_iret dX8_endsAt_14 rfl rfl rfl
set_option maxHeartbeats 4000000 in
set_option maxRecDepth 100000 in
theorem T_X8_bankruptIn_31 {G : XG} {Y : XY} (hw : WT Y) {r9 : Int32} {N9 : XN}: ∀ (D9 : Nat) (p_0 : Nat) (v_1 : Int32) (v_2 : Int32) (N : XN), kc Y p_0 = 18 → f_X8_bankruptIn_31 Y D9 p_0 v_1 v_2 N = some (r9, N9) → Ex G yX8_bankruptIn cX8_bankruptIn 4 (some .int) (xR 10 0 0) (.inl (some (.int r9))) Y N9 0 0 31 [(0, .ref p_0), (1, .int v_1), (2, .int v_2)] [] Y N := by
  intro D9
  induction D9 with
  | zero => intro p_0 v_1 v_2 N kk0 h; exact nomatch (show none = some (r9, N9) from h)
  | succ D9 ih =>
    intro p_0 v_1 v_2 N kk0 h
    rw [f_X8_bankruptIn_31] at h
    refine x_iload_n 2 dX8_bankruptIn_31 rfl rfl ?_
    refine x_sipush (v := 1100) dX8_bankruptIn_32 rfl ?_
    rcases x_if h with ⟨c1, h⟩ | ⟨c1, h⟩
    · refine x_icmp_ge_t (tgt := 57) dX8_bankruptIn_35 (by decide) c1 ?_
      refine x_aload_n 0 dX8_bankruptIn_57 rfl rfl ?_
      refine x_iload_n 1 dX8_bankruptIn_58 rfl rfl ?_
      refine x_iconst (v := 2) dX8_bankruptIn_59 rfl ?_
      obtain ⟨r3, q2, h⟩ := x_bd1 h
      refine x_cv (b := p_0) (As := [.int v_1, .int 2]) (ci := 8) (d' := 2) (zz := yX8_ofHandler) dX8_bankruptIn_60 ml_X8_245 wi_X8_ofHandler wv_X8_ofHandler wn_X8 wc_X8_ofHandler hp_X8_ofHandler (by decide) (by decide) rfl (Nat.le_of_ble_eq_true rfl) ⟨Nat.zero_le _, Nat.zero_le _⟩ rfl kk0 (T_X8_ofHandler (G := G) hw kk0 q2) ?_
      refine x_iconst (v := 1) dX8_bankruptIn_63 rfl ?_
      rcases x_if h with ⟨c4, h⟩ | ⟨c4, h⟩
      · refine x_icmp_ne_f (tgt := 71) dX8_bankruptIn_64 (by decide) c4 ?_
        refine x_iconst (v := 1) dX8_bankruptIn_67 rfl ?_
        refine x_goto (tgt := 72) dX8_bankruptIn_68 (by decide) ?_
        refine x_istore_n [1, 3, 0] dX8_bankruptIn_72 rfl (by decide) rfl ?_
        refine x_aload_n 0 dX8_bankruptIn_73 rfl rfl ?_
        obtain ⟨g5, k6, n7⟩ := wt_X8_10 hw kk0
        refine x_getr dX8_bankruptIn_74 (ci := 8) (f := 10) (M := 19) (C9 := RX8) (T9 := TX8) rfl xin8 (by decide) fl_X8_23 rfl kk0 g5 ?_
        refine x_aload_n 0 dX8_bankruptIn_77 rfl rfl ?_
        obtain ⟨g8, k9, n10⟩ := wt_X8_8 hw kk0
        refine x_getr dX8_bankruptIn_78 (ci := 8) (f := 8) (M := 19) (C9 := RX8) (T9 := TX8) rfl xin8 (by decide) fl_X8_17 rfl kk0 g8 ?_
        refine x_sipush (v := 584) dX8_bankruptIn_81 rfl ?_
        obtain ⟨N12, q11, h⟩ := x_bd1 h
        refine x_cs (As := [.ref (gp Y p_0 10), .ref (gp Y p_0 8), .int 584]) (d' := 1) (zz := yX8_copy) dX8_bankruptIn_84 ml_X8_193 wt_X8_copy wn_X8 wc_X8_copy hp_X8_copy (by decide) (by decide) rfl (Nat.le_of_ble_eq_true rfl) ⟨Nat.zero_le _, Nat.zero_le _⟩ (T_X8_copy (G := G) hw k6 k9 q11) ?_
        refine x_iload_n 2 dX8_bankruptIn_87 rfl rfl ?_
        rcases x_if h with ⟨c13, h⟩ | ⟨c13, h⟩
        · refine x_if_eq_t (tgt := 95) dX8_bankruptIn_88 (by decide) c13 ?_
          refine x_iconst (v := (-1)) dX8_bankruptIn_95 rfl ?_
          obtain ⟨rfl, rfl⟩ := Prod.mk.inj (x_so h)
          exact x_iret dX8_bankruptIn_96 rfl rfl rfl
        · refine x_if_eq_f (tgt := 95) dX8_bankruptIn_88 (by decide) c13 ?_
          refine x_iload_n 1 dX8_bankruptIn_91 rfl rfl ?_
          refine x_goto (tgt := 96) dX8_bankruptIn_92 (by decide) ?_
          obtain ⟨rfl, rfl⟩ := Prod.mk.inj (x_so h)
          exact x_iret dX8_bankruptIn_96 rfl rfl rfl
      · refine x_icmp_ne_t (tgt := 71) dX8_bankruptIn_64 (by decide) c4 ?_
        refine x_iconst (v := 0) dX8_bankruptIn_71 rfl ?_
        refine x_istore_n [1, 3, 0] dX8_bankruptIn_72 rfl (by decide) rfl ?_
        refine x_aload_n 0 dX8_bankruptIn_73 rfl rfl ?_
        obtain ⟨g14, k15, n16⟩ := wt_X8_10 hw kk0
        refine x_getr dX8_bankruptIn_74 (ci := 8) (f := 10) (M := 19) (C9 := RX8) (T9 := TX8) rfl xin8 (by decide) fl_X8_23 rfl kk0 g14 ?_
        refine x_aload_n 0 dX8_bankruptIn_77 rfl rfl ?_
        obtain ⟨g17, k18, n19⟩ := wt_X8_8 hw kk0
        refine x_getr dX8_bankruptIn_78 (ci := 8) (f := 8) (M := 19) (C9 := RX8) (T9 := TX8) rfl xin8 (by decide) fl_X8_17 rfl kk0 g17 ?_
        refine x_sipush (v := 584) dX8_bankruptIn_81 rfl ?_
        obtain ⟨N21, q20, h⟩ := x_bd1 h
        refine x_cs (As := [.ref (gp Y p_0 10), .ref (gp Y p_0 8), .int 584]) (d' := 1) (zz := yX8_copy) dX8_bankruptIn_84 ml_X8_193 wt_X8_copy wn_X8 wc_X8_copy hp_X8_copy (by decide) (by decide) rfl (Nat.le_of_ble_eq_true rfl) ⟨Nat.zero_le _, Nat.zero_le _⟩ (T_X8_copy (G := G) hw k15 k18 q20) ?_
        refine x_iload_n 2 dX8_bankruptIn_87 rfl rfl ?_
        rcases x_if h with ⟨c22, h⟩ | ⟨c22, h⟩
        · refine x_if_eq_t (tgt := 95) dX8_bankruptIn_88 (by decide) c22 ?_
          refine x_iconst (v := (-1)) dX8_bankruptIn_95 rfl ?_
          obtain ⟨rfl, rfl⟩ := Prod.mk.inj (x_so h)
          exact x_iret dX8_bankruptIn_96 rfl rfl rfl
        · refine x_if_eq_f (tgt := 95) dX8_bankruptIn_88 (by decide) c22 ?_
          refine x_iload_n 1 dX8_bankruptIn_91 rfl rfl ?_
          refine x_goto (tgt := 96) dX8_bankruptIn_92 (by decide) ?_
          obtain ⟨rfl, rfl⟩ := Prod.mk.inj (x_so h)
          exact x_iret dX8_bankruptIn_96 rfl rfl rfl
    · refine x_icmp_ge_f (tgt := 57) dX8_bankruptIn_35 (by decide) c1 ?_
      refine x_aload_n 0 dX8_bankruptIn_38 rfl rfl ?_
      refine x_iload_n 1 dX8_bankruptIn_39 rfl rfl ?_
      refine x_iconst (v := 2) dX8_bankruptIn_40 rfl ?_
      obtain ⟨r24, q23, h⟩ := x_bd1 h
      refine x_cv (b := p_0) (As := [.int v_1, .int 2]) (ci := 8) (d' := 2) (zz := yX8_ofHandler) dX8_bankruptIn_41 ml_X8_245 wi_X8_ofHandler wv_X8_ofHandler wn_X8 wc_X8_ofHandler hp_X8_ofHandler (by decide) (by decide) rfl (Nat.le_of_ble_eq_true rfl) ⟨Nat.zero_le _, Nat.zero_le _⟩ rfl kk0 (T_X8_ofHandler (G := G) hw kk0 q23) ?_
      rcases x_if h with ⟨c25, h⟩ | ⟨c25, h⟩
      · refine x_if_ne_f (tgt := 57) dX8_bankruptIn_44 (by decide) c25 ?_
        refine x_aload_n 0 dX8_bankruptIn_47 rfl rfl ?_
        obtain ⟨N27, q26, h⟩ := x_bd1 h
        refine x_cv (b := p_0) (As := []) (ci := 8) (d' := 9) (zz := yX8_tick) dX8_bankruptIn_48 ml_X8_305 wi_X8_tick wv_X8_tick wn_X8 wc_X8_tick hp_X8_tick (by decide) (by decide) rfl (Nat.le_of_ble_eq_true rfl) ⟨Nat.zero_le _, Nat.zero_le _⟩ rfl kk0 (T_X8_tick (G := G) hw kk0 q26) ?_
        refine x_iinc 2 [1, 2, 0] dX8_bankruptIn_51 rfl rfl (by decide) rfl ?_
        refine x_goto (tgt := 31) dX8_bankruptIn_54 (by decide) ?_
        exact ih p_0 v_1 (v_2 + 1) N27 kk0 h
      · refine x_if_ne_t (tgt := 57) dX8_bankruptIn_44 (by decide) c25 ?_
        refine x_aload_n 0 dX8_bankruptIn_57 rfl rfl ?_
        refine x_iload_n 1 dX8_bankruptIn_58 rfl rfl ?_
        refine x_iconst (v := 2) dX8_bankruptIn_59 rfl ?_
        obtain ⟨r29, q28, h⟩ := x_bd1 h
        refine x_cv (b := p_0) (As := [.int v_1, .int 2]) (ci := 8) (d' := 2) (zz := yX8_ofHandler) dX8_bankruptIn_60 ml_X8_245 wi_X8_ofHandler wv_X8_ofHandler wn_X8 wc_X8_ofHandler hp_X8_ofHandler (by decide) (by decide) rfl (Nat.le_of_ble_eq_true rfl) ⟨Nat.zero_le _, Nat.zero_le _⟩ rfl kk0 (T_X8_ofHandler (G := G) hw kk0 q28) ?_
        refine x_iconst (v := 1) dX8_bankruptIn_63 rfl ?_
        rcases x_if h with ⟨c30, h⟩ | ⟨c30, h⟩
        · refine x_icmp_ne_f (tgt := 71) dX8_bankruptIn_64 (by decide) c30 ?_
          refine x_iconst (v := 1) dX8_bankruptIn_67 rfl ?_
          refine x_goto (tgt := 72) dX8_bankruptIn_68 (by decide) ?_
          refine x_istore_n [1, 3, 0] dX8_bankruptIn_72 rfl (by decide) rfl ?_
          refine x_aload_n 0 dX8_bankruptIn_73 rfl rfl ?_
          obtain ⟨g31, k32, n33⟩ := wt_X8_10 hw kk0
          refine x_getr dX8_bankruptIn_74 (ci := 8) (f := 10) (M := 19) (C9 := RX8) (T9 := TX8) rfl xin8 (by decide) fl_X8_23 rfl kk0 g31 ?_
          refine x_aload_n 0 dX8_bankruptIn_77 rfl rfl ?_
          obtain ⟨g34, k35, n36⟩ := wt_X8_8 hw kk0
          refine x_getr dX8_bankruptIn_78 (ci := 8) (f := 8) (M := 19) (C9 := RX8) (T9 := TX8) rfl xin8 (by decide) fl_X8_17 rfl kk0 g34 ?_
          refine x_sipush (v := 584) dX8_bankruptIn_81 rfl ?_
          obtain ⟨N38, q37, h⟩ := x_bd1 h
          refine x_cs (As := [.ref (gp Y p_0 10), .ref (gp Y p_0 8), .int 584]) (d' := 1) (zz := yX8_copy) dX8_bankruptIn_84 ml_X8_193 wt_X8_copy wn_X8 wc_X8_copy hp_X8_copy (by decide) (by decide) rfl (Nat.le_of_ble_eq_true rfl) ⟨Nat.zero_le _, Nat.zero_le _⟩ (T_X8_copy (G := G) hw k32 k35 q37) ?_
          refine x_iload_n 2 dX8_bankruptIn_87 rfl rfl ?_
          rcases x_if h with ⟨c39, h⟩ | ⟨c39, h⟩
          · refine x_if_eq_t (tgt := 95) dX8_bankruptIn_88 (by decide) c39 ?_
            refine x_iconst (v := (-1)) dX8_bankruptIn_95 rfl ?_
            obtain ⟨rfl, rfl⟩ := Prod.mk.inj (x_so h)
            exact x_iret dX8_bankruptIn_96 rfl rfl rfl
          · refine x_if_eq_f (tgt := 95) dX8_bankruptIn_88 (by decide) c39 ?_
            refine x_iload_n 1 dX8_bankruptIn_91 rfl rfl ?_
            refine x_goto (tgt := 96) dX8_bankruptIn_92 (by decide) ?_
            obtain ⟨rfl, rfl⟩ := Prod.mk.inj (x_so h)
            exact x_iret dX8_bankruptIn_96 rfl rfl rfl
        · refine x_icmp_ne_t (tgt := 71) dX8_bankruptIn_64 (by decide) c30 ?_
          refine x_iconst (v := 0) dX8_bankruptIn_71 rfl ?_
          refine x_istore_n [1, 3, 0] dX8_bankruptIn_72 rfl (by decide) rfl ?_
          refine x_aload_n 0 dX8_bankruptIn_73 rfl rfl ?_
          obtain ⟨g40, k41, n42⟩ := wt_X8_10 hw kk0
          refine x_getr dX8_bankruptIn_74 (ci := 8) (f := 10) (M := 19) (C9 := RX8) (T9 := TX8) rfl xin8 (by decide) fl_X8_23 rfl kk0 g40 ?_
          refine x_aload_n 0 dX8_bankruptIn_77 rfl rfl ?_
          obtain ⟨g43, k44, n45⟩ := wt_X8_8 hw kk0
          refine x_getr dX8_bankruptIn_78 (ci := 8) (f := 8) (M := 19) (C9 := RX8) (T9 := TX8) rfl xin8 (by decide) fl_X8_17 rfl kk0 g43 ?_
          refine x_sipush (v := 584) dX8_bankruptIn_81 rfl ?_
          obtain ⟨N47, q46, h⟩ := x_bd1 h
          refine x_cs (As := [.ref (gp Y p_0 10), .ref (gp Y p_0 8), .int 584]) (d' := 1) (zz := yX8_copy) dX8_bankruptIn_84 ml_X8_193 wt_X8_copy wn_X8 wc_X8_copy hp_X8_copy (by decide) (by decide) rfl (Nat.le_of_ble_eq_true rfl) ⟨Nat.zero_le _, Nat.zero_le _⟩ (T_X8_copy (G := G) hw k41 k44 q46) ?_
          refine x_iload_n 2 dX8_bankruptIn_87 rfl rfl ?_
          rcases x_if h with ⟨c48, h⟩ | ⟨c48, h⟩
          · refine x_if_eq_t (tgt := 95) dX8_bankruptIn_88 (by decide) c48 ?_
            refine x_iconst (v := (-1)) dX8_bankruptIn_95 rfl ?_
            obtain ⟨rfl, rfl⟩ := Prod.mk.inj (x_so h)
            exact x_iret dX8_bankruptIn_96 rfl rfl rfl
          · refine x_if_eq_f (tgt := 95) dX8_bankruptIn_88 (by decide) c48 ?_
            refine x_iload_n 1 dX8_bankruptIn_91 rfl rfl ?_
            refine x_goto (tgt := 96) dX8_bankruptIn_92 (by decide) ?_
            obtain ⟨rfl, rfl⟩ := Prod.mk.inj (x_so h)
            exact x_iret dX8_bankruptIn_96 rfl rfl rfl
set_option maxHeartbeats 4000000 in
set_option maxRecDepth 100000 in
theorem T_X8_bankruptIn {G : XG} {Y : XY} (hw : WT Y) {a0 : Nat} {a1 : Int32} {N : XN} (k100 : kc Y a0 = 18) {r9 : Int32} {N9 : XN} (h : f_X8_bankruptIn Y a0 a1 N = some (r9, N9)) : Cl G yX8_bankruptIn cX8_bankruptIn 4 (some .int) (xR 10 0 0) [.ref a0, .int a1] (.inl (some (.int r9))) Y N Y N9 := by
  refine x_entry (by decide) (Nat.le_of_ble_eq_true rfl) rfl ?_
  rw [f_X8_bankruptIn] at h
  refine x_aload_n 0 dX8_bankruptIn_0 rfl rfl ?_
  refine x_iconst (v := 0) dX8_bankruptIn_1 rfl ?_
  refine x_puti dX8_bankruptIn_2 (ci := 8) (f := 0) (M := 19) (C9 := RX8) (T9 := TX8) rfl xin8 tyX8_ok nmX8 (by decide) fl_X8_45 rfl rfl rfl rfl k100 ?_
  obtain ⟨N1, eN1, h⟩ := x_lt h
  refine x_nmN eN1 ?_
  refine x_aload_n 0 dX8_bankruptIn_5 rfl rfl ?_
  refine x_iload_n 1 dX8_bankruptIn_6 rfl rfl ?_
  obtain ⟨r3, N4, q2, h⟩ := x_bd2 h
  refine x_cv (b := a0) (As := [.int a1]) (ci := 8) (d' := 2) (zz := yX8_noHandler) dX8_bankruptIn_7 ml_X8_287 wi_X8_noHandler wv_X8_noHandler wn_X8 wc_X8_noHandler hp_X8_noHandler (by decide) (by decide) rfl (Nat.le_of_ble_eq_true rfl) ⟨Nat.zero_le _, Nat.zero_le _⟩ rfl k100 (T_X8_noHandler (G := G) hw k100 q2) ?_
  rcases x_if h with ⟨c5, h⟩ | ⟨c5, h⟩
  · refine x_if_eq_t (tgt := 15) dX8_bankruptIn_10 (by decide) c5 ?_
    refine x_aload_n 0 dX8_bankruptIn_15 rfl rfl ?_
    obtain ⟨g6, k7, n8⟩ := wt_X8_8 hw k100
    refine x_getr dX8_bankruptIn_16 (ci := 8) (f := 8) (M := 19) (C9 := RX8) (T9 := TX8) rfl xin8 (by decide) fl_X8_17 rfl k100 g6 ?_
    refine x_aload_n 0 dX8_bankruptIn_19 rfl rfl ?_
    obtain ⟨g9, k10, n11⟩ := wt_X8_10 hw k100
    refine x_getr dX8_bankruptIn_20 (ci := 8) (f := 10) (M := 19) (C9 := RX8) (T9 := TX8) rfl xin8 (by decide) fl_X8_23 rfl k100 g9 ?_
    refine x_sipush (v := 584) dX8_bankruptIn_23 rfl ?_
    obtain ⟨N13, q12, h⟩ := x_bd1 h
    refine x_cs (As := [.ref (gp Y a0 8), .ref (gp Y a0 10), .int 584]) (d' := 1) (zz := yX8_copy) dX8_bankruptIn_26 ml_X8_193 wt_X8_copy wn_X8 wc_X8_copy hp_X8_copy (by decide) (by decide) rfl (Nat.le_of_ble_eq_true rfl) ⟨Nat.zero_le _, Nat.zero_le _⟩ (T_X8_copy (G := G) hw k7 k10 q12) ?_
    refine x_iconst (v := 0) dX8_bankruptIn_29 rfl ?_
    refine x_istore_n [1, 2, 0] dX8_bankruptIn_30 rfl (by decide) rfl ?_
    exact T_X8_bankruptIn_31 (G := G) hw FU a0 a1 0 N13 k100 h
  · refine x_if_eq_f (tgt := 15) dX8_bankruptIn_10 (by decide) c5 ?_
    refine x_iconst (v := 0) dX8_bankruptIn_13 rfl ?_
    obtain ⟨rfl, rfl⟩ := Prod.mk.inj (x_so h)
    exact x_iret dX8_bankruptIn_14 rfl rfl rfl
set_option maxHeartbeats 4000000 in
set_option maxRecDepth 100000 in
theorem T_X8_finesPaid_4 {G : XG} {Y : XY} (hw : WT Y) {r9 : Int32}: ∀ (D9 : Nat) (p_0 : Nat) (v_1 : Int32) (v_2 : Int32) (N : XN), kc Y p_0 = 18 → f_X8_finesPaid_4 Y D9 p_0 v_1 v_2 N = some r9 → Ex G yX8_finesPaid cX8_finesPaid 3 (some .int) (xR 3 0 0) (.inl (some (.int r9))) Y N 0 0 4 [(0, .ref p_0), (1, .int v_1), (2, .int v_2)] [] Y N := by
  intro D9
  induction D9 with
  | zero => intro p_0 v_1 v_2 N kk0 h; exact nomatch (show none = some r9 from h)
  | succ D9 ih =>
    intro p_0 v_1 v_2 N kk0 h
    rw [f_X8_finesPaid_4] at h
    refine x_iload_n 2 dX8_finesPaid_4 rfl rfl ?_
    refine x_aload_n 0 dX8_finesPaid_5 rfl rfl ?_
    obtain ⟨g1, k2, n3⟩ := wt_X8_8 hw kk0
    refine x_getr dX8_finesPaid_6 (ci := 8) (f := 8) (M := 19) (C9 := RX8) (T9 := TX8) rfl xin8 (by decide) fl_X8_17 rfl kk0 g1 ?_
    refine x_iconst (v := 1) dX8_finesPaid_9 rfl ?_
    refine x_iald dX8_finesPaid_10 k2 (xb_at n3 (by decide)) rfl ?_
    rcases x_if h with ⟨c4, h⟩ | ⟨c4, h⟩
    · refine x_icmp_ge_t (tgt := 29) dX8_finesPaid_11 (by decide) c4 ?_
      refine x_iload_n 1 dX8_finesPaid_29 rfl rfl ?_
      obtain rfl := x_so h
      exact x_iret dX8_finesPaid_30 rfl rfl rfl
    · refine x_icmp_ge_f (tgt := 29) dX8_finesPaid_11 (by decide) c4 ?_
      refine x_iload_n 1 dX8_finesPaid_14 rfl rfl ?_
      refine x_aload_n 0 dX8_finesPaid_15 rfl rfl ?_
      refine x_iload_n 2 dX8_finesPaid_16 rfl rfl ?_
      refine x_iconst (v := 3) dX8_finesPaid_17 rfl ?_
      obtain ⟨r6, q5, h⟩ := x_bd1 h
      refine x_cv (b := p_0) (As := [.int v_2, .int 3]) (ci := 8) (d' := 2) (zz := yX8_ofHandler) dX8_finesPaid_18 ml_X8_245 wi_X8_ofHandler wv_X8_ofHandler wn_X8 wc_X8_ofHandler hp_X8_ofHandler (by decide) (by decide) rfl (Nat.le_of_ble_eq_true rfl) ⟨Nat.zero_le _, Nat.zero_le _⟩ rfl kk0 (T_X8_ofHandler (G := G) hw kk0 q5) ?_
      refine x_iadd dX8_finesPaid_21 ?_
      refine x_istore_n [1, 0, 2] dX8_finesPaid_22 rfl (by decide) rfl ?_
      refine x_iinc 2 [1, 2, 0] dX8_finesPaid_23 rfl rfl (by decide) rfl ?_
      refine x_goto (tgt := 4) dX8_finesPaid_26 (by decide) ?_
      exact ih p_0 (v_1 + r6) (v_2 + 1) N kk0 h
set_option maxHeartbeats 4000000 in
set_option maxRecDepth 100000 in
theorem T_X8_finesPaid {G : XG} {Y : XY} (hw : WT Y) {a0 : Nat} {N : XN} (k100 : kc Y a0 = 18) {r9 : Int32} (h : f_X8_finesPaid Y a0 N = some r9) : Cl G yX8_finesPaid cX8_finesPaid 3 (some .int) (xR 3 0 0) [.ref a0] (.inl (some (.int r9))) Y N Y N := by
  refine x_entry (by decide) (Nat.le_of_ble_eq_true rfl) rfl ?_
  rw [f_X8_finesPaid] at h
  refine x_iconst (v := 0) dX8_finesPaid_0 rfl ?_
  refine x_istore_n [1, 0] dX8_finesPaid_1 rfl (by decide) rfl ?_
  refine x_iconst (v := 0) dX8_finesPaid_2 rfl ?_
  refine x_istore_n [1, 2, 0] dX8_finesPaid_3 rfl (by decide) rfl ?_
  exact T_X8_finesPaid_4 (G := G) hw FU a0 0 0 N k100 h
set_option maxHeartbeats 4000000 in
set_option maxRecDepth 100000 in
theorem T_X8_finesWithin_21 {G : XG} {Y : XY} (hw : WT Y) {r9 : Int32} {N9 : XN}: ∀ (D9 : Nat) (p_0 : Nat) (v_1 : Int32) (v_2 : Int32) (v_3 : Int32) (N : XN), kc Y p_0 = 18 → f_X8_finesWithin_21 Y D9 p_0 v_1 v_2 v_3 N = some (r9, N9) → Ex G yX8_finesWithin cX8_finesWithin 4 (some .int) (xR 10 0 0) (.inl (some (.int r9))) Y N9 0 0 21 [(0, .ref p_0), (1, .int v_1), (2, .int v_2), (3, .int v_3)] [] Y N := by
  intro D9
  induction D9 with
  | zero => intro p_0 v_1 v_2 v_3 N kk0 h; exact nomatch (show none = some (r9, N9) from h)
  | succ D9 ih =>
    intro p_0 v_1 v_2 v_3 N kk0 h
    rw [f_X8_finesWithin_21] at h
    refine x_iload_n 3 dX8_finesWithin_21 rfl rfl ?_
    refine x_iload_n 1 dX8_finesWithin_22 rfl rfl ?_
    rcases x_if h with ⟨c1, h⟩ | ⟨c1, h⟩
    · refine x_icmp_ge_t (tgt := 36) dX8_finesWithin_23 (by decide) c1 ?_
      refine x_aload_n 0 dX8_finesWithin_36 rfl rfl ?_
      obtain ⟨r3, q2, h⟩ := x_bd1 h
      refine x_cv (b := p_0) (As := []) (ci := 8) (d' := 3) (zz := yX8_finesPaid) dX8_finesWithin_37 ml_X8_308 wi_X8_finesPaid wv_X8_finesPaid wn_X8 wc_X8_finesPaid hp_X8_finesPaid (by decide) (by decide) rfl (Nat.le_of_ble_eq_true rfl) ⟨Nat.zero_le _, Nat.zero_le _⟩ rfl kk0 (T_X8_finesPaid (G := G) hw kk0 q2) ?_
      refine x_iload_n 2 dX8_finesWithin_40 rfl rfl ?_
      refine x_isub dX8_finesWithin_41 ?_
      refine x_istore_n [1, 0] dX8_finesWithin_42 rfl (by decide) rfl ?_
      refine x_aload_n 0 dX8_finesWithin_43 rfl rfl ?_
      obtain ⟨g4, k5, n6⟩ := wt_X8_11 hw kk0
      refine x_getr dX8_finesWithin_44 (ci := 8) (f := 11) (M := 19) (C9 := RX8) (T9 := TX8) rfl xin8 (by decide) fl_X8_26 rfl kk0 g4 ?_
      refine x_aload_n 0 dX8_finesWithin_47 rfl rfl ?_
      obtain ⟨g7, k8, n9⟩ := wt_X8_8 hw kk0
      refine x_getr dX8_finesWithin_48 (ci := 8) (f := 8) (M := 19) (C9 := RX8) (T9 := TX8) rfl xin8 (by decide) fl_X8_17 rfl kk0 g7 ?_
      refine x_sipush (v := 584) dX8_finesWithin_51 rfl ?_
      obtain ⟨N11, q10, h⟩ := x_bd1 h
      refine x_cs (As := [.ref (gp Y p_0 11), .ref (gp Y p_0 8), .int 584]) (d' := 1) (zz := yX8_copy) dX8_finesWithin_54 ml_X8_193 wt_X8_copy wn_X8 wc_X8_copy hp_X8_copy (by decide) (by decide) rfl (Nat.le_of_ble_eq_true rfl) ⟨Nat.zero_le _, Nat.zero_le _⟩ (T_X8_copy (G := G) hw k5 k8 q10) ?_
      refine x_iload_n 1 dX8_finesWithin_57 rfl rfl ?_
      obtain ⟨rfl, rfl⟩ := Prod.mk.inj (x_so h)
      exact x_iret dX8_finesWithin_58 rfl rfl rfl
    · refine x_icmp_ge_f (tgt := 36) dX8_finesWithin_23 (by decide) c1 ?_
      refine x_aload_n 0 dX8_finesWithin_26 rfl rfl ?_
      obtain ⟨N13, q12, h⟩ := x_bd1 h
      refine x_cv (b := p_0) (As := []) (ci := 8) (d' := 9) (zz := yX8_tick) dX8_finesWithin_27 ml_X8_305 wi_X8_tick wv_X8_tick wn_X8 wc_X8_tick hp_X8_tick (by decide) (by decide) rfl (Nat.le_of_ble_eq_true rfl) ⟨Nat.zero_le _, Nat.zero_le _⟩ rfl kk0 (T_X8_tick (G := G) hw kk0 q12) ?_
      refine x_iinc 3 [1, 2, 3, 0] dX8_finesWithin_30 rfl rfl (by decide) rfl ?_
      refine x_goto (tgt := 21) dX8_finesWithin_33 (by decide) ?_
      exact ih p_0 v_1 v_2 (v_3 + 1) N13 kk0 h
set_option maxHeartbeats 4000000 in
set_option maxRecDepth 100000 in
theorem T_X8_finesWithin {G : XG} {Y : XY} (hw : WT Y) {a0 : Nat} {a1 : Int32} {N : XN} (k100 : kc Y a0 = 18) {r9 : Int32} {N9 : XN} (h : f_X8_finesWithin Y a0 a1 N = some (r9, N9)) : Cl G yX8_finesWithin cX8_finesWithin 4 (some .int) (xR 10 0 0) [.ref a0, .int a1] (.inl (some (.int r9))) Y N Y N9 := by
  refine x_entry (by decide) (Nat.le_of_ble_eq_true rfl) rfl ?_
  rw [f_X8_finesWithin] at h
  refine x_aload_n 0 dX8_finesWithin_0 rfl rfl ?_
  obtain ⟨g1, k2, n3⟩ := wt_X8_8 hw k100
  refine x_getr dX8_finesWithin_1 (ci := 8) (f := 8) (M := 19) (C9 := RX8) (T9 := TX8) rfl xin8 (by decide) fl_X8_17 rfl k100 g1 ?_
  refine x_aload_n 0 dX8_finesWithin_4 rfl rfl ?_
  obtain ⟨g4, k5, n6⟩ := wt_X8_11 hw k100
  refine x_getr dX8_finesWithin_5 (ci := 8) (f := 11) (M := 19) (C9 := RX8) (T9 := TX8) rfl xin8 (by decide) fl_X8_26 rfl k100 g4 ?_
  refine x_sipush (v := 584) dX8_finesWithin_8 rfl ?_
  obtain ⟨N8, q7, h⟩ := x_bd1 h
  refine x_cs (As := [.ref (gp Y a0 8), .ref (gp Y a0 11), .int 584]) (d' := 1) (zz := yX8_copy) dX8_finesWithin_11 ml_X8_193 wt_X8_copy wn_X8 wc_X8_copy hp_X8_copy (by decide) (by decide) rfl (Nat.le_of_ble_eq_true rfl) ⟨Nat.zero_le _, Nat.zero_le _⟩ (T_X8_copy (G := G) hw k2 k5 q7) ?_
  refine x_aload_n 0 dX8_finesWithin_14 rfl rfl ?_
  obtain ⟨r10, q9, h⟩ := x_bd1 h
  refine x_cv (b := a0) (As := []) (ci := 8) (d' := 3) (zz := yX8_finesPaid) dX8_finesWithin_15 ml_X8_308 wi_X8_finesPaid wv_X8_finesPaid wn_X8 wc_X8_finesPaid hp_X8_finesPaid (by decide) (by decide) rfl (Nat.le_of_ble_eq_true rfl) ⟨Nat.zero_le _, Nat.zero_le _⟩ rfl k100 (T_X8_finesPaid (G := G) hw k100 q9) ?_
  refine x_istore_n [1, 2, 0] dX8_finesWithin_18 rfl (by decide) rfl ?_
  refine x_iconst (v := 0) dX8_finesWithin_19 rfl ?_
  refine x_istore_n [1, 2, 3, 0] dX8_finesWithin_20 rfl (by decide) rfl ?_
  exact T_X8_finesWithin_21 (G := G) hw FU a0 a1 r10 0 N8 k100 h
set_option maxHeartbeats 4000000 in
set_option maxRecDepth 100000 in
theorem T_X8_finesIn {G : XG} {Y : XY} (hw : WT Y) {a0 : Nat} {a1 : Int32} {N : XN} (k100 : kc Y a0 = 18) {r9 : Int32} {N9 : XN} (h : f_X8_finesIn Y a0 a1 N = some (r9, N9)) : Cl G yX8_finesIn cX8_finesIn 2 (some .int) (xR 11 0 0) [.ref a0, .int a1] (.inl (some (.int r9))) Y N Y N9 := by
  refine x_entry (by decide) (Nat.le_of_ble_eq_true rfl) rfl ?_
  rw [f_X8_finesIn] at h
  refine x_aload_n 0 dX8_finesIn_0 rfl rfl ?_
  refine x_iconst (v := 0) dX8_finesIn_1 rfl ?_
  refine x_puti dX8_finesIn_2 (ci := 8) (f := 0) (M := 19) (C9 := RX8) (T9 := TX8) rfl xin8 tyX8_ok nmX8 (by decide) fl_X8_45 rfl rfl rfl rfl k100 ?_
  obtain ⟨N1, eN1, h⟩ := x_lt h
  refine x_nmN eN1 ?_
  refine x_aload_n 0 dX8_finesIn_5 rfl rfl ?_
  refine x_iload_n 1 dX8_finesIn_6 rfl rfl ?_
  refine x_iconst (v := 0) dX8_finesIn_7 rfl ?_
  refine x_sipush (v := 1100) dX8_finesIn_8 rfl ?_
  refine x_cs (As := [.int a1, .int 0, .int 1100]) (d' := 1) (zz := yX8_in) dX8_finesIn_11 ml_X8_67 wt_X8_in wn_X8 wc_X8_in hp_X8_in (by decide) (by decide) rfl (Nat.le_of_ble_eq_true rfl) ⟨Nat.zero_le _, Nat.zero_le _⟩ (T_X8_in (G := G) hw  rfl) ?_
  rcases x_if h with ⟨c2, h⟩ | ⟨c2, h⟩
  · refine x_if_ne_f (tgt := 21) dX8_finesIn_14 (by decide) c2 ?_
    refine x_iconst (v := 1) dX8_finesIn_17 rfl ?_
    refine x_goto (tgt := 22) dX8_finesIn_18 (by decide) ?_
    refine x_iconst (v := 1) dX8_finesIn_22 rfl ?_
    obtain ⟨r4, N5, q3, h⟩ := x_bd2 h
    refine x_cv (b := a0) (As := [.int 1, .int 1]) (ci := 8) (d' := 1) (zz := yX8_fails) dX8_finesIn_23 ml_X8_181 wi_X8_fails wv_X8_fails wn_X8 wc_X8_fails hp_X8_fails (by decide) (by decide) rfl (Nat.le_of_ble_eq_true rfl) ⟨Nat.zero_le _, Nat.zero_le _⟩ rfl k100 (T_X8_fails (G := G) hw k100 q3) ?_
    rcases x_if h with ⟨c6, h⟩ | ⟨c6, h⟩
    · refine x_if_eq_t (tgt := 33) dX8_finesIn_26 (by decide) c6 ?_
      refine x_aload_n 0 dX8_finesIn_33 rfl rfl ?_
      refine x_iload_n 1 dX8_finesIn_34 rfl rfl ?_
      obtain ⟨r8, N9, q7, h⟩ := x_bd2 h
      refine x_cv (b := a0) (As := [.int a1]) (ci := 8) (d' := 10) (zz := yX8_finesWithin) dX8_finesIn_35 ml_X8_311 wi_X8_finesWithin wv_X8_finesWithin wn_X8 wc_X8_finesWithin hp_X8_finesWithin (by decide) (by decide) rfl (Nat.le_of_ble_eq_true rfl) ⟨Nat.zero_le _, Nat.zero_le _⟩ rfl k100 (T_X8_finesWithin (G := G) hw k100 q7) ?_
      obtain ⟨rfl, rfl⟩ := Prod.mk.inj (x_so h)
      exact x_iret dX8_finesIn_38 rfl rfl rfl
    · refine x_if_eq_f (tgt := 33) dX8_finesIn_26 (by decide) c6 ?_
      refine x_iconst (v := 0) dX8_finesIn_29 rfl ?_
      refine x_goto (tgt := 38) dX8_finesIn_30 (by decide) ?_
      obtain ⟨rfl, rfl⟩ := Prod.mk.inj (x_so h)
      exact x_iret dX8_finesIn_38 rfl rfl rfl
  · refine x_if_ne_t (tgt := 21) dX8_finesIn_14 (by decide) c2 ?_
    refine x_iconst (v := 0) dX8_finesIn_21 rfl ?_
    refine x_iconst (v := 1) dX8_finesIn_22 rfl ?_
    obtain ⟨r11, N12, q10, h⟩ := x_bd2 h
    refine x_cv (b := a0) (As := [.int 0, .int 1]) (ci := 8) (d' := 1) (zz := yX8_fails) dX8_finesIn_23 ml_X8_181 wi_X8_fails wv_X8_fails wn_X8 wc_X8_fails hp_X8_fails (by decide) (by decide) rfl (Nat.le_of_ble_eq_true rfl) ⟨Nat.zero_le _, Nat.zero_le _⟩ rfl k100 (T_X8_fails (G := G) hw k100 q10) ?_
    rcases x_if h with ⟨c13, h⟩ | ⟨c13, h⟩
    · refine x_if_eq_t (tgt := 33) dX8_finesIn_26 (by decide) c13 ?_
      refine x_aload_n 0 dX8_finesIn_33 rfl rfl ?_
      refine x_iload_n 1 dX8_finesIn_34 rfl rfl ?_
      obtain ⟨r15, N16, q14, h⟩ := x_bd2 h
      refine x_cv (b := a0) (As := [.int a1]) (ci := 8) (d' := 10) (zz := yX8_finesWithin) dX8_finesIn_35 ml_X8_311 wi_X8_finesWithin wv_X8_finesWithin wn_X8 wc_X8_finesWithin hp_X8_finesWithin (by decide) (by decide) rfl (Nat.le_of_ble_eq_true rfl) ⟨Nat.zero_le _, Nat.zero_le _⟩ rfl k100 (T_X8_finesWithin (G := G) hw k100 q14) ?_
      obtain ⟨rfl, rfl⟩ := Prod.mk.inj (x_so h)
      exact x_iret dX8_finesIn_38 rfl rfl rfl
    · refine x_if_eq_f (tgt := 33) dX8_finesIn_26 (by decide) c13 ?_
      refine x_iconst (v := 0) dX8_finesIn_29 rfl ?_
      refine x_goto (tgt := 38) dX8_finesIn_30 (by decide) ?_
      obtain ⟨rfl, rfl⟩ := Prod.mk.inj (x_so h)
      exact x_iret dX8_finesIn_38 rfl rfl rfl
set_option maxHeartbeats 4000000 in
set_option maxRecDepth 100000 in
theorem T_X8_mayLease {G : XG} {Y : XY} (hw : WT Y) {a0 : Nat} {a1 : Int32} {a2 : Int32} {N : XN} (k100 : kc Y a0 = 18) {r9 : Int32} (h : f_X8_mayLease Y a0 a1 a2 N = some r9) : Cl G yX8_mayLease cX8_mayLease 3 (some .boolean) (xR 3 0 0) [.ref a0, .int a1, .int a2] (.inl (some (.int r9))) Y N Y N := by
  refine x_entry (by decide) (Nat.le_of_ble_eq_true rfl) rfl ?_
  rw [f_X8_mayLease] at h
  refine x_aload_n 0 dX8_mayLease_0 rfl rfl ?_
  refine x_iload_n 1 dX8_mayLease_1 rfl rfl ?_
  refine x_iconst (v := 2) dX8_mayLease_2 rfl ?_
  obtain ⟨r2, q1, h⟩ := x_bd1 h
  refine x_cv (b := a0) (As := [.int a1, .int 2]) (ci := 8) (d' := 2) (zz := yX8_ofHandler) dX8_mayLease_3 ml_X8_245 wi_X8_ofHandler wv_X8_ofHandler wn_X8 wc_X8_ofHandler hp_X8_ofHandler (by decide) (by decide) rfl (Nat.le_of_ble_eq_true rfl) ⟨Nat.zero_le _, Nat.zero_le _⟩ rfl k100 (T_X8_ofHandler (G := G) hw k100 q1) ?_
  rcases x_if h with ⟨c3, h⟩ | ⟨c3, h⟩
  · refine x_if_ne_f (tgt := 32) dX8_mayLease_6 (by decide) c3 ?_
    refine x_aload_n 0 dX8_mayLease_9 rfl rfl ?_
    refine x_iload_n 1 dX8_mayLease_10 rfl rfl ?_
    refine x_iload_n 2 dX8_mayLease_11 rfl rfl ?_
    obtain ⟨r5, q4, h⟩ := x_bd1 h
    refine x_cv (b := a0) (As := [.int a1, .int a2]) (ci := 8) (d' := 2) (zz := yX8_isTenant) dX8_mayLease_12 ml_X8_258 wi_X8_isTenant wv_X8_isTenant wn_X8 wc_X8_isTenant hp_X8_isTenant (by decide) (by decide) rfl (Nat.le_of_ble_eq_true rfl) ⟨Nat.zero_le _, Nat.zero_le _⟩ rfl k100 (T_X8_isTenant (G := G) hw k100 q4) ?_
    rcases x_if h with ⟨c6, h⟩ | ⟨c6, h⟩
    · refine x_if_ne_f (tgt := 32) dX8_mayLease_15 (by decide) c6 ?_
      refine x_aload_n 0 dX8_mayLease_18 rfl rfl ?_
      refine x_iload_n 2 dX8_mayLease_19 rfl rfl ?_
      refine x_iconst (v := 3) dX8_mayLease_20 rfl ?_
      obtain ⟨r8, q7, h⟩ := x_bd1 h
      refine x_cv (b := a0) (As := [.int a2, .int 3]) (ci := 8) (d' := 2) (zz := yX8_ofLine) dX8_mayLease_21 ml_X8_222 wi_X8_ofLine wv_X8_ofLine wn_X8 wc_X8_ofLine hp_X8_ofLine (by decide) (by decide) rfl (Nat.le_of_ble_eq_true rfl) ⟨Nat.zero_le _, Nat.zero_le _⟩ rfl k100 (T_X8_ofLine (G := G) hw k100 q7) ?_
      refine x_iconst (v := 3) dX8_mayLease_24 rfl ?_
      rcases x_if h with ⟨c9, h⟩ | ⟨c9, h⟩
      · refine x_icmp_ge_t (tgt := 32) dX8_mayLease_25 (by decide) c9 ?_
        refine x_iconst (v := 0) dX8_mayLease_32 rfl ?_
        obtain rfl := x_so h
        exact x_zret dX8_mayLease_33 rfl (by decide) rfl rfl
      · refine x_icmp_ge_f (tgt := 32) dX8_mayLease_25 (by decide) c9 ?_
        refine x_iconst (v := 1) dX8_mayLease_28 rfl ?_
        refine x_goto (tgt := 33) dX8_mayLease_29 (by decide) ?_
        obtain rfl := x_so h
        exact x_zret dX8_mayLease_33 rfl (by decide) rfl rfl
    · refine x_if_ne_t (tgt := 32) dX8_mayLease_15 (by decide) c6 ?_
      refine x_iconst (v := 0) dX8_mayLease_32 rfl ?_
      obtain rfl := x_so h
      exact x_zret dX8_mayLease_33 rfl (by decide) rfl rfl
  · refine x_if_ne_t (tgt := 32) dX8_mayLease_6 (by decide) c3 ?_
    refine x_iconst (v := 0) dX8_mayLease_32 rfl ?_
    obtain rfl := x_so h
    exact x_zret dX8_mayLease_33 rfl (by decide) rfl rfl
set_option maxHeartbeats 4000000 in
set_option maxRecDepth 100000 in
theorem T_X8_leaseNow_41 {G : XG} {Y : XY} (hw : WT Y) {r9 : Int32} {N9 : XN}: ∀ (D9 : Nat) (p_0 : Nat) (v_2 : Int32) (v_4 : Int32) (v_5 : Int32) (N : XN), kc Y p_0 = 18 → f_X8_leaseNow_41 Y D9 p_0 v_2 v_4 v_5 N = some (r9, N9) → Ex G yX8_leaseNow cX8_leaseNow 6 (some .int) (xR 7 0 0) (.inl (some (.int r9))) Y N9 0 0 41 [(0, .ref p_0), (2, .int v_2), (4, .int v_4), (5, .int v_5)] [] Y N := by
  intro D9
  induction D9 with
  | zero => intro p_0 v_2 v_4 v_5 N kk0 h; exact nomatch (show none = some (r9, N9) from h)
  | succ D9 ih =>
    intro p_0 v_2 v_4 v_5 N kk0 h
    rw [f_X8_leaseNow_41] at h
    refine x_iload 3 dX8_leaseNow_41 rfl ?_
    refine x_aload_n 0 dX8_leaseNow_43 rfl rfl ?_
    obtain ⟨g1, k2, n3⟩ := wt_X8_8 hw kk0
    refine x_getr dX8_leaseNow_44 (ci := 8) (f := 8) (M := 19) (C9 := RX8) (T9 := TX8) rfl xin8 (by decide) fl_X8_17 rfl kk0 g1 ?_
    refine x_iconst (v := 3) dX8_leaseNow_47 rfl ?_
    refine x_iald dX8_leaseNow_48 k2 (xb_at n3 (by decide)) rfl ?_
    rcases x_if h with ⟨c4, h⟩ | ⟨c4, h⟩
    · refine x_icmp_ge_t (tgt := 101) dX8_leaseNow_49 (by decide) c4 ?_
      refine x_iload 2 dX8_leaseNow_101 rfl ?_
      obtain ⟨rfl, rfl⟩ := Prod.mk.inj (x_so h)
      exact x_iret dX8_leaseNow_103 rfl rfl rfl
    · refine x_icmp_ge_f (tgt := 101) dX8_leaseNow_49 (by decide) c4 ?_
      refine x_aload_n 0 dX8_leaseNow_52 rfl rfl ?_
      refine x_iload 3 dX8_leaseNow_53 rfl ?_
      obtain ⟨r6, q5, h⟩ := x_bd1 h
      refine x_cv (b := p_0) (As := [.int v_5]) (ci := 8) (d' := 3) (zz := yX8_isOpen) dX8_leaseNow_55 ml_X8_209 wi_X8_isOpen wv_X8_isOpen wn_X8 wc_X8_isOpen hp_X8_isOpen (by decide) (by decide) rfl (Nat.le_of_ble_eq_true rfl) ⟨Nat.zero_le _, Nat.zero_le _⟩ rfl kk0 (T_X8_isOpen (G := G) hw kk0 q5) ?_
      rcases x_if h with ⟨c7, h⟩ | ⟨c7, h⟩
      · refine x_if_eq_t (tgt := 95) dX8_leaseNow_58 (by decide) c7 ?_
        refine x_iinc 3 [1, 2, 3, 0] dX8_leaseNow_95 rfl rfl (by decide) rfl ?_
        refine x_goto (tgt := 41) dX8_leaseNow_98 (by decide) ?_
        exact ih p_0 v_2 v_4 (v_5 + 1) N kk0 h
      · refine x_if_eq_f (tgt := 95) dX8_leaseNow_58 (by decide) c7 ?_
        refine x_aload_n 0 dX8_leaseNow_61 rfl rfl ?_
        refine x_iload 3 dX8_leaseNow_62 rfl ?_
        refine x_iconst (v := 0) dX8_leaseNow_64 rfl ?_
        obtain ⟨r9, q8, h⟩ := x_bd1 h
        refine x_cv (b := p_0) (As := [.int v_5, .int 0]) (ci := 8) (d' := 2) (zz := yX8_ofRequest) dX8_leaseNow_65 ml_X8_206 wi_X8_ofRequest wv_X8_ofRequest wn_X8 wc_X8_ofRequest hp_X8_ofRequest (by decide) (by decide) rfl (Nat.le_of_ble_eq_true rfl) ⟨Nat.zero_le _, Nat.zero_le _⟩ rfl kk0 (T_X8_ofRequest (G := G) hw kk0 q8) ?_
        refine x_iload_n 1 dX8_leaseNow_68 rfl rfl ?_
        rcases x_if h with ⟨c10, h⟩ | ⟨c10, h⟩
        · refine x_icmp_ne_f (tgt := 95) dX8_leaseNow_69 (by decide) c10 ?_
          refine x_aload_n 0 dX8_leaseNow_72 rfl rfl ?_
          refine x_iload 3 dX8_leaseNow_73 rfl ?_
          refine x_iconst (v := 4) dX8_leaseNow_75 rfl ?_
          obtain ⟨r12, q11, h⟩ := x_bd1 h
          refine x_cv (b := p_0) (As := [.int v_5, .int 4]) (ci := 8) (d' := 2) (zz := yX8_ofRequest) dX8_leaseNow_76 ml_X8_206 wi_X8_ofRequest wv_X8_ofRequest wn_X8 wc_X8_ofRequest hp_X8_ofRequest (by decide) (by decide) rfl (Nat.le_of_ble_eq_true rfl) ⟨Nat.zero_le _, Nat.zero_le _⟩ rfl kk0 (T_X8_ofRequest (G := G) hw kk0 q11) ?_
          refine x_iconst (v := (-1)) dX8_leaseNow_79 rfl ?_
          rcases x_if h with ⟨c13, h⟩ | ⟨c13, h⟩
          · refine x_icmp_eq_t (tgt := 86) dX8_leaseNow_80 (by decide) c13 ?_
            refine x_aload_n 0 dX8_leaseNow_86 rfl rfl ?_
            refine x_iload 3 dX8_leaseNow_87 rfl ?_
            obtain ⟨N15, q14, h⟩ := x_bd1 h
            refine x_cv (b := p_0) (As := [.int v_5]) (ci := 8) (d' := 6) (zz := yX8_assign) dX8_leaseNow_89 ml_X8_225 wi_X8_assign wv_X8_assign wn_X8 wc_X8_assign hp_X8_assign (by decide) (by decide) rfl (Nat.le_of_ble_eq_true rfl) ⟨Nat.zero_le _, Nat.zero_le _⟩ rfl kk0 (T_X8_assign (G := G) hw kk0 q14) ?_
            refine x_iinc 2 [1, 2, 0, 3] dX8_leaseNow_92 rfl rfl (by decide) rfl ?_
            refine x_iinc 3 [1, 2, 3, 0] dX8_leaseNow_95 rfl rfl (by decide) rfl ?_
            refine x_goto (tgt := 41) dX8_leaseNow_98 (by decide) ?_
            exact ih p_0 v_2 (v_4 + 1) (v_5 + 1) N15 kk0 h
          · refine x_icmp_eq_f (tgt := 86) dX8_leaseNow_80 (by decide) c13 ?_
            refine x_goto (tgt := 95) dX8_leaseNow_83 (by decide) ?_
            refine x_iinc 3 [1, 2, 3, 0] dX8_leaseNow_95 rfl rfl (by decide) rfl ?_
            refine x_goto (tgt := 41) dX8_leaseNow_98 (by decide) ?_
            exact ih p_0 v_2 v_4 (v_5 + 1) N kk0 h
        · refine x_icmp_ne_t (tgt := 95) dX8_leaseNow_69 (by decide) c10 ?_
          refine x_iinc 3 [1, 2, 3, 0] dX8_leaseNow_95 rfl rfl (by decide) rfl ?_
          refine x_goto (tgt := 41) dX8_leaseNow_98 (by decide) ?_
          exact ih p_0 v_2 v_4 (v_5 + 1) N kk0 h
set_option maxHeartbeats 4000000 in
set_option maxRecDepth 100000 in
theorem T_X8_leaseNow {G : XG} {Y : XY} (hw : WT Y) {a0 : Nat} {a1 : Int32} {a2 : Int32} {N : XN} (k100 : kc Y a0 = 18) {r9 : Int32} {N9 : XN} (h : f_X8_leaseNow Y a0 a1 a2 N = some (r9, N9)) : Cl G yX8_leaseNow cX8_leaseNow 6 (some .int) (xR 7 0 0) [.ref a0, .int a1, .int a2] (.inl (some (.int r9))) Y N Y N9 := by
  refine x_entry (by decide) (Nat.le_of_ble_eq_true rfl) rfl ?_
  rw [f_X8_leaseNow] at h
  refine x_iload_n 2 dX8_leaseNow_0 rfl rfl ?_
  refine x_cs (As := [.int a2]) (d' := 1) (zz := yX8_lineAt) dX8_leaseNow_1 ml_X8_200 wt_X8_lineAt wn_X8 wc_X8_lineAt hp_X8_lineAt (by decide) (by decide) rfl (Nat.le_of_ble_eq_true rfl) ⟨Nat.zero_le _, Nat.zero_le _⟩ (T_X8_lineAt (G := G) hw  rfl) ?_
  refine x_istore_n [1, 2, 3, 0] dX8_leaseNow_4 rfl (by decide) rfl ?_
  refine x_iconst (v := 0) dX8_leaseNow_5 rfl ?_
  refine x_istore [1, 2, 3, 4, 0] dX8_leaseNow_6 (by decide) rfl ?_
  refine x_aload_n 0 dX8_leaseNow_8 rfl rfl ?_
  obtain ⟨g1, k2, n3⟩ := wt_X8_8 hw k100
  refine x_getr dX8_leaseNow_9 (ci := 8) (f := 8) (M := 19) (C9 := RX8) (T9 := TX8) rfl xin8 (by decide) fl_X8_17 rfl k100 g1 ?_
  refine x_iload_n 3 dX8_leaseNow_12 rfl rfl ?_
  refine x_iconst (v := 4) dX8_leaseNow_13 rfl ?_
  refine x_iadd dX8_leaseNow_14 ?_
  refine x_aload_n 0 dX8_leaseNow_15 rfl rfl ?_
  refine x_getr dX8_leaseNow_16 (ci := 8) (f := 8) (M := 19) (C9 := RX8) (T9 := TX8) rfl xin8 (by decide) fl_X8_17 rfl k100 g1 ?_
  refine x_iload_n 3 dX8_leaseNow_19 rfl rfl ?_
  refine x_iconst (v := 3) dX8_leaseNow_20 rfl ?_
  refine x_iadd dX8_leaseNow_21 ?_
  obtain ⟨c4, h⟩ := x_ck h
  refine x_iald dX8_leaseNow_22 k2 (xb_at n3 c4) rfl ?_
  refine x_iadd dX8_leaseNow_23 ?_
  refine x_iload_n 1 dX8_leaseNow_24 rfl rfl ?_
  obtain ⟨c5, h⟩ := x_ck h
  refine x_iast dX8_leaseNow_25 k2 (xb_at n3 c5) rfl ?_
  obtain ⟨N6, eN6, h⟩ := x_lt h
  refine x_nmN eN6 ?_
  refine x_aload_n 0 dX8_leaseNow_26 rfl rfl ?_
  refine x_getr dX8_leaseNow_27 (ci := 8) (f := 8) (M := 19) (C9 := RX8) (T9 := TX8) rfl xin8 (by decide) fl_X8_17 rfl k100 g1 ?_
  refine x_iload_n 3 dX8_leaseNow_30 rfl rfl ?_
  refine x_iconst (v := 3) dX8_leaseNow_31 rfl ?_
  refine x_iadd dX8_leaseNow_32 ?_
  refine x_dup2 dX8_leaseNow_33 rfl rfl ?_
  obtain ⟨c7, h⟩ := x_ck h
  refine x_iald dX8_leaseNow_34 k2 (xb_at n3 c7) rfl ?_
  refine x_iconst (v := 1) dX8_leaseNow_35 rfl ?_
  refine x_iadd dX8_leaseNow_36 ?_
  obtain ⟨c8, h⟩ := x_ck h
  refine x_iast dX8_leaseNow_37 k2 (xb_at n3 c8) rfl ?_
  obtain ⟨N9, eN9, h⟩ := x_lt h
  refine x_nmN eN9 ?_
  refine x_iconst (v := 0) dX8_leaseNow_38 rfl ?_
  refine x_istore [1, 3, 5, 0] dX8_leaseNow_39 (by decide) rfl ?_
  exact T_X8_leaseNow_41 (G := G) hw FU a0 a2 0 0 N9 k100 h
set_option maxHeartbeats 4000000 in
set_option maxRecDepth 100000 in
theorem T_X8_advise_27 {G : XG} {Y : XY} (hw : WT Y) {r9 : Int32} {N9 : XN}: ∀ (D9 : Nat) (p_0 : Nat) (v_1 : Int32) (v_2 : Int32) (v_3 : Int32) (v_4 : Int32) (N : XN), kc Y p_0 = 18 → f_X8_advise_27 Y D9 p_0 v_1 v_2 v_3 v_4 N = some (r9, N9) → Ex G yX8_advise cX8_advise 7 (some .int) (xR 11 0 0) (.inl (some (.int r9))) Y N9 0 0 27 [(0, .ref p_0), (1, .int v_1), (2, .int v_2), (3, .int v_3), (4, .int v_4)] [] Y N := by
  intro D9
  induction D9 with
  | zero => intro p_0 v_1 v_2 v_3 v_4 N kk0 h; exact nomatch (show none = some (r9, N9) from h)
  | succ D9 ih =>
    intro p_0 v_1 v_2 v_3 v_4 N kk0 h
    rw [f_X8_advise_27] at h
    refine x_iload 4 dX8_advise_27 rfl ?_
    refine x_aload_n 0 dX8_advise_29 rfl rfl ?_
    obtain ⟨g1, k2, n3⟩ := wt_X8_8 hw kk0
    refine x_getr dX8_advise_30 (ci := 8) (f := 8) (M := 19) (C9 := RX8) (T9 := TX8) rfl xin8 (by decide) fl_X8_17 rfl kk0 g1 ?_
    refine x_iconst (v := 1) dX8_advise_33 rfl ?_
    refine x_iald dX8_advise_34 k2 (xb_at n3 (by decide)) rfl ?_
    rcases x_if h with ⟨c4, h⟩ | ⟨c4, h⟩
    · refine x_icmp_ge_t (tgt := 117) dX8_advise_35 (by decide) c4 ?_
      refine x_iload_n 2 dX8_advise_117 rfl rfl ?_
      obtain ⟨rfl, rfl⟩ := Prod.mk.inj (x_so h)
      exact x_iret dX8_advise_118 rfl rfl rfl
    · refine x_icmp_ge_f (tgt := 117) dX8_advise_35 (by decide) c4 ?_
      refine x_aload_n 0 dX8_advise_38 rfl rfl ?_
      refine x_iload 4 dX8_advise_39 rfl ?_
      refine x_iload_n 1 dX8_advise_41 rfl rfl ?_
      obtain ⟨r6, q5, h⟩ := x_bd1 h
      refine x_cv (b := p_0) (As := [.int v_4, .int v_1]) (ci := 8) (d' := 3) (zz := yX8_mayLease) dX8_advise_42 ml_X8_314 wi_X8_mayLease wv_X8_mayLease wn_X8 wc_X8_mayLease hp_X8_mayLease (by decide) (by decide) rfl (Nat.le_of_ble_eq_true rfl) ⟨Nat.zero_le _, Nat.zero_le _⟩ rfl kk0 (T_X8_mayLease (G := G) hw kk0 q5) ?_
      rcases x_if h with ⟨c7, h⟩ | ⟨c7, h⟩
      · refine x_if_ne_f (tgt := 51) dX8_advise_45 (by decide) c7 ?_
        refine x_goto (tgt := 111) dX8_advise_48 (by decide) ?_
        refine x_iinc 4 [1, 2, 3, 4, 0] dX8_advise_111 rfl rfl (by decide) rfl ?_
        refine x_goto (tgt := 27) dX8_advise_114 (by decide) ?_
        exact ih p_0 v_1 v_2 v_3 (v_4 + 1) N kk0 h
      · refine x_if_ne_t (tgt := 51) dX8_advise_45 (by decide) c7 ?_
        refine x_aload_n 0 dX8_advise_51 rfl rfl ?_
        refine x_getr dX8_advise_52 (ci := 8) (f := 8) (M := 19) (C9 := RX8) (T9 := TX8) rfl xin8 (by decide) fl_X8_17 rfl kk0 g1 ?_
        refine x_aload_n 0 dX8_advise_55 rfl rfl ?_
        obtain ⟨g8, k9, n10⟩ := wt_X8_10 hw kk0
        refine x_getr dX8_advise_56 (ci := 8) (f := 10) (M := 19) (C9 := RX8) (T9 := TX8) rfl xin8 (by decide) fl_X8_23 rfl kk0 g8 ?_
        refine x_sipush (v := 584) dX8_advise_59 rfl ?_
        obtain ⟨N12, q11, h⟩ := x_bd1 h
        refine x_cs (As := [.ref (gp Y p_0 8), .ref (gp Y p_0 10), .int 584]) (d' := 1) (zz := yX8_copy) dX8_advise_62 ml_X8_193 wt_X8_copy wn_X8 wc_X8_copy hp_X8_copy (by decide) (by decide) rfl (Nat.le_of_ble_eq_true rfl) ⟨Nat.zero_le _, Nat.zero_le _⟩ (T_X8_copy (G := G) hw k2 k9 q11) ?_
        refine x_aload_n 0 dX8_advise_65 rfl rfl ?_
        refine x_iload 4 dX8_advise_66 rfl ?_
        refine x_iload_n 1 dX8_advise_68 rfl rfl ?_
        obtain ⟨r14, N15, q13, h⟩ := x_bd2 h
        refine x_cv (b := p_0) (As := [.int v_4, .int v_1]) (ci := 8) (d' := 7) (zz := yX8_leaseNow) dX8_advise_69 ml_X8_317 wi_X8_leaseNow wv_X8_leaseNow wn_X8 wc_X8_leaseNow hp_X8_leaseNow (by decide) (by decide) rfl (Nat.le_of_ble_eq_true rfl) ⟨Nat.zero_le _, Nat.zero_le _⟩ rfl kk0 (T_X8_leaseNow (G := G) hw kk0 q13) ?_
        refine x_istore [1, 2, 3, 4, 5] dX8_advise_72 (by decide) rfl ?_
        refine x_aload_n 0 dX8_advise_74 rfl rfl ?_
        refine x_bipush (v := 100) dX8_advise_75 rfl ?_
        obtain ⟨r17, N18, q16, h⟩ := x_bd2 h
        refine x_cv (b := p_0) (As := [.int 100]) (ci := 8) (d' := 10) (zz := yX8_finesWithin) dX8_advise_77 ml_X8_311 wi_X8_finesWithin wv_X8_finesWithin wn_X8 wc_X8_finesWithin hp_X8_finesWithin (by decide) (by decide) rfl (Nat.le_of_ble_eq_true rfl) ⟨Nat.zero_le _, Nat.zero_le _⟩ rfl kk0 (T_X8_finesWithin (G := G) hw kk0 q16) ?_
        refine x_istore [1, 2, 3, 4, 5, 0] dX8_advise_80 (by decide) rfl ?_
        refine x_aload_n 0 dX8_advise_82 rfl rfl ?_
        refine x_getr dX8_advise_83 (ci := 8) (f := 10) (M := 19) (C9 := RX8) (T9 := TX8) rfl xin8 (by decide) fl_X8_23 rfl kk0 g8 ?_
        refine x_aload_n 0 dX8_advise_86 rfl rfl ?_
        refine x_getr dX8_advise_87 (ci := 8) (f := 8) (M := 19) (C9 := RX8) (T9 := TX8) rfl xin8 (by decide) fl_X8_17 rfl kk0 g1 ?_
        refine x_sipush (v := 584) dX8_advise_90 rfl ?_
        obtain ⟨N20, q19, h⟩ := x_bd1 h
        refine x_cs (As := [.ref (gp Y p_0 10), .ref (gp Y p_0 8), .int 584]) (d' := 1) (zz := yX8_copy) dX8_advise_93 ml_X8_193 wt_X8_copy wn_X8 wc_X8_copy hp_X8_copy (by decide) (by decide) rfl (Nat.le_of_ble_eq_true rfl) ⟨Nat.zero_le _, Nat.zero_le _⟩ (T_X8_copy (G := G) hw k9 k2 q19) ?_
        refine x_iload 5 dX8_advise_96 rfl ?_
        refine x_iload_n 3 dX8_advise_98 rfl rfl ?_
        rcases x_if h with ⟨c21, h⟩ | ⟨c21, h⟩
        · refine x_icmp_lt_t (tgt := 105) dX8_advise_99 (by decide) c21 ?_
          refine x_iload 4 dX8_advise_105 rfl ?_
          refine x_istore_n [1, 2, 0, 4, 5] dX8_advise_107 rfl (by decide) rfl ?_
          refine x_iload 4 dX8_advise_108 rfl ?_
          refine x_istore_n [1, 2, 3, 0, 4] dX8_advise_110 rfl (by decide) rfl ?_
          refine x_iinc 4 [1, 2, 3, 4, 0] dX8_advise_111 rfl rfl (by decide) rfl ?_
          refine x_goto (tgt := 27) dX8_advise_114 (by decide) ?_
          exact ih p_0 v_1 v_4 r17 (v_4 + 1) N20 kk0 h
        · refine x_icmp_lt_f (tgt := 105) dX8_advise_99 (by decide) c21 ?_
          refine x_goto (tgt := 111) dX8_advise_102 (by decide) ?_
          refine x_iinc 4 [1, 2, 3, 4, 0] dX8_advise_111 rfl rfl (by decide) rfl ?_
          refine x_goto (tgt := 27) dX8_advise_114 (by decide) ?_
          exact ih p_0 v_1 v_2 v_3 (v_4 + 1) N20 kk0 h
set_option maxHeartbeats 4000000 in
set_option maxRecDepth 100000 in
theorem T_X8_advise {G : XG} {Y : XY} (hw : WT Y) {a0 : Nat} {a1 : Int32} {N : XN} (k100 : kc Y a0 = 18) {r9 : Int32} {N9 : XN} (h : f_X8_advise Y a0 a1 N = some (r9, N9)) : Cl G yX8_advise cX8_advise 7 (some .int) (xR 11 0 0) [.ref a0, .int a1] (.inl (some (.int r9))) Y N Y N9 := by
  refine x_entry (by decide) (Nat.le_of_ble_eq_true rfl) rfl ?_
  rw [f_X8_advise] at h
  refine x_aload_n 0 dX8_advise_0 rfl rfl ?_
  refine x_iconst (v := 0) dX8_advise_1 rfl ?_
  refine x_puti dX8_advise_2 (ci := 8) (f := 0) (M := 19) (C9 := RX8) (T9 := TX8) rfl xin8 tyX8_ok nmX8 (by decide) fl_X8_45 rfl rfl rfl rfl k100 ?_
  obtain ⟨N1, eN1, h⟩ := x_lt h
  refine x_nmN eN1 ?_
  refine x_aload_n 0 dX8_advise_5 rfl rfl ?_
  refine x_iload_n 1 dX8_advise_6 rfl rfl ?_
  obtain ⟨r3, N4, q2, h⟩ := x_bd2 h
  refine x_cv (b := a0) (As := [.int a1]) (ci := 8) (d' := 2) (zz := yX8_noLine) dX8_advise_7 ml_X8_296 wi_X8_noLine wv_X8_noLine wn_X8 wc_X8_noLine hp_X8_noLine (by decide) (by decide) rfl (Nat.le_of_ble_eq_true rfl) ⟨Nat.zero_le _, Nat.zero_le _⟩ rfl k100 (T_X8_noLine (G := G) hw k100 q2) ?_
  rcases x_if h with ⟨c5, h⟩ | ⟨c5, h⟩
  · refine x_if_eq_t (tgt := 15) dX8_advise_10 (by decide) c5 ?_
    refine x_iconst (v := (-1)) dX8_advise_15 rfl ?_
    refine x_istore_n [1, 2, 0] dX8_advise_16 rfl (by decide) rfl ?_
    refine x_aload_n 0 dX8_advise_17 rfl rfl ?_
    refine x_bipush (v := 100) dX8_advise_18 rfl ?_
    obtain ⟨r7, N8, q6, h⟩ := x_bd2 h
    refine x_cv (b := a0) (As := [.int 100]) (ci := 8) (d' := 10) (zz := yX8_finesWithin) dX8_advise_20 ml_X8_311 wi_X8_finesWithin wv_X8_finesWithin wn_X8 wc_X8_finesWithin hp_X8_finesWithin (by decide) (by decide) rfl (Nat.le_of_ble_eq_true rfl) ⟨Nat.zero_le _, Nat.zero_le _⟩ rfl k100 (T_X8_finesWithin (G := G) hw k100 q6) ?_
    refine x_istore_n [1, 2, 3, 0] dX8_advise_23 rfl (by decide) rfl ?_
    refine x_iconst (v := 0) dX8_advise_24 rfl ?_
    refine x_istore [1, 2, 3, 4, 0] dX8_advise_25 (by decide) rfl ?_
    exact T_X8_advise_27 (G := G) hw FU a0 a1 (-1) r7 0 N8 k100 h
  · refine x_if_eq_f (tgt := 15) dX8_advise_10 (by decide) c5 ?_
    refine x_iconst (v := 0) dX8_advise_13 rfl ?_
    obtain ⟨rfl, rfl⟩ := Prod.mk.inj (x_so h)
    exact x_iret dX8_advise_14 rfl rfl rfl
set_option maxHeartbeats 4000000 in
set_option maxRecDepth 100000 in
theorem T_X8_pass_57 {G : XG} {Y : XY} (hw : WT Y) {r9 : Int32} {N9 : XN}: ∀ (D9 : Nat) (p_0 : Nat) (v_1 : Int32) (v_2 : Int32) (v_3 : Int32) (N : XN), kc Y p_0 = 18 → f_X8_pass_57 Y D9 p_0 v_1 v_2 v_3 N = some (r9, N9) → Ex G yX8_pass cX8_pass 4 (some .int) (xR 10 0 0) (.inl (some (.int r9))) Y N9 0 0 57 [(0, .ref p_0), (1, .int v_1), (2, .int v_2), (3, .int v_3)] [] Y N := by
  intro D9
  induction D9 with
  | zero => intro p_0 v_1 v_2 v_3 N kk0 h; exact nomatch (show none = some (r9, N9) from h)
  | succ D9 ih =>
    intro p_0 v_1 v_2 v_3 N kk0 h
    rw [f_X8_pass_57] at h
    refine x_iload_n 3 dX8_pass_57 rfl rfl ?_
    refine x_iload_n 1 dX8_pass_58 rfl rfl ?_
    rcases x_if h with ⟨c1, h⟩ | ⟨c1, h⟩
    · refine x_icmp_ge_t (tgt := 72) dX8_pass_59 (by decide) c1 ?_
      refine x_aload_n 0 dX8_pass_72 rfl rfl ?_
      refine x_iconst (v := 2) dX8_pass_73 rfl ?_
      obtain ⟨r3, q2, h⟩ := x_bd1 h
      refine x_cv (b := p_0) (As := [.int 2]) (ci := 8) (d' := 3) (zz := yX8_countOf) dX8_pass_74 ml_X8_272 wi_X8_countOf wv_X8_countOf wn_X8 wc_X8_countOf hp_X8_countOf (by decide) (by decide) rfl (Nat.le_of_ble_eq_true rfl) ⟨Nat.zero_le _, Nat.zero_le _⟩ rfl kk0 (T_X8_countOf (G := G) hw kk0 q2) ?_
      refine x_iload_n 2 dX8_pass_77 rfl rfl ?_
      refine x_isub dX8_pass_78 ?_
      obtain ⟨rfl, rfl⟩ := Prod.mk.inj (x_so h)
      exact x_iret dX8_pass_79 rfl rfl rfl
    · refine x_icmp_ge_f (tgt := 72) dX8_pass_59 (by decide) c1 ?_
      refine x_aload_n 0 dX8_pass_62 rfl rfl ?_
      obtain ⟨N5, q4, h⟩ := x_bd1 h
      refine x_cv (b := p_0) (As := []) (ci := 8) (d' := 9) (zz := yX8_tick) dX8_pass_63 ml_X8_305 wi_X8_tick wv_X8_tick wn_X8 wc_X8_tick hp_X8_tick (by decide) (by decide) rfl (Nat.le_of_ble_eq_true rfl) ⟨Nat.zero_le _, Nat.zero_le _⟩ rfl kk0 (T_X8_tick (G := G) hw kk0 q4) ?_
      refine x_iinc 3 [1, 2, 3, 0] dX8_pass_66 rfl rfl (by decide) rfl ?_
      refine x_goto (tgt := 57) dX8_pass_69 (by decide) ?_
      exact ih p_0 v_1 v_2 (v_3 + 1) N5 kk0 h
set_option maxHeartbeats 4000000 in
set_option maxRecDepth 100000 in
theorem T_X8_pass {G : XG} {Y : XY} (hw : WT Y) {a0 : Nat} {a1 : Int32} {N : XN} (k100 : kc Y a0 = 18) {r9 : Int32} {N9 : XN} (h : f_X8_pass Y a0 a1 N = some (r9, N9)) : Cl G yX8_pass cX8_pass 4 (some .int) (xR 10 0 0) [.ref a0, .int a1] (.inl (some (.int r9))) Y N Y N9 := by
  refine x_entry (by decide) (Nat.le_of_ble_eq_true rfl) rfl ?_
  rw [f_X8_pass] at h
  refine x_aload_n 0 dX8_pass_0 rfl rfl ?_
  refine x_iconst (v := 0) dX8_pass_1 rfl ?_
  refine x_puti dX8_pass_2 (ci := 8) (f := 0) (M := 19) (C9 := RX8) (T9 := TX8) rfl xin8 tyX8_ok nmX8 (by decide) fl_X8_45 rfl rfl rfl rfl k100 ?_
  obtain ⟨N1, eN1, h⟩ := x_lt h
  refine x_nmN eN1 ?_
  refine x_aload_n 0 dX8_pass_5 rfl rfl ?_
  refine x_iload_n 1 dX8_pass_6 rfl rfl ?_
  refine x_iconst (v := 1) dX8_pass_7 rfl ?_
  refine x_sipush (v := 200) dX8_pass_8 rfl ?_
  refine x_cs (As := [.int a1, .int 1, .int 200]) (d' := 1) (zz := yX8_in) dX8_pass_11 ml_X8_67 wt_X8_in wn_X8 wc_X8_in hp_X8_in (by decide) (by decide) rfl (Nat.le_of_ble_eq_true rfl) ⟨Nat.zero_le _, Nat.zero_le _⟩ (T_X8_in (G := G) hw  rfl) ?_
  rcases x_if h with ⟨c2, h⟩ | ⟨c2, h⟩
  · refine x_if_eq_t (tgt := 31) dX8_pass_14 (by decide) c2 ?_
    refine x_iconst (v := 1) dX8_pass_31 rfl ?_
    refine x_goto (tgt := 36) dX8_pass_32 (by decide) ?_
    refine x_iconst (v := 1) dX8_pass_36 rfl ?_
    obtain ⟨r4, N5, q3, h⟩ := x_bd2 h
    refine x_cv (b := a0) (As := [.int 1, .int 1]) (ci := 8) (d' := 1) (zz := yX8_fails) dX8_pass_37 ml_X8_181 wi_X8_fails wv_X8_fails wn_X8 wc_X8_fails hp_X8_fails (by decide) (by decide) rfl (Nat.le_of_ble_eq_true rfl) ⟨Nat.zero_le _, Nat.zero_le _⟩ rfl k100 (T_X8_fails (G := G) hw k100 q3) ?_
    rcases x_if h with ⟨c6, h⟩ | ⟨c6, h⟩
    · refine x_if_eq_t (tgt := 45) dX8_pass_40 (by decide) c6 ?_
      refine x_aload_n 0 dX8_pass_45 rfl rfl ?_
      obtain ⟨N8, q7, h⟩ := x_bd1 h
      refine x_cv (b := a0) (As := []) (ci := 8) (d' := 2) (zz := yX8_remember) dX8_pass_46 ml_X8_190 wi_X8_remember wv_X8_remember wn_X8 wc_X8_remember hp_X8_remember (by decide) (by decide) rfl (Nat.le_of_ble_eq_true rfl) ⟨Nat.zero_le _, Nat.zero_le _⟩ rfl k100 (T_X8_remember (G := G) hw k100 q7) ?_
      refine x_aload_n 0 dX8_pass_49 rfl rfl ?_
      refine x_iconst (v := 2) dX8_pass_50 rfl ?_
      obtain ⟨r10, q9, h⟩ := x_bd1 h
      refine x_cv (b := a0) (As := [.int 2]) (ci := 8) (d' := 3) (zz := yX8_countOf) dX8_pass_51 ml_X8_272 wi_X8_countOf wv_X8_countOf wn_X8 wc_X8_countOf hp_X8_countOf (by decide) (by decide) rfl (Nat.le_of_ble_eq_true rfl) ⟨Nat.zero_le _, Nat.zero_le _⟩ rfl k100 (T_X8_countOf (G := G) hw k100 q9) ?_
      refine x_istore_n [1, 2, 0] dX8_pass_54 rfl (by decide) rfl ?_
      refine x_iconst (v := 0) dX8_pass_55 rfl ?_
      refine x_istore_n [1, 2, 3, 0] dX8_pass_56 rfl (by decide) rfl ?_
      exact T_X8_pass_57 (G := G) hw FU a0 a1 r10 0 N8 k100 h
    · refine x_if_eq_f (tgt := 45) dX8_pass_40 (by decide) c6 ?_
      refine x_iconst (v := 0) dX8_pass_43 rfl ?_
      obtain ⟨rfl, rfl⟩ := Prod.mk.inj (x_so h)
      exact x_iret dX8_pass_44 rfl rfl rfl
  · refine x_if_eq_f (tgt := 31) dX8_pass_14 (by decide) c2 ?_
    refine x_aload_n 0 dX8_pass_17 rfl rfl ?_
    obtain ⟨g11, k12, n13⟩ := wt_X8_8 hw k100
    refine x_getr dX8_pass_18 (ci := 8) (f := 8) (M := 19) (C9 := RX8) (T9 := TX8) rfl xin8 (by decide) fl_X8_17 rfl k100 g11 ?_
    refine x_iconst (v := 0) dX8_pass_21 rfl ?_
    refine x_iald dX8_pass_22 k12 (xb_at n13 (by decide)) rfl ?_
    refine x_iload_n 1 dX8_pass_23 rfl rfl ?_
    refine x_iadd dX8_pass_24 ?_
    refine x_sipush (v := 9999) dX8_pass_25 rfl ?_
    rcases x_if h with ⟨c14, h⟩ | ⟨c14, h⟩
    · refine x_icmp_le_t (tgt := 35) dX8_pass_28 (by decide) c14 ?_
      refine x_iconst (v := 0) dX8_pass_35 rfl ?_
      refine x_iconst (v := 1) dX8_pass_36 rfl ?_
      obtain ⟨r16, N17, q15, h⟩ := x_bd2 h
      refine x_cv (b := a0) (As := [.int 0, .int 1]) (ci := 8) (d' := 1) (zz := yX8_fails) dX8_pass_37 ml_X8_181 wi_X8_fails wv_X8_fails wn_X8 wc_X8_fails hp_X8_fails (by decide) (by decide) rfl (Nat.le_of_ble_eq_true rfl) ⟨Nat.zero_le _, Nat.zero_le _⟩ rfl k100 (T_X8_fails (G := G) hw k100 q15) ?_
      rcases x_if h with ⟨c18, h⟩ | ⟨c18, h⟩
      · refine x_if_eq_t (tgt := 45) dX8_pass_40 (by decide) c18 ?_
        refine x_aload_n 0 dX8_pass_45 rfl rfl ?_
        obtain ⟨N20, q19, h⟩ := x_bd1 h
        refine x_cv (b := a0) (As := []) (ci := 8) (d' := 2) (zz := yX8_remember) dX8_pass_46 ml_X8_190 wi_X8_remember wv_X8_remember wn_X8 wc_X8_remember hp_X8_remember (by decide) (by decide) rfl (Nat.le_of_ble_eq_true rfl) ⟨Nat.zero_le _, Nat.zero_le _⟩ rfl k100 (T_X8_remember (G := G) hw k100 q19) ?_
        refine x_aload_n 0 dX8_pass_49 rfl rfl ?_
        refine x_iconst (v := 2) dX8_pass_50 rfl ?_
        obtain ⟨r22, q21, h⟩ := x_bd1 h
        refine x_cv (b := a0) (As := [.int 2]) (ci := 8) (d' := 3) (zz := yX8_countOf) dX8_pass_51 ml_X8_272 wi_X8_countOf wv_X8_countOf wn_X8 wc_X8_countOf hp_X8_countOf (by decide) (by decide) rfl (Nat.le_of_ble_eq_true rfl) ⟨Nat.zero_le _, Nat.zero_le _⟩ rfl k100 (T_X8_countOf (G := G) hw k100 q21) ?_
        refine x_istore_n [1, 2, 0] dX8_pass_54 rfl (by decide) rfl ?_
        refine x_iconst (v := 0) dX8_pass_55 rfl ?_
        refine x_istore_n [1, 2, 3, 0] dX8_pass_56 rfl (by decide) rfl ?_
        exact T_X8_pass_57 (G := G) hw FU a0 a1 r22 0 N20 k100 h
      · refine x_if_eq_f (tgt := 45) dX8_pass_40 (by decide) c18 ?_
        refine x_iconst (v := 0) dX8_pass_43 rfl ?_
        obtain ⟨rfl, rfl⟩ := Prod.mk.inj (x_so h)
        exact x_iret dX8_pass_44 rfl rfl rfl
    · refine x_icmp_le_f (tgt := 35) dX8_pass_28 (by decide) c14 ?_
      refine x_iconst (v := 1) dX8_pass_31 rfl ?_
      refine x_goto (tgt := 36) dX8_pass_32 (by decide) ?_
      refine x_iconst (v := 1) dX8_pass_36 rfl ?_
      obtain ⟨r24, N25, q23, h⟩ := x_bd2 h
      refine x_cv (b := a0) (As := [.int 1, .int 1]) (ci := 8) (d' := 1) (zz := yX8_fails) dX8_pass_37 ml_X8_181 wi_X8_fails wv_X8_fails wn_X8 wc_X8_fails hp_X8_fails (by decide) (by decide) rfl (Nat.le_of_ble_eq_true rfl) ⟨Nat.zero_le _, Nat.zero_le _⟩ rfl k100 (T_X8_fails (G := G) hw k100 q23) ?_
      rcases x_if h with ⟨c26, h⟩ | ⟨c26, h⟩
      · refine x_if_eq_t (tgt := 45) dX8_pass_40 (by decide) c26 ?_
        refine x_aload_n 0 dX8_pass_45 rfl rfl ?_
        obtain ⟨N28, q27, h⟩ := x_bd1 h
        refine x_cv (b := a0) (As := []) (ci := 8) (d' := 2) (zz := yX8_remember) dX8_pass_46 ml_X8_190 wi_X8_remember wv_X8_remember wn_X8 wc_X8_remember hp_X8_remember (by decide) (by decide) rfl (Nat.le_of_ble_eq_true rfl) ⟨Nat.zero_le _, Nat.zero_le _⟩ rfl k100 (T_X8_remember (G := G) hw k100 q27) ?_
        refine x_aload_n 0 dX8_pass_49 rfl rfl ?_
        refine x_iconst (v := 2) dX8_pass_50 rfl ?_
        obtain ⟨r30, q29, h⟩ := x_bd1 h
        refine x_cv (b := a0) (As := [.int 2]) (ci := 8) (d' := 3) (zz := yX8_countOf) dX8_pass_51 ml_X8_272 wi_X8_countOf wv_X8_countOf wn_X8 wc_X8_countOf hp_X8_countOf (by decide) (by decide) rfl (Nat.le_of_ble_eq_true rfl) ⟨Nat.zero_le _, Nat.zero_le _⟩ rfl k100 (T_X8_countOf (G := G) hw k100 q29) ?_
        refine x_istore_n [1, 2, 0] dX8_pass_54 rfl (by decide) rfl ?_
        refine x_iconst (v := 0) dX8_pass_55 rfl ?_
        refine x_istore_n [1, 2, 3, 0] dX8_pass_56 rfl (by decide) rfl ?_
        exact T_X8_pass_57 (G := G) hw FU a0 a1 r30 0 N28 k100 h
      · refine x_if_eq_f (tgt := 45) dX8_pass_40 (by decide) c26 ?_
        refine x_iconst (v := 0) dX8_pass_43 rfl ?_
        obtain ⟨rfl, rfl⟩ := Prod.mk.inj (x_so h)
        exact x_iret dX8_pass_44 rfl rfl rfl
set_option maxHeartbeats 4000000 in
set_option maxRecDepth 100000 in
theorem T_X8_raise {G : XG} {Y : XY} (hw : WT Y) {a0 : Nat} {a1 : Int32} {a2 : Int32} {N : XN} (k100 : kc Y a0 = 18) {r9 : Int32} {N9 : XN} (h : f_X8_raise Y a0 a1 a2 N = some (r9, N9)) : Cl G yX8_raise cX8_raise 3 (some .int) (xR 8 0 0) [.ref a0, .int a1, .int a2] (.inl (some (.int r9))) Y N Y N9 := by
  refine x_entry (by decide) (Nat.le_of_ble_eq_true rfl) rfl ?_
  rw [f_X8_raise] at h
  refine x_aload_n 0 dX8_raise_0 rfl rfl ?_
  refine x_iconst (v := 0) dX8_raise_1 rfl ?_
  refine x_puti dX8_raise_2 (ci := 8) (f := 0) (M := 19) (C9 := RX8) (T9 := TX8) rfl xin8 tyX8_ok nmX8 (by decide) fl_X8_45 rfl rfl rfl rfl k100 ?_
  obtain ⟨N1, eN1, h⟩ := x_lt h
  refine x_nmN eN1 ?_
  refine x_aload_n 0 dX8_raise_5 rfl rfl ?_
  refine x_iload_n 1 dX8_raise_6 rfl rfl ?_
  obtain ⟨r3, N4, q2, h⟩ := x_bd2 h
  refine x_cv (b := a0) (As := [.int a1]) (ci := 8) (d' := 2) (zz := yX8_noLine) dX8_raise_7 ml_X8_296 wi_X8_noLine wv_X8_noLine wn_X8 wc_X8_noLine hp_X8_noLine (by decide) (by decide) rfl (Nat.le_of_ble_eq_true rfl) ⟨Nat.zero_le _, Nat.zero_le _⟩ rfl k100 (T_X8_noLine (G := G) hw k100 q2) ?_
  rcases x_if h with ⟨c5, h⟩ | ⟨c5, h⟩
  · refine x_if_ne_f (tgt := 48) dX8_raise_10 (by decide) c5 ?_
    refine x_aload_n 0 dX8_raise_13 rfl rfl ?_
    refine x_iload_n 2 dX8_raise_14 rfl rfl ?_
    refine x_iconst (v := 1) dX8_raise_15 rfl ?_
    refine x_bipush (v := 99) dX8_raise_16 rfl ?_
    obtain ⟨r7, N8, q6, h⟩ := x_bd2 h
    refine x_cv (b := a0) (As := [.int a2, .int 1, .int 99]) (ci := 8) (d' := 2) (zz := yX8_noNumber) dX8_raise_18 ml_X8_290 wi_X8_noNumber wv_X8_noNumber wn_X8 wc_X8_noNumber hp_X8_noNumber (by decide) (by decide) rfl (Nat.le_of_ble_eq_true rfl) ⟨Nat.zero_le _, Nat.zero_le _⟩ rfl k100 (T_X8_noNumber (G := G) hw k100 q6) ?_
    rcases x_if h with ⟨c9, h⟩ | ⟨c9, h⟩
    · refine x_if_ne_f (tgt := 48) dX8_raise_21 (by decide) c9 ?_
      refine x_aload_n 0 dX8_raise_24 rfl rfl ?_
      refine x_aload_n 0 dX8_raise_25 rfl rfl ?_
      obtain ⟨g10, k11, n12⟩ := wt_X8_8 hw k100
      refine x_getr dX8_raise_26 (ci := 8) (f := 8) (M := 19) (C9 := RX8) (T9 := TX8) rfl xin8 (by decide) fl_X8_17 rfl k100 g10 ?_
      refine x_iconst (v := 3) dX8_raise_29 rfl ?_
      refine x_iald dX8_raise_30 k11 (xb_at n12 (by decide)) rfl ?_
      refine x_bipush (v := 60) dX8_raise_31 rfl ?_
      rcases x_if h with ⟨c13, h⟩ | ⟨c13, h⟩
      · refine x_icmp_ne_f (tgt := 40) dX8_raise_33 (by decide) c13 ?_
        refine x_iconst (v := 1) dX8_raise_36 rfl ?_
        refine x_goto (tgt := 41) dX8_raise_37 (by decide) ?_
        refine x_iconst (v := 3) dX8_raise_41 rfl ?_
        obtain ⟨r15, N16, q14, h⟩ := x_bd2 h
        refine x_cv (b := a0) (As := [.int 1, .int 3]) (ci := 8) (d' := 1) (zz := yX8_fails) dX8_raise_42 ml_X8_181 wi_X8_fails wv_X8_fails wn_X8 wc_X8_fails hp_X8_fails (by decide) (by decide) rfl (Nat.le_of_ble_eq_true rfl) ⟨Nat.zero_le _, Nat.zero_le _⟩ rfl k100 (T_X8_fails (G := G) hw k100 q14) ?_
        rcases x_if h with ⟨c17, h⟩ | ⟨c17, h⟩
        · refine x_if_eq_t (tgt := 50) dX8_raise_45 (by decide) c17 ?_
          refine x_aload_n 0 dX8_raise_50 rfl rfl ?_
          obtain ⟨N19, q18, h⟩ := x_bd1 h
          refine x_cv (b := a0) (As := []) (ci := 8) (d' := 2) (zz := yX8_remember) dX8_raise_51 ml_X8_190 wi_X8_remember wv_X8_remember wn_X8 wc_X8_remember hp_X8_remember (by decide) (by decide) rfl (Nat.le_of_ble_eq_true rfl) ⟨Nat.zero_le _, Nat.zero_le _⟩ rfl k100 (T_X8_remember (G := G) hw k100 q18) ?_
          refine x_aload_n 0 dX8_raise_54 rfl rfl ?_
          refine x_getr dX8_raise_55 (ci := 8) (f := 8) (M := 19) (C9 := RX8) (T9 := TX8) rfl xin8 (by decide) fl_X8_17 rfl k100 g10 ?_
          refine x_iload_n 1 dX8_raise_58 rfl rfl ?_
          refine x_aload_n 0 dX8_raise_59 rfl rfl ?_
          refine x_getr dX8_raise_60 (ci := 8) (f := 8) (M := 19) (C9 := RX8) (T9 := TX8) rfl xin8 (by decide) fl_X8_17 rfl k100 g10 ?_
          refine x_iconst (v := 0) dX8_raise_63 rfl ?_
          refine x_iald dX8_raise_64 k11 (xb_at n12 (by decide)) rfl ?_
          refine x_iload_n 2 dX8_raise_65 rfl rfl ?_
          obtain ⟨N21, q20, h⟩ := x_bd1 h
          refine x_cs (As := [.ref (gp Y a0 8), .int a1, .int (gi N19 (gp Y a0 8) 0), .int a2]) (d' := 1) (zz := yX8_putRequest) dX8_raise_66 ml_X8_145 wt_X8_putRequest wn_X8 wc_X8_putRequest hp_X8_putRequest (by decide) (by decide) rfl (Nat.le_of_ble_eq_true rfl) ⟨Nat.zero_le _, Nat.zero_le _⟩ (T_X8_putRequest (G := G) hw k11 q20) ?_
          refine x_aload_n 0 dX8_raise_69 rfl rfl ?_
          refine x_aload_n 0 dX8_raise_70 rfl rfl ?_
          refine x_getr dX8_raise_71 (ci := 8) (f := 8) (M := 19) (C9 := RX8) (T9 := TX8) rfl xin8 (by decide) fl_X8_17 rfl k100 g10 ?_
          refine x_iconst (v := 3) dX8_raise_74 rfl ?_
          refine x_iald dX8_raise_75 k11 (xb_at n12 (by decide)) rfl ?_
          refine x_iconst (v := 1) dX8_raise_76 rfl ?_
          refine x_isub dX8_raise_77 ?_
          obtain ⟨N23, q22, h⟩ := x_bd1 h
          refine x_cv (b := a0) (As := [.int ((gi N21 (gp Y a0 8) 3) - 1)]) (ci := 8) (d' := 7) (zz := yX8_raiseNow) dX8_raise_78 ml_X8_261 wi_X8_raiseNow wv_X8_raiseNow wn_X8 wc_X8_raiseNow hp_X8_raiseNow (by decide) (by decide) rfl (Nat.le_of_ble_eq_true rfl) ⟨Nat.zero_le _, Nat.zero_le _⟩ rfl k100 (T_X8_raiseNow (G := G) hw k100 q22) ?_
          refine x_aload_n 0 dX8_raise_81 rfl rfl ?_
          refine x_getr dX8_raise_82 (ci := 8) (f := 8) (M := 19) (C9 := RX8) (T9 := TX8) rfl xin8 (by decide) fl_X8_17 rfl k100 g10 ?_
          refine x_iconst (v := 3) dX8_raise_85 rfl ?_
          refine x_iald dX8_raise_86 k11 (xb_at n12 (by decide)) rfl ?_
          refine x_iconst (v := 1) dX8_raise_87 rfl ?_
          refine x_isub dX8_raise_88 ?_
          obtain ⟨rfl, rfl⟩ := Prod.mk.inj (x_so h)
          exact x_iret dX8_raise_89 rfl rfl rfl
        · refine x_if_eq_f (tgt := 50) dX8_raise_45 (by decide) c17 ?_
          refine x_iconst (v := 0) dX8_raise_48 rfl ?_
          obtain ⟨rfl, rfl⟩ := Prod.mk.inj (x_so h)
          exact x_iret dX8_raise_49 rfl rfl rfl
      · refine x_icmp_ne_t (tgt := 40) dX8_raise_33 (by decide) c13 ?_
        refine x_iconst (v := 0) dX8_raise_40 rfl ?_
        refine x_iconst (v := 3) dX8_raise_41 rfl ?_
        obtain ⟨r25, N26, q24, h⟩ := x_bd2 h
        refine x_cv (b := a0) (As := [.int 0, .int 3]) (ci := 8) (d' := 1) (zz := yX8_fails) dX8_raise_42 ml_X8_181 wi_X8_fails wv_X8_fails wn_X8 wc_X8_fails hp_X8_fails (by decide) (by decide) rfl (Nat.le_of_ble_eq_true rfl) ⟨Nat.zero_le _, Nat.zero_le _⟩ rfl k100 (T_X8_fails (G := G) hw k100 q24) ?_
        rcases x_if h with ⟨c27, h⟩ | ⟨c27, h⟩
        · refine x_if_eq_t (tgt := 50) dX8_raise_45 (by decide) c27 ?_
          refine x_aload_n 0 dX8_raise_50 rfl rfl ?_
          obtain ⟨N29, q28, h⟩ := x_bd1 h
          refine x_cv (b := a0) (As := []) (ci := 8) (d' := 2) (zz := yX8_remember) dX8_raise_51 ml_X8_190 wi_X8_remember wv_X8_remember wn_X8 wc_X8_remember hp_X8_remember (by decide) (by decide) rfl (Nat.le_of_ble_eq_true rfl) ⟨Nat.zero_le _, Nat.zero_le _⟩ rfl k100 (T_X8_remember (G := G) hw k100 q28) ?_
          refine x_aload_n 0 dX8_raise_54 rfl rfl ?_
          refine x_getr dX8_raise_55 (ci := 8) (f := 8) (M := 19) (C9 := RX8) (T9 := TX8) rfl xin8 (by decide) fl_X8_17 rfl k100 g10 ?_
          refine x_iload_n 1 dX8_raise_58 rfl rfl ?_
          refine x_aload_n 0 dX8_raise_59 rfl rfl ?_
          refine x_getr dX8_raise_60 (ci := 8) (f := 8) (M := 19) (C9 := RX8) (T9 := TX8) rfl xin8 (by decide) fl_X8_17 rfl k100 g10 ?_
          refine x_iconst (v := 0) dX8_raise_63 rfl ?_
          refine x_iald dX8_raise_64 k11 (xb_at n12 (by decide)) rfl ?_
          refine x_iload_n 2 dX8_raise_65 rfl rfl ?_
          obtain ⟨N31, q30, h⟩ := x_bd1 h
          refine x_cs (As := [.ref (gp Y a0 8), .int a1, .int (gi N29 (gp Y a0 8) 0), .int a2]) (d' := 1) (zz := yX8_putRequest) dX8_raise_66 ml_X8_145 wt_X8_putRequest wn_X8 wc_X8_putRequest hp_X8_putRequest (by decide) (by decide) rfl (Nat.le_of_ble_eq_true rfl) ⟨Nat.zero_le _, Nat.zero_le _⟩ (T_X8_putRequest (G := G) hw k11 q30) ?_
          refine x_aload_n 0 dX8_raise_69 rfl rfl ?_
          refine x_aload_n 0 dX8_raise_70 rfl rfl ?_
          refine x_getr dX8_raise_71 (ci := 8) (f := 8) (M := 19) (C9 := RX8) (T9 := TX8) rfl xin8 (by decide) fl_X8_17 rfl k100 g10 ?_
          refine x_iconst (v := 3) dX8_raise_74 rfl ?_
          refine x_iald dX8_raise_75 k11 (xb_at n12 (by decide)) rfl ?_
          refine x_iconst (v := 1) dX8_raise_76 rfl ?_
          refine x_isub dX8_raise_77 ?_
          obtain ⟨N33, q32, h⟩ := x_bd1 h
          refine x_cv (b := a0) (As := [.int ((gi N31 (gp Y a0 8) 3) - 1)]) (ci := 8) (d' := 7) (zz := yX8_raiseNow) dX8_raise_78 ml_X8_261 wi_X8_raiseNow wv_X8_raiseNow wn_X8 wc_X8_raiseNow hp_X8_raiseNow (by decide) (by decide) rfl (Nat.le_of_ble_eq_true rfl) ⟨Nat.zero_le _, Nat.zero_le _⟩ rfl k100 (T_X8_raiseNow (G := G) hw k100 q32) ?_
          refine x_aload_n 0 dX8_raise_81 rfl rfl ?_
          refine x_getr dX8_raise_82 (ci := 8) (f := 8) (M := 19) (C9 := RX8) (T9 := TX8) rfl xin8 (by decide) fl_X8_17 rfl k100 g10 ?_
          refine x_iconst (v := 3) dX8_raise_85 rfl ?_
          refine x_iald dX8_raise_86 k11 (xb_at n12 (by decide)) rfl ?_
          refine x_iconst (v := 1) dX8_raise_87 rfl ?_
          refine x_isub dX8_raise_88 ?_
          obtain ⟨rfl, rfl⟩ := Prod.mk.inj (x_so h)
          exact x_iret dX8_raise_89 rfl rfl rfl
        · refine x_if_eq_f (tgt := 50) dX8_raise_45 (by decide) c27 ?_
          refine x_iconst (v := 0) dX8_raise_48 rfl ?_
          obtain ⟨rfl, rfl⟩ := Prod.mk.inj (x_so h)
          exact x_iret dX8_raise_49 rfl rfl rfl
    · refine x_if_ne_t (tgt := 48) dX8_raise_21 (by decide) c9 ?_
      refine x_iconst (v := 0) dX8_raise_48 rfl ?_
      obtain ⟨rfl, rfl⟩ := Prod.mk.inj (x_so h)
      exact x_iret dX8_raise_49 rfl rfl rfl
  · refine x_if_ne_t (tgt := 48) dX8_raise_10 (by decide) c5 ?_
    refine x_iconst (v := 0) dX8_raise_48 rfl ?_
    obtain ⟨rfl, rfl⟩ := Prod.mk.inj (x_so h)
    exact x_iret dX8_raise_49 rfl rfl rfl
set_option maxHeartbeats 4000000 in
set_option maxRecDepth 100000 in
theorem T_X8_lease {G : XG} {Y : XY} (hw : WT Y) {a0 : Nat} {a1 : Int32} {a2 : Int32} {N : XN} (k100 : kc Y a0 = 18) {r9 : Int32} {N9 : XN} (h : f_X8_lease Y a0 a1 a2 N = some (r9, N9)) : Cl G yX8_lease cX8_lease 3 (some .int) (xR 8 0 0) [.ref a0, .int a1, .int a2] (.inl (some (.int r9))) Y N Y N9 := by
  refine x_entry (by decide) (Nat.le_of_ble_eq_true rfl) rfl ?_
  rw [f_X8_lease] at h
  refine x_aload_n 0 dX8_lease_0 rfl rfl ?_
  refine x_iconst (v := 0) dX8_lease_1 rfl ?_
  refine x_puti dX8_lease_2 (ci := 8) (f := 0) (M := 19) (C9 := RX8) (T9 := TX8) rfl xin8 tyX8_ok nmX8 (by decide) fl_X8_45 rfl rfl rfl rfl k100 ?_
  obtain ⟨N1, eN1, h⟩ := x_lt h
  refine x_nmN eN1 ?_
  refine x_aload_n 0 dX8_lease_5 rfl rfl ?_
  refine x_iload_n 1 dX8_lease_6 rfl rfl ?_
  obtain ⟨r3, N4, q2, h⟩ := x_bd2 h
  refine x_cv (b := a0) (As := [.int a1]) (ci := 8) (d' := 2) (zz := yX8_noHandler) dX8_lease_7 ml_X8_287 wi_X8_noHandler wv_X8_noHandler wn_X8 wc_X8_noHandler hp_X8_noHandler (by decide) (by decide) rfl (Nat.le_of_ble_eq_true rfl) ⟨Nat.zero_le _, Nat.zero_le _⟩ rfl k100 (T_X8_noHandler (G := G) hw k100 q2) ?_
  rcases x_if h with ⟨c5, h⟩ | ⟨c5, h⟩
  · refine x_if_ne_f (tgt := 21) dX8_lease_10 (by decide) c5 ?_
    refine x_aload_n 0 dX8_lease_13 rfl rfl ?_
    refine x_iload_n 2 dX8_lease_14 rfl rfl ?_
    obtain ⟨r7, N8, q6, h⟩ := x_bd2 h
    refine x_cv (b := a0) (As := [.int a2]) (ci := 8) (d' := 2) (zz := yX8_noLine) dX8_lease_15 ml_X8_296 wi_X8_noLine wv_X8_noLine wn_X8 wc_X8_noLine hp_X8_noLine (by decide) (by decide) rfl (Nat.le_of_ble_eq_true rfl) ⟨Nat.zero_le _, Nat.zero_le _⟩ rfl k100 (T_X8_noLine (G := G) hw k100 q6) ?_
    rcases x_if h with ⟨c9, h⟩ | ⟨c9, h⟩
    · refine x_if_eq_t (tgt := 23) dX8_lease_18 (by decide) c9 ?_
      refine x_aload_n 0 dX8_lease_23 rfl rfl ?_
      obtain ⟨N11, q10, h⟩ := x_bd1 h
      refine x_cv (b := a0) (As := []) (ci := 8) (d' := 2) (zz := yX8_remember) dX8_lease_24 ml_X8_190 wi_X8_remember wv_X8_remember wn_X8 wc_X8_remember hp_X8_remember (by decide) (by decide) rfl (Nat.le_of_ble_eq_true rfl) ⟨Nat.zero_le _, Nat.zero_le _⟩ rfl k100 (T_X8_remember (G := G) hw k100 q10) ?_
      refine x_aload_n 0 dX8_lease_27 rfl rfl ?_
      refine x_iload_n 1 dX8_lease_28 rfl rfl ?_
      refine x_iload_n 2 dX8_lease_29 rfl rfl ?_
      obtain ⟨r13, q12, h⟩ := x_bd1 h
      refine x_cv (b := a0) (As := [.int a1, .int a2]) (ci := 8) (d' := 3) (zz := yX8_mayLease) dX8_lease_30 ml_X8_314 wi_X8_mayLease wv_X8_mayLease wn_X8 wc_X8_mayLease hp_X8_mayLease (by decide) (by decide) rfl (Nat.le_of_ble_eq_true rfl) ⟨Nat.zero_le _, Nat.zero_le _⟩ rfl k100 (T_X8_mayLease (G := G) hw k100 q12) ?_
      rcases x_if h with ⟨c14, h⟩ | ⟨c14, h⟩
      · refine x_if_eq_t (tgt := 45) dX8_lease_33 (by decide) c14 ?_
        refine x_iconst (v := (-1)) dX8_lease_45 rfl ?_
        obtain ⟨rfl, rfl⟩ := Prod.mk.inj (x_so h)
        exact x_iret dX8_lease_46 rfl rfl rfl
      · refine x_if_eq_f (tgt := 45) dX8_lease_33 (by decide) c14 ?_
        refine x_aload_n 0 dX8_lease_36 rfl rfl ?_
        refine x_iload_n 1 dX8_lease_37 rfl rfl ?_
        refine x_iload_n 2 dX8_lease_38 rfl rfl ?_
        obtain ⟨r16, N17, q15, h⟩ := x_bd2 h
        refine x_cv (b := a0) (As := [.int a1, .int a2]) (ci := 8) (d' := 7) (zz := yX8_leaseNow) dX8_lease_39 ml_X8_317 wi_X8_leaseNow wv_X8_leaseNow wn_X8 wc_X8_leaseNow hp_X8_leaseNow (by decide) (by decide) rfl (Nat.le_of_ble_eq_true rfl) ⟨Nat.zero_le _, Nat.zero_le _⟩ rfl k100 (T_X8_leaseNow (G := G) hw k100 q15) ?_
        refine x_goto (tgt := 46) dX8_lease_42 (by decide) ?_
        obtain ⟨rfl, rfl⟩ := Prod.mk.inj (x_so h)
        exact x_iret dX8_lease_46 rfl rfl rfl
    · refine x_if_eq_f (tgt := 23) dX8_lease_18 (by decide) c9 ?_
      refine x_iconst (v := 0) dX8_lease_21 rfl ?_
      obtain ⟨rfl, rfl⟩ := Prod.mk.inj (x_so h)
      exact x_iret dX8_lease_22 rfl rfl rfl
  · refine x_if_ne_t (tgt := 21) dX8_lease_10 (by decide) c5 ?_
    refine x_iconst (v := 0) dX8_lease_21 rfl ?_
    obtain ⟨rfl, rfl⟩ := Prod.mk.inj (x_so h)
    exact x_iret dX8_lease_22 rfl rfl rfl
set_option maxHeartbeats 4000000 in
set_option maxRecDepth 100000 in
theorem T_X8_release_49 {G : XG} {Y : XY} (hw : WT Y) {r9 : Int32} {N9 : XN}: ∀ (D9 : Nat) (p_0 : Nat) (v_1 : Int32) (v_2 : Int32) (v_3 : Int32) (v_4 : Int32) (N : XN), kc Y p_0 = 18 → f_X8_release_49 Y D9 p_0 v_1 v_2 v_3 v_4 N = some (r9, N9) → Ex G yX8_release cX8_release 5 (some .int) (xR 7 0 0) (.inl (some (.int r9))) Y N9 0 0 49 [(0, .ref p_0), (1, .int v_1), (2, .int v_2), (3, .int v_3), (4, .int v_4)] [] Y N := by
  intro D9
  induction D9 with
  | zero => intro p_0 v_1 v_2 v_3 v_4 N kk0 h; exact nomatch (show none = some (r9, N9) from h)
  | succ D9 ih =>
    intro p_0 v_1 v_2 v_3 v_4 N kk0 h
    rw [f_X8_release_49] at h
    refine x_iload 4 dX8_release_49 rfl ?_
    refine x_aload_n 0 dX8_release_51 rfl rfl ?_
    obtain ⟨g1, k2, n3⟩ := wt_X8_8 hw kk0
    refine x_getr dX8_release_52 (ci := 8) (f := 8) (M := 19) (C9 := RX8) (T9 := TX8) rfl xin8 (by decide) fl_X8_17 rfl kk0 g1 ?_
    refine x_iconst (v := 3) dX8_release_55 rfl ?_
    refine x_iald dX8_release_56 k2 (xb_at n3 (by decide)) rfl ?_
    rcases x_if h with ⟨c4, h⟩ | ⟨c4, h⟩
    · refine x_icmp_ge_t (tgt := 99) dX8_release_57 (by decide) c4 ?_
      refine x_iload_n 3 dX8_release_99 rfl rfl ?_
      obtain ⟨rfl, rfl⟩ := Prod.mk.inj (x_so h)
      exact x_iret dX8_release_100 rfl rfl rfl
    · refine x_icmp_ge_f (tgt := 99) dX8_release_57 (by decide) c4 ?_
      refine x_aload_n 0 dX8_release_60 rfl rfl ?_
      refine x_iload_n 1 dX8_release_61 rfl rfl ?_
      refine x_iload 4 dX8_release_62 rfl ?_
      obtain ⟨r6, q5, h⟩ := x_bd1 h
      refine x_cv (b := p_0) (As := [.int v_1, .int v_4]) (ci := 8) (d' := 4) (zz := yX8_holds) dX8_release_64 ml_X8_212 wi_X8_holds wv_X8_holds wn_X8 wc_X8_holds hp_X8_holds (by decide) (by decide) rfl (Nat.le_of_ble_eq_true rfl) ⟨Nat.zero_le _, Nat.zero_le _⟩ rfl kk0 (T_X8_holds (G := G) hw kk0 q5) ?_
      rcases x_if h with ⟨c7, h⟩ | ⟨c7, h⟩
      · refine x_if_eq_t (tgt := 93) dX8_release_67 (by decide) c7 ?_
        refine x_iinc 4 [1, 2, 3, 4, 0] dX8_release_93 rfl rfl (by decide) rfl ?_
        refine x_goto (tgt := 49) dX8_release_96 (by decide) ?_
        exact ih p_0 v_1 v_2 v_3 (v_4 + 1) N kk0 h
      · refine x_if_eq_f (tgt := 93) dX8_release_67 (by decide) c7 ?_
        refine x_aload_n 0 dX8_release_70 rfl rfl ?_
        refine x_iload 4 dX8_release_71 rfl ?_
        refine x_iconst (v := 0) dX8_release_73 rfl ?_
        obtain ⟨r9, q8, h⟩ := x_bd1 h
        refine x_cv (b := p_0) (As := [.int v_4, .int 0]) (ci := 8) (d' := 2) (zz := yX8_ofRequest) dX8_release_74 ml_X8_206 wi_X8_ofRequest wv_X8_ofRequest wn_X8 wc_X8_ofRequest hp_X8_ofRequest (by decide) (by decide) rfl (Nat.le_of_ble_eq_true rfl) ⟨Nat.zero_le _, Nat.zero_le _⟩ rfl kk0 (T_X8_ofRequest (G := G) hw kk0 q8) ?_
        refine x_iload_n 2 dX8_release_77 rfl rfl ?_
        rcases x_if h with ⟨c10, h⟩ | ⟨c10, h⟩
        · refine x_icmp_eq_t (tgt := 84) dX8_release_78 (by decide) c10 ?_
          refine x_aload_n 0 dX8_release_84 rfl rfl ?_
          refine x_iload 4 dX8_release_85 rfl ?_
          obtain ⟨N12, q11, h⟩ := x_bd1 h
          refine x_cv (b := p_0) (As := [.int v_4]) (ci := 8) (d' := 6) (zz := yX8_assign) dX8_release_87 ml_X8_225 wi_X8_assign wv_X8_assign wn_X8 wc_X8_assign hp_X8_assign (by decide) (by decide) rfl (Nat.le_of_ble_eq_true rfl) ⟨Nat.zero_le _, Nat.zero_le _⟩ rfl kk0 (T_X8_assign (G := G) hw kk0 q11) ?_
          refine x_iinc 3 [1, 2, 3, 0, 4] dX8_release_90 rfl rfl (by decide) rfl ?_
          refine x_iinc 4 [1, 2, 3, 4, 0] dX8_release_93 rfl rfl (by decide) rfl ?_
          refine x_goto (tgt := 49) dX8_release_96 (by decide) ?_
          exact ih p_0 v_1 v_2 (v_3 + 1) (v_4 + 1) N12 kk0 h
        · refine x_icmp_eq_f (tgt := 84) dX8_release_78 (by decide) c10 ?_
          refine x_goto (tgt := 93) dX8_release_81 (by decide) ?_
          refine x_iinc 4 [1, 2, 3, 4, 0] dX8_release_93 rfl rfl (by decide) rfl ?_
          refine x_goto (tgt := 49) dX8_release_96 (by decide) ?_
          exact ih p_0 v_1 v_2 v_3 (v_4 + 1) N kk0 h
set_option maxHeartbeats 4000000 in
set_option maxRecDepth 100000 in
theorem T_X8_release {G : XG} {Y : XY} (hw : WT Y) {a0 : Nat} {a1 : Int32} {a2 : Int32} {N : XN} (k100 : kc Y a0 = 18) {r9 : Int32} {N9 : XN} (h : f_X8_release Y a0 a1 a2 N = some (r9, N9)) : Cl G yX8_release cX8_release 5 (some .int) (xR 7 0 0) [.ref a0, .int a1, .int a2] (.inl (some (.int r9))) Y N Y N9 := by
  refine x_entry (by decide) (Nat.le_of_ble_eq_true rfl) rfl ?_
  rw [f_X8_release] at h
  refine x_aload_n 0 dX8_release_0 rfl rfl ?_
  refine x_iconst (v := 0) dX8_release_1 rfl ?_
  refine x_puti dX8_release_2 (ci := 8) (f := 0) (M := 19) (C9 := RX8) (T9 := TX8) rfl xin8 tyX8_ok nmX8 (by decide) fl_X8_45 rfl rfl rfl rfl k100 ?_
  obtain ⟨N1, eN1, h⟩ := x_lt h
  refine x_nmN eN1 ?_
  refine x_aload_n 0 dX8_release_5 rfl rfl ?_
  refine x_iload_n 1 dX8_release_6 rfl rfl ?_
  obtain ⟨r3, N4, q2, h⟩ := x_bd2 h
  refine x_cv (b := a0) (As := [.int a1]) (ci := 8) (d' := 2) (zz := yX8_noHandler) dX8_release_7 ml_X8_287 wi_X8_noHandler wv_X8_noHandler wn_X8 wc_X8_noHandler hp_X8_noHandler (by decide) (by decide) rfl (Nat.le_of_ble_eq_true rfl) ⟨Nat.zero_le _, Nat.zero_le _⟩ rfl k100 (T_X8_noHandler (G := G) hw k100 q2) ?_
  rcases x_if h with ⟨c5, h⟩ | ⟨c5, h⟩
  · refine x_if_ne_f (tgt := 21) dX8_release_10 (by decide) c5 ?_
    refine x_aload_n 0 dX8_release_13 rfl rfl ?_
    refine x_iload_n 2 dX8_release_14 rfl rfl ?_
    obtain ⟨r7, N8, q6, h⟩ := x_bd2 h
    refine x_cv (b := a0) (As := [.int a2]) (ci := 8) (d' := 2) (zz := yX8_noLine) dX8_release_15 ml_X8_296 wi_X8_noLine wv_X8_noLine wn_X8 wc_X8_noLine hp_X8_noLine (by decide) (by decide) rfl (Nat.le_of_ble_eq_true rfl) ⟨Nat.zero_le _, Nat.zero_le _⟩ rfl k100 (T_X8_noLine (G := G) hw k100 q6) ?_
    rcases x_if h with ⟨c9, h⟩ | ⟨c9, h⟩
    · refine x_if_eq_t (tgt := 23) dX8_release_18 (by decide) c9 ?_
      refine x_aload_n 0 dX8_release_23 rfl rfl ?_
      obtain ⟨N11, q10, h⟩ := x_bd1 h
      refine x_cv (b := a0) (As := []) (ci := 8) (d' := 2) (zz := yX8_remember) dX8_release_24 ml_X8_190 wi_X8_remember wv_X8_remember wn_X8 wc_X8_remember hp_X8_remember (by decide) (by decide) rfl (Nat.le_of_ble_eq_true rfl) ⟨Nat.zero_le _, Nat.zero_le _⟩ rfl k100 (T_X8_remember (G := G) hw k100 q10) ?_
      refine x_aload_n 0 dX8_release_27 rfl rfl ?_
      refine x_iload_n 1 dX8_release_28 rfl rfl ?_
      refine x_iload_n 2 dX8_release_29 rfl rfl ?_
      obtain ⟨r13, q12, h⟩ := x_bd1 h
      refine x_cv (b := a0) (As := [.int a1, .int a2]) (ci := 8) (d' := 2) (zz := yX8_isTenant) dX8_release_30 ml_X8_258 wi_X8_isTenant wv_X8_isTenant wn_X8 wc_X8_isTenant hp_X8_isTenant (by decide) (by decide) rfl (Nat.le_of_ble_eq_true rfl) ⟨Nat.zero_le _, Nat.zero_le _⟩ rfl k100 (T_X8_isTenant (G := G) hw k100 q12) ?_
      rcases x_if h with ⟨c14, h⟩ | ⟨c14, h⟩
      · refine x_if_ne_f (tgt := 38) dX8_release_33 (by decide) c14 ?_
        refine x_iconst (v := (-1)) dX8_release_36 rfl ?_
        obtain ⟨rfl, rfl⟩ := Prod.mk.inj (x_so h)
        exact x_iret dX8_release_37 rfl rfl rfl
      · refine x_if_ne_t (tgt := 38) dX8_release_33 (by decide) c14 ?_
        refine x_aload_n 0 dX8_release_38 rfl rfl ?_
        refine x_iload_n 1 dX8_release_39 rfl rfl ?_
        refine x_iload_n 2 dX8_release_40 rfl rfl ?_
        obtain ⟨N16, q15, h⟩ := x_bd1 h
        refine x_cv (b := a0) (As := [.int a1, .int a2]) (ci := 8) (d' := 2) (zz := yX8_leave) dX8_release_41 ml_X8_228 wi_X8_leave wv_X8_leave wn_X8 wc_X8_leave hp_X8_leave (by decide) (by decide) rfl (Nat.le_of_ble_eq_true rfl) ⟨Nat.zero_le _, Nat.zero_le _⟩ rfl k100 (T_X8_leave (G := G) hw k100 q15) ?_
        refine x_iconst (v := 0) dX8_release_44 rfl ?_
        refine x_istore_n [1, 2, 3, 0] dX8_release_45 rfl (by decide) rfl ?_
        refine x_iconst (v := 0) dX8_release_46 rfl ?_
        refine x_istore [1, 2, 3, 4, 0] dX8_release_47 (by decide) rfl ?_
        exact T_X8_release_49 (G := G) hw FU a0 a1 a2 0 0 N16 k100 h
    · refine x_if_eq_f (tgt := 23) dX8_release_18 (by decide) c9 ?_
      refine x_iconst (v := 0) dX8_release_21 rfl ?_
      obtain ⟨rfl, rfl⟩ := Prod.mk.inj (x_so h)
      exact x_iret dX8_release_22 rfl rfl rfl
  · refine x_if_ne_t (tgt := 21) dX8_release_10 (by decide) c5 ?_
    refine x_iconst (v := 0) dX8_release_21 rfl ?_
    obtain ⟨rfl, rfl⟩ := Prod.mk.inj (x_so h)
    exact x_iret dX8_release_22 rfl rfl rfl
set_option maxHeartbeats 4000000 in
set_option maxRecDepth 100000 in
theorem T_X8_fund {G : XG} {Y : XY} (hw : WT Y) {a0 : Nat} {a1 : Int32} {a2 : Int32} {N : XN} (k100 : kc Y a0 = 18) {r9 : Int32} {N9 : XN} (h : f_X8_fund Y a0 a1 a2 N = some (r9, N9)) : Cl G yX8_fund cX8_fund 3 (some .int) (xR 3 0 0) [.ref a0, .int a1, .int a2] (.inl (some (.int r9))) Y N Y N9 := by
  refine x_entry (by decide) (Nat.le_of_ble_eq_true rfl) rfl ?_
  rw [f_X8_fund] at h
  refine x_aload_n 0 dX8_fund_0 rfl rfl ?_
  refine x_iconst (v := 0) dX8_fund_1 rfl ?_
  refine x_puti dX8_fund_2 (ci := 8) (f := 0) (M := 19) (C9 := RX8) (T9 := TX8) rfl xin8 tyX8_ok nmX8 (by decide) fl_X8_45 rfl rfl rfl rfl k100 ?_
  obtain ⟨N1, eN1, h⟩ := x_lt h
  refine x_nmN eN1 ?_
  refine x_aload_n 0 dX8_fund_5 rfl rfl ?_
  refine x_iload_n 1 dX8_fund_6 rfl rfl ?_
  obtain ⟨r3, N4, q2, h⟩ := x_bd2 h
  refine x_cv (b := a0) (As := [.int a1]) (ci := 8) (d' := 2) (zz := yX8_noHandler) dX8_fund_7 ml_X8_287 wi_X8_noHandler wv_X8_noHandler wn_X8 wc_X8_noHandler hp_X8_noHandler (by decide) (by decide) rfl (Nat.le_of_ble_eq_true rfl) ⟨Nat.zero_le _, Nat.zero_le _⟩ rfl k100 (T_X8_noHandler (G := G) hw k100 q2) ?_
  rcases x_if h with ⟨c5, h⟩ | ⟨c5, h⟩
  · refine x_if_ne_f (tgt := 25) dX8_fund_10 (by decide) c5 ?_
    refine x_aload_n 0 dX8_fund_13 rfl rfl ?_
    refine x_iload_n 2 dX8_fund_14 rfl rfl ?_
    refine x_iconst (v := 1) dX8_fund_15 rfl ?_
    refine x_sipush (v := 9999) dX8_fund_16 rfl ?_
    obtain ⟨r7, N8, q6, h⟩ := x_bd2 h
    refine x_cv (b := a0) (As := [.int a2, .int 1, .int 9999]) (ci := 8) (d' := 2) (zz := yX8_noNumber) dX8_fund_19 ml_X8_290 wi_X8_noNumber wv_X8_noNumber wn_X8 wc_X8_noNumber hp_X8_noNumber (by decide) (by decide) rfl (Nat.le_of_ble_eq_true rfl) ⟨Nat.zero_le _, Nat.zero_le _⟩ rfl k100 (T_X8_noNumber (G := G) hw k100 q6) ?_
    rcases x_if h with ⟨c9, h⟩ | ⟨c9, h⟩
    · refine x_if_eq_t (tgt := 27) dX8_fund_22 (by decide) c9 ?_
      refine x_aload_n 0 dX8_fund_27 rfl rfl ?_
      obtain ⟨N11, q10, h⟩ := x_bd1 h
      refine x_cv (b := a0) (As := []) (ci := 8) (d' := 2) (zz := yX8_remember) dX8_fund_28 ml_X8_190 wi_X8_remember wv_X8_remember wn_X8 wc_X8_remember hp_X8_remember (by decide) (by decide) rfl (Nat.le_of_ble_eq_true rfl) ⟨Nat.zero_le _, Nat.zero_le _⟩ rfl k100 (T_X8_remember (G := G) hw k100 q10) ?_
      refine x_aload_n 0 dX8_fund_31 rfl rfl ?_
      obtain ⟨g12, k13, n14⟩ := wt_X8_8 hw k100
      refine x_getr dX8_fund_32 (ci := 8) (f := 8) (M := 19) (C9 := RX8) (T9 := TX8) rfl xin8 (by decide) fl_X8_17 rfl k100 g12 ?_
      refine x_iload_n 1 dX8_fund_35 rfl rfl ?_
      refine x_cs (As := [.int a1]) (d' := 1) (zz := yX8_handlerAt) dX8_fund_36 ml_X8_197 wt_X8_handlerAt wn_X8 wc_X8_handlerAt hp_X8_handlerAt (by decide) (by decide) rfl (Nat.le_of_ble_eq_true rfl) ⟨Nat.zero_le _, Nat.zero_le _⟩ (T_X8_handlerAt (G := G) hw  rfl) ?_
      refine x_iconst (v := 0) dX8_fund_39 rfl ?_
      refine x_iadd dX8_fund_40 ?_
      refine x_dup2 dX8_fund_41 rfl rfl ?_
      obtain ⟨c15, h⟩ := x_ck h
      refine x_iald dX8_fund_42 k13 (xb_at n14 c15) rfl ?_
      refine x_iload_n 2 dX8_fund_43 rfl rfl ?_
      refine x_iadd dX8_fund_44 ?_
      obtain ⟨c16, h⟩ := x_ck h
      refine x_iast dX8_fund_45 k13 (xb_at n14 c16) rfl ?_
      obtain ⟨N17, eN17, h⟩ := x_lt h
      refine x_nmN eN17 ?_
      refine x_aload_n 0 dX8_fund_46 rfl rfl ?_
      refine x_getr dX8_fund_47 (ci := 8) (f := 8) (M := 19) (C9 := RX8) (T9 := TX8) rfl xin8 (by decide) fl_X8_17 rfl k100 g12 ?_
      refine x_iload_n 1 dX8_fund_50 rfl rfl ?_
      refine x_cs (As := [.int a1]) (d' := 1) (zz := yX8_handlerAt) dX8_fund_51 ml_X8_197 wt_X8_handlerAt wn_X8 wc_X8_handlerAt hp_X8_handlerAt (by decide) (by decide) rfl (Nat.le_of_ble_eq_true rfl) ⟨Nat.zero_le _, Nat.zero_le _⟩ (T_X8_handlerAt (G := G) hw  rfl) ?_
      refine x_iconst (v := 2) dX8_fund_54 rfl ?_
      refine x_iadd dX8_fund_55 ?_
      refine x_iconst (v := 0) dX8_fund_56 rfl ?_
      obtain ⟨c18, h⟩ := x_ck h
      refine x_iast dX8_fund_57 k13 (xb_at n14 c18) rfl ?_
      obtain ⟨N19, eN19, h⟩ := x_lt h
      refine x_nmN eN19 ?_
      refine x_aload_n 0 dX8_fund_58 rfl rfl ?_
      refine x_iload_n 1 dX8_fund_59 rfl rfl ?_
      refine x_iconst (v := 0) dX8_fund_60 rfl ?_
      obtain ⟨r21, q20, h⟩ := x_bd1 h
      refine x_cv (b := a0) (As := [.int a1, .int 0]) (ci := 8) (d' := 2) (zz := yX8_ofHandler) dX8_fund_61 ml_X8_245 wi_X8_ofHandler wv_X8_ofHandler wn_X8 wc_X8_ofHandler hp_X8_ofHandler (by decide) (by decide) rfl (Nat.le_of_ble_eq_true rfl) ⟨Nat.zero_le _, Nat.zero_le _⟩ rfl k100 (T_X8_ofHandler (G := G) hw k100 q20) ?_
      obtain ⟨rfl, rfl⟩ := Prod.mk.inj (x_so h)
      exact x_iret dX8_fund_64 rfl rfl rfl
    · refine x_if_eq_f (tgt := 27) dX8_fund_22 (by decide) c9 ?_
      refine x_iconst (v := 0) dX8_fund_25 rfl ?_
      obtain ⟨rfl, rfl⟩ := Prod.mk.inj (x_so h)
      exact x_iret dX8_fund_26 rfl rfl rfl
  · refine x_if_ne_t (tgt := 25) dX8_fund_10 (by decide) c5 ?_
    refine x_iconst (v := 0) dX8_fund_25 rfl ?_
    obtain ⟨rfl, rfl⟩ := Prod.mk.inj (x_so h)
    exact x_iret dX8_fund_26 rfl rfl rfl
set_option maxHeartbeats 4000000 in
set_option maxRecDepth 100000 in
theorem T_X8_undo {G : XG} {Y : XY} (hw : WT Y) {a0 : Nat} {N : XN} (k100 : kc Y a0 = 18) {r9 : Int32} {N9 : XN} (h : f_X8_undo Y a0 N = some (r9, N9)) : Cl G yX8_undo cX8_undo 1 (some .int) (xR 2 0 0) [.ref a0] (.inl (some (.int r9))) Y N Y N9 := by
  refine x_entry (by decide) (Nat.le_of_ble_eq_true rfl) rfl ?_
  rw [f_X8_undo] at h
  refine x_aload_n 0 dX8_undo_0 rfl rfl ?_
  refine x_iconst (v := 0) dX8_undo_1 rfl ?_
  refine x_puti dX8_undo_2 (ci := 8) (f := 0) (M := 19) (C9 := RX8) (T9 := TX8) rfl xin8 tyX8_ok nmX8 (by decide) fl_X8_45 rfl rfl rfl rfl k100 ?_
  obtain ⟨N1, eN1, h⟩ := x_lt h
  refine x_nmN eN1 ?_
  refine x_aload_n 0 dX8_undo_5 rfl rfl ?_
  refine x_geti dX8_undo_6 (ci := 8) (f := 13) (M := 19) (C9 := RX8) (T9 := TX8) rfl xin8 (by decide) fl_X8_320 rfl k100 ?_
  rcases x_if h with ⟨c2, h⟩ | ⟨c2, h⟩
  · refine x_if_ne_f (tgt := 14) dX8_undo_9 (by decide) c2 ?_
    refine x_iconst (v := (-1)) dX8_undo_12 rfl ?_
    obtain ⟨rfl, rfl⟩ := Prod.mk.inj (x_so h)
    exact x_iret dX8_undo_13 rfl rfl rfl
  · refine x_if_ne_t (tgt := 14) dX8_undo_9 (by decide) c2 ?_
    refine x_aload_n 0 dX8_undo_14 rfl rfl ?_
    refine x_dup dX8_undo_15 rfl ?_
    refine x_geti dX8_undo_16 (ci := 8) (f := 13) (M := 19) (C9 := RX8) (T9 := TX8) rfl xin8 (by decide) fl_X8_320 rfl k100 ?_
    refine x_iconst (v := 1) dX8_undo_19 rfl ?_
    refine x_isub dX8_undo_20 ?_
    refine x_puti dX8_undo_21 (ci := 8) (f := 13) (M := 19) (C9 := RX8) (T9 := TX8) rfl xin8 tyX8_ok nmX8 (by decide) fl_X8_320 rfl rfl rfl rfl k100 ?_
    obtain ⟨N3, eN3, h⟩ := x_lt h
    refine x_nmN eN3 ?_
    refine x_aload_n 0 dX8_undo_24 rfl rfl ?_
    obtain ⟨g4, k5, n6⟩ := wt_X8_12 hw k100
    refine x_getr dX8_undo_25 (ci := 8) (f := 12) (M := 19) (C9 := RX8) (T9 := TX8) rfl xin8 (by decide) fl_X8_31 rfl k100 g4 ?_
    refine x_aload_n 0 dX8_undo_28 rfl rfl ?_
    refine x_geti dX8_undo_29 (ci := 8) (f := 13) (M := 19) (C9 := RX8) (T9 := TX8) rfl xin8 (by decide) fl_X8_320 rfl k100 ?_
    obtain ⟨c7, h⟩ := x_ck h
    obtain ⟨g8, k9, n10⟩ := wt_8 hw k5 (xb_at n6 c7)
    refine x_aald (j := 4) dX8_undo_32 (by decide) k5 (xb_at n6 c7) g8 ?_
    refine x_aload_n 0 dX8_undo_33 rfl rfl ?_
    obtain ⟨g11, k12, n13⟩ := wt_X8_8 hw k100
    refine x_getr dX8_undo_34 (ci := 8) (f := 8) (M := 19) (C9 := RX8) (T9 := TX8) rfl xin8 (by decide) fl_X8_17 rfl k100 g11 ?_
    refine x_sipush (v := 1784) dX8_undo_37 rfl ?_
    obtain ⟨N15, q14, h⟩ := x_bd1 h
    refine x_cs (As := [.ref (gp Y (gp Y a0 12) (gi N3 a0 13).toNatClampNeg), .ref (gp Y a0 8), .int 1784]) (d' := 1) (zz := yX8_copy) dX8_undo_40 ml_X8_193 wt_X8_copy wn_X8 wc_X8_copy hp_X8_copy (by decide) (by decide) rfl (Nat.le_of_ble_eq_true rfl) ⟨Nat.zero_le _, Nat.zero_le _⟩ (T_X8_copy (G := G) hw k9 k12 q14) ?_
    refine x_aload_n 0 dX8_undo_43 rfl rfl ?_
    refine x_geti dX8_undo_44 (ci := 8) (f := 13) (M := 19) (C9 := RX8) (T9 := TX8) rfl xin8 (by decide) fl_X8_320 rfl k100 ?_
    obtain ⟨rfl, rfl⟩ := Prod.mk.inj (x_so h)
    exact x_iret dX8_undo_47 rfl rfl rfl
set_option maxHeartbeats 4000000 in
set_option maxRecDepth 100000 in
theorem T_X8_checksum_183 {G : XG} {Y : XY} (hw : WT Y) {k170 : Nat → Int64 → Int32 → XN → Option (Int64 × XN)} (hk170 : ∀ (p_0 : Nat) (w_1 : Int64) (v_3 : Int32) (N : XN), kc Y p_0 = 18 → k170 p_0 w_1 v_3 N = some (r9, N9) → Ex G yX8_checksum cX8_checksum 5 (some .long) (xR 7 0 0) (.inl (some (.long r9))) Y N9 0 0 170 [(0, .ref p_0), (1, .long w_1), (3, .int v_3)] [] Y N) {r9 : Int64} {N9 : XN}: ∀ (D9 : Nat) (p_0 : Nat) (w_1 : Int64) (v_3 : Int32) (v_4 : Int32) (N : XN), kc Y p_0 = 18 → f_X8_checksum_183 Y k170 D9 p_0 w_1 v_3 v_4 N = some (r9, N9) → Ex G yX8_checksum cX8_checksum 5 (some .long) (xR 7 0 0) (.inl (some (.long r9))) Y N9 0 0 183 [(0, .ref p_0), (1, .long w_1), (3, .int v_3), (4, .int v_4)] [] Y N := by
  intro D9
  induction D9 with
  | zero => intro p_0 w_1 v_3 v_4 N kk0 h; exact nomatch (show none = some (r9, N9) from h)
  | succ D9 ih =>
    intro p_0 w_1 v_3 v_4 N kk0 h
    rw [f_X8_checksum_183] at h
    refine x_iload 3 dX8_checksum_183 rfl ?_
    refine x_bipush (v := 7) dX8_checksum_185 rfl ?_
    rcases x_if h with ⟨c1, h⟩ | ⟨c1, h⟩
    · refine x_icmp_ge_t (tgt := 211) dX8_checksum_187 (by decide) c1 ?_
      refine x_iinc 2 [1, 2, 0] dX8_checksum_211 rfl rfl (by decide) rfl ?_
      refine x_goto (tgt := 170) dX8_checksum_214 (by decide) ?_
      exact hk170 p_0 w_1 (v_3 + 1) N kk0 h
    · refine x_icmp_ge_f (tgt := 211) dX8_checksum_187 (by decide) c1 ?_
      refine x_ldc2 (v := 31) dX8_checksum_190 kl_X8_323 ?_
      refine x_lload_n 1 dX8_checksum_193 rfl rfl ?_
      refine x_lmul dX8_checksum_194 ?_
      refine x_aload_n 0 dX8_checksum_195 rfl rfl ?_
      refine x_iload_n 2 dX8_checksum_196 rfl rfl ?_
      refine x_iload 3 dX8_checksum_197 rfl ?_
      obtain ⟨r3, q2, h⟩ := x_bd1 h
      refine x_cv (b := p_0) (As := [.int v_3, .int v_4]) (ci := 8) (d' := 2) (zz := yX8_ofRequest) dX8_checksum_199 ml_X8_206 wi_X8_ofRequest wv_X8_ofRequest wn_X8 wc_X8_ofRequest hp_X8_ofRequest (by decide) (by decide) rfl (Nat.le_of_ble_eq_true rfl) ⟨Nat.zero_le _, Nat.zero_le _⟩ rfl kk0 (T_X8_ofRequest (G := G) hw kk0 q2) ?_
      refine x_i2l dX8_checksum_202 ?_
      refine x_ladd dX8_checksum_203 ?_
      obtain ⟨w4, ew4, h⟩ := x_lt h
      refine x_nml ew4 ?_
      refine x_lstore_n [1, 0, 2, 3] dX8_checksum_204 rfl (by decide) rfl ?_
      refine x_iinc 3 [1, 2, 3, 0] dX8_checksum_205 rfl rfl (by decide) rfl ?_
      refine x_goto (tgt := 183) dX8_checksum_208 (by decide) ?_
      exact ih p_0 w4 v_3 (v_4 + 1) N kk0 h
set_option maxHeartbeats 4000000 in
set_option maxRecDepth 100000 in
theorem T_X8_checksum_170 {G : XG} {Y : XY} (hw : WT Y) {r9 : Int64} {N9 : XN}: ∀ (D9 : Nat) (p_0 : Nat) (w_1 : Int64) (v_3 : Int32) (N : XN), kc Y p_0 = 18 → f_X8_checksum_170 Y D9 p_0 w_1 v_3 N = some (r9, N9) → Ex G yX8_checksum cX8_checksum 5 (some .long) (xR 7 0 0) (.inl (some (.long r9))) Y N9 0 0 170 [(0, .ref p_0), (1, .long w_1), (3, .int v_3)] [] Y N := by
  intro D9
  induction D9 with
  | zero => intro p_0 w_1 v_3 N kk0 h; exact nomatch (show none = some (r9, N9) from h)
  | succ D9 ih =>
    intro p_0 w_1 v_3 N kk0 h
    rw [f_X8_checksum_170] at h
    refine x_iload_n 2 dX8_checksum_170 rfl rfl ?_
    refine x_aload_n 0 dX8_checksum_171 rfl rfl ?_
    obtain ⟨g1, k2, n3⟩ := wt_X8_8 hw kk0
    refine x_getr dX8_checksum_172 (ci := 8) (f := 8) (M := 19) (C9 := RX8) (T9 := TX8) rfl xin8 (by decide) fl_X8_17 rfl kk0 g1 ?_
    refine x_iconst (v := 3) dX8_checksum_175 rfl ?_
    refine x_iald dX8_checksum_176 k2 (xb_at n3 (by decide)) rfl ?_
    rcases x_if h with ⟨c4, h⟩ | ⟨c4, h⟩
    · refine x_icmp_ge_t (tgt := 217) dX8_checksum_177 (by decide) c4 ?_
      refine x_lload_n 1 dX8_checksum_217 rfl rfl ?_
      obtain ⟨rfl, rfl⟩ := Prod.mk.inj (x_so h)
      exact x_lret dX8_checksum_218 rfl rfl rfl
    · refine x_icmp_ge_f (tgt := 217) dX8_checksum_177 (by decide) c4 ?_
      refine x_iconst (v := 0) dX8_checksum_180 rfl ?_
      refine x_istore [1, 2, 3, 0] dX8_checksum_181 (by decide) rfl ?_
      exact T_X8_checksum_183 (G := G) hw ih FU p_0 w_1 v_3 0 N kk0 h
set_option maxHeartbeats 4000000 in
set_option maxRecDepth 100000 in
theorem T_X8_checksum_128 {G : XG} {Y : XY} (hw : WT Y) {k85 : Nat → Int64 → Int32 → XN → Option (Int64 × XN)} (hk85 : ∀ (p_0 : Nat) (w_1 : Int64) (v_3 : Int32) (N : XN), kc Y p_0 = 18 → k85 p_0 w_1 v_3 N = some (r9, N9) → Ex G yX8_checksum cX8_checksum 5 (some .long) (xR 7 0 0) (.inl (some (.long r9))) Y N9 0 0 85 [(0, .ref p_0), (1, .long w_1), (3, .int v_3)] [] Y N) {r9 : Int64} {N9 : XN}: ∀ (D9 : Nat) (p_0 : Nat) (w_1 : Int64) (v_3 : Int32) (v_4 : Int32) (N : XN), kc Y p_0 = 18 → f_X8_checksum_128 Y k85 D9 p_0 w_1 v_3 v_4 N = some (r9, N9) → Ex G yX8_checksum cX8_checksum 5 (some .long) (xR 7 0 0) (.inl (some (.long r9))) Y N9 0 0 128 [(0, .ref p_0), (1, .long w_1), (3, .int v_3), (4, .int v_4)] [] Y N := by
  intro D9
  induction D9 with
  | zero => intro p_0 w_1 v_3 v_4 N kk0 h; exact nomatch (show none = some (r9, N9) from h)
  | succ D9 ih =>
    intro p_0 w_1 v_3 v_4 N kk0 h
    rw [f_X8_checksum_128] at h
    refine x_iload 3 dX8_checksum_128 rfl ?_
    refine x_aload_n 0 dX8_checksum_130 rfl rfl ?_
    refine x_iload_n 2 dX8_checksum_131 rfl rfl ?_
    refine x_iconst (v := 3) dX8_checksum_132 rfl ?_
    obtain ⟨r2, q1, h⟩ := x_bd1 h
    refine x_cv (b := p_0) (As := [.int v_3, .int 3]) (ci := 8) (d' := 2) (zz := yX8_ofLine) dX8_checksum_133 ml_X8_222 wi_X8_ofLine wv_X8_ofLine wn_X8 wc_X8_ofLine hp_X8_ofLine (by decide) (by decide) rfl (Nat.le_of_ble_eq_true rfl) ⟨Nat.zero_le _, Nat.zero_le _⟩ rfl kk0 (T_X8_ofLine (G := G) hw kk0 q1) ?_
    rcases x_if h with ⟨c3, h⟩ | ⟨c3, h⟩
    · refine x_icmp_ge_t (tgt := 162) dX8_checksum_136 (by decide) c3 ?_
      refine x_iinc 2 [1, 2, 0] dX8_checksum_162 rfl rfl (by decide) rfl ?_
      refine x_goto (tgt := 85) dX8_checksum_165 (by decide) ?_
      exact hk85 p_0 w_1 (v_3 + 1) N kk0 h
    · refine x_icmp_ge_f (tgt := 162) dX8_checksum_136 (by decide) c3 ?_
      refine x_ldc2 (v := 31) dX8_checksum_139 kl_X8_323 ?_
      refine x_lload_n 1 dX8_checksum_142 rfl rfl ?_
      refine x_lmul dX8_checksum_143 ?_
      refine x_aload_n 0 dX8_checksum_144 rfl rfl ?_
      refine x_iload_n 2 dX8_checksum_145 rfl rfl ?_
      refine x_iconst (v := 4) dX8_checksum_146 rfl ?_
      refine x_iload 3 dX8_checksum_147 rfl ?_
      refine x_iadd dX8_checksum_149 ?_
      obtain ⟨r5, q4, h⟩ := x_bd1 h
      refine x_cv (b := p_0) (As := [.int v_3, .int (4 + v_4)]) (ci := 8) (d' := 2) (zz := yX8_ofLine) dX8_checksum_150 ml_X8_222 wi_X8_ofLine wv_X8_ofLine wn_X8 wc_X8_ofLine hp_X8_ofLine (by decide) (by decide) rfl (Nat.le_of_ble_eq_true rfl) ⟨Nat.zero_le _, Nat.zero_le _⟩ rfl kk0 (T_X8_ofLine (G := G) hw kk0 q4) ?_
      refine x_i2l dX8_checksum_153 ?_
      refine x_ladd dX8_checksum_154 ?_
      obtain ⟨w6, ew6, h⟩ := x_lt h
      refine x_nml ew6 ?_
      refine x_lstore_n [1, 0, 2, 3] dX8_checksum_155 rfl (by decide) rfl ?_
      refine x_iinc 3 [1, 2, 3, 0] dX8_checksum_156 rfl rfl (by decide) rfl ?_
      refine x_goto (tgt := 128) dX8_checksum_159 (by decide) ?_
      exact ih p_0 w6 v_3 (v_4 + 1) N kk0 h
set_option maxHeartbeats 4000000 in
set_option maxRecDepth 100000 in
theorem T_X8_checksum_98 {G : XG} {Y : XY} (hw : WT Y) {k85 : Nat → Int64 → Int32 → XN → Option (Int64 × XN)} (hk85 : ∀ (p_0 : Nat) (w_1 : Int64) (v_3 : Int32) (N : XN), kc Y p_0 = 18 → k85 p_0 w_1 v_3 N = some (r9, N9) → Ex G yX8_checksum cX8_checksum 5 (some .long) (xR 7 0 0) (.inl (some (.long r9))) Y N9 0 0 85 [(0, .ref p_0), (1, .long w_1), (3, .int v_3)] [] Y N) {r9 : Int64} {N9 : XN}: ∀ (D9 : Nat) (p_0 : Nat) (w_1 : Int64) (v_3 : Int32) (v_4 : Int32) (N : XN), kc Y p_0 = 18 → f_X8_checksum_98 Y k85 D9 p_0 w_1 v_3 v_4 N = some (r9, N9) → Ex G yX8_checksum cX8_checksum 5 (some .long) (xR 7 0 0) (.inl (some (.long r9))) Y N9 0 0 98 [(0, .ref p_0), (1, .long w_1), (3, .int v_3), (4, .int v_4)] [] Y N := by
  intro D9
  induction D9 with
  | zero => intro p_0 w_1 v_3 v_4 N kk0 h; exact nomatch (show none = some (r9, N9) from h)
  | succ D9 ih =>
    intro p_0 w_1 v_3 v_4 N kk0 h
    rw [f_X8_checksum_98] at h
    refine x_iload 3 dX8_checksum_98 rfl ?_
    refine x_iconst (v := 5) dX8_checksum_100 rfl ?_
    rcases x_if h with ⟨c1, h⟩ | ⟨c1, h⟩
    · refine x_icmp_ge_t (tgt := 125) dX8_checksum_101 (by decide) c1 ?_
      refine x_iconst (v := 0) dX8_checksum_125 rfl ?_
      refine x_istore [1, 2, 3, 0] dX8_checksum_126 (by decide) rfl ?_
      exact T_X8_checksum_128 (G := G) hw hk85 FU p_0 w_1 v_3 0 N kk0 h
    · refine x_icmp_ge_f (tgt := 125) dX8_checksum_101 (by decide) c1 ?_
      refine x_ldc2 (v := 31) dX8_checksum_104 kl_X8_323 ?_
      refine x_lload_n 1 dX8_checksum_107 rfl rfl ?_
      refine x_lmul dX8_checksum_108 ?_
      refine x_aload_n 0 dX8_checksum_109 rfl rfl ?_
      refine x_iload_n 2 dX8_checksum_110 rfl rfl ?_
      refine x_iload 3 dX8_checksum_111 rfl ?_
      obtain ⟨r3, q2, h⟩ := x_bd1 h
      refine x_cv (b := p_0) (As := [.int v_3, .int v_4]) (ci := 8) (d' := 4) (zz := yX8_toldLine) dX8_checksum_113 ml_X8_299 wi_X8_toldLine wv_X8_toldLine wn_X8 wc_X8_toldLine hp_X8_toldLine (by decide) (by decide) rfl (Nat.le_of_ble_eq_true rfl) ⟨Nat.zero_le _, Nat.zero_le _⟩ rfl kk0 (T_X8_toldLine (G := G) hw kk0 q2) ?_
      refine x_i2l dX8_checksum_116 ?_
      refine x_ladd dX8_checksum_117 ?_
      obtain ⟨w4, ew4, h⟩ := x_lt h
      refine x_nml ew4 ?_
      refine x_lstore_n [1, 0, 2, 3] dX8_checksum_118 rfl (by decide) rfl ?_
      refine x_iinc 3 [1, 2, 3, 0] dX8_checksum_119 rfl rfl (by decide) rfl ?_
      refine x_goto (tgt := 98) dX8_checksum_122 (by decide) ?_
      exact ih p_0 w4 v_3 (v_4 + 1) N kk0 h
set_option maxHeartbeats 4000000 in
set_option maxRecDepth 100000 in
theorem T_X8_checksum_85 {G : XG} {Y : XY} (hw : WT Y) {r9 : Int64} {N9 : XN}: ∀ (D9 : Nat) (p_0 : Nat) (w_1 : Int64) (v_3 : Int32) (N : XN), kc Y p_0 = 18 → f_X8_checksum_85 Y D9 p_0 w_1 v_3 N = some (r9, N9) → Ex G yX8_checksum cX8_checksum 5 (some .long) (xR 7 0 0) (.inl (some (.long r9))) Y N9 0 0 85 [(0, .ref p_0), (1, .long w_1), (3, .int v_3)] [] Y N := by
  intro D9
  induction D9 with
  | zero => intro p_0 w_1 v_3 N kk0 h; exact nomatch (show none = some (r9, N9) from h)
  | succ D9 ih =>
    intro p_0 w_1 v_3 N kk0 h
    rw [f_X8_checksum_85] at h
    refine x_iload_n 2 dX8_checksum_85 rfl rfl ?_
    refine x_aload_n 0 dX8_checksum_86 rfl rfl ?_
    obtain ⟨g1, k2, n3⟩ := wt_X8_8 hw kk0
    refine x_getr dX8_checksum_87 (ci := 8) (f := 8) (M := 19) (C9 := RX8) (T9 := TX8) rfl xin8 (by decide) fl_X8_17 rfl kk0 g1 ?_
    refine x_iconst (v := 2) dX8_checksum_90 rfl ?_
    refine x_iald dX8_checksum_91 k2 (xb_at n3 (by decide)) rfl ?_
    rcases x_if h with ⟨c4, h⟩ | ⟨c4, h⟩
    · refine x_icmp_ge_t (tgt := 168) dX8_checksum_92 (by decide) c4 ?_
      refine x_iconst (v := 0) dX8_checksum_168 rfl ?_
      refine x_istore_n [1, 2, 0] dX8_checksum_169 rfl (by decide) rfl ?_
      exact T_X8_checksum_170 (G := G) hw FU p_0 w_1 0 N kk0 h
    · refine x_icmp_ge_f (tgt := 168) dX8_checksum_92 (by decide) c4 ?_
      refine x_iconst (v := 0) dX8_checksum_95 rfl ?_
      refine x_istore [1, 2, 3, 0] dX8_checksum_96 (by decide) rfl ?_
      exact T_X8_checksum_98 (G := G) hw ih FU p_0 w_1 v_3 0 N kk0 h
set_option maxHeartbeats 4000000 in
set_option maxRecDepth 100000 in
theorem T_X8_checksum_49 {G : XG} {Y : XY} (hw : WT Y) {k36 : Nat → Int64 → Int32 → XN → Option (Int64 × XN)} (hk36 : ∀ (p_0 : Nat) (w_1 : Int64) (v_3 : Int32) (N : XN), kc Y p_0 = 18 → k36 p_0 w_1 v_3 N = some (r9, N9) → Ex G yX8_checksum cX8_checksum 5 (some .long) (xR 7 0 0) (.inl (some (.long r9))) Y N9 0 0 36 [(0, .ref p_0), (1, .long w_1), (3, .int v_3)] [] Y N) {r9 : Int64} {N9 : XN}: ∀ (D9 : Nat) (p_0 : Nat) (w_1 : Int64) (v_3 : Int32) (v_4 : Int32) (N : XN), kc Y p_0 = 18 → f_X8_checksum_49 Y k36 D9 p_0 w_1 v_3 v_4 N = some (r9, N9) → Ex G yX8_checksum cX8_checksum 5 (some .long) (xR 7 0 0) (.inl (some (.long r9))) Y N9 0 0 49 [(0, .ref p_0), (1, .long w_1), (3, .int v_3), (4, .int v_4)] [] Y N := by
  intro D9
  induction D9 with
  | zero => intro p_0 w_1 v_3 v_4 N kk0 h; exact nomatch (show none = some (r9, N9) from h)
  | succ D9 ih =>
    intro p_0 w_1 v_3 v_4 N kk0 h
    rw [f_X8_checksum_49] at h
    refine x_iload 3 dX8_checksum_49 rfl ?_
    refine x_bipush (v := 8) dX8_checksum_51 rfl ?_
    rcases x_if h with ⟨c1, h⟩ | ⟨c1, h⟩
    · refine x_icmp_ge_t (tgt := 77) dX8_checksum_53 (by decide) c1 ?_
      refine x_iinc 2 [1, 2, 0] dX8_checksum_77 rfl rfl (by decide) rfl ?_
      refine x_goto (tgt := 36) dX8_checksum_80 (by decide) ?_
      exact hk36 p_0 w_1 (v_3 + 1) N kk0 h
    · refine x_icmp_ge_f (tgt := 77) dX8_checksum_53 (by decide) c1 ?_
      refine x_ldc2 (v := 31) dX8_checksum_56 kl_X8_323 ?_
      refine x_lload_n 1 dX8_checksum_59 rfl rfl ?_
      refine x_lmul dX8_checksum_60 ?_
      refine x_aload_n 0 dX8_checksum_61 rfl rfl ?_
      refine x_iload_n 2 dX8_checksum_62 rfl rfl ?_
      refine x_iload 3 dX8_checksum_63 rfl ?_
      obtain ⟨r3, q2, h⟩ := x_bd1 h
      refine x_cv (b := p_0) (As := [.int v_3, .int v_4]) (ci := 8) (d' := 6) (zz := yX8_toldHandler) dX8_checksum_65 ml_X8_293 wi_X8_toldHandler wv_X8_toldHandler wn_X8 wc_X8_toldHandler hp_X8_toldHandler (by decide) (by decide) rfl (Nat.le_of_ble_eq_true rfl) ⟨Nat.zero_le _, Nat.zero_le _⟩ rfl kk0 (T_X8_toldHandler (G := G) hw kk0 q2) ?_
      refine x_i2l dX8_checksum_68 ?_
      refine x_ladd dX8_checksum_69 ?_
      obtain ⟨w4, ew4, h⟩ := x_lt h
      refine x_nml ew4 ?_
      refine x_lstore_n [1, 0, 2, 3] dX8_checksum_70 rfl (by decide) rfl ?_
      refine x_iinc 3 [1, 2, 3, 0] dX8_checksum_71 rfl rfl (by decide) rfl ?_
      refine x_goto (tgt := 49) dX8_checksum_74 (by decide) ?_
      exact ih p_0 w4 v_3 (v_4 + 1) N kk0 h
set_option maxHeartbeats 4000000 in
set_option maxRecDepth 100000 in
theorem T_X8_checksum_36 {G : XG} {Y : XY} (hw : WT Y) {r9 : Int64} {N9 : XN}: ∀ (D9 : Nat) (p_0 : Nat) (w_1 : Int64) (v_3 : Int32) (N : XN), kc Y p_0 = 18 → f_X8_checksum_36 Y D9 p_0 w_1 v_3 N = some (r9, N9) → Ex G yX8_checksum cX8_checksum 5 (some .long) (xR 7 0 0) (.inl (some (.long r9))) Y N9 0 0 36 [(0, .ref p_0), (1, .long w_1), (3, .int v_3)] [] Y N := by
  intro D9
  induction D9 with
  | zero => intro p_0 w_1 v_3 N kk0 h; exact nomatch (show none = some (r9, N9) from h)
  | succ D9 ih =>
    intro p_0 w_1 v_3 N kk0 h
    rw [f_X8_checksum_36] at h
    refine x_iload_n 2 dX8_checksum_36 rfl rfl ?_
    refine x_aload_n 0 dX8_checksum_37 rfl rfl ?_
    obtain ⟨g1, k2, n3⟩ := wt_X8_8 hw kk0
    refine x_getr dX8_checksum_38 (ci := 8) (f := 8) (M := 19) (C9 := RX8) (T9 := TX8) rfl xin8 (by decide) fl_X8_17 rfl kk0 g1 ?_
    refine x_iconst (v := 1) dX8_checksum_41 rfl ?_
    refine x_iald dX8_checksum_42 k2 (xb_at n3 (by decide)) rfl ?_
    rcases x_if h with ⟨c4, h⟩ | ⟨c4, h⟩
    · refine x_icmp_ge_t (tgt := 83) dX8_checksum_43 (by decide) c4 ?_
      refine x_iconst (v := 0) dX8_checksum_83 rfl ?_
      refine x_istore_n [1, 2, 0] dX8_checksum_84 rfl (by decide) rfl ?_
      exact T_X8_checksum_85 (G := G) hw FU p_0 w_1 0 N kk0 h
    · refine x_icmp_ge_f (tgt := 83) dX8_checksum_43 (by decide) c4 ?_
      refine x_iconst (v := 0) dX8_checksum_46 rfl ?_
      refine x_istore [1, 2, 3, 0] dX8_checksum_47 (by decide) rfl ?_
      exact T_X8_checksum_49 (G := G) hw ih FU p_0 w_1 v_3 0 N kk0 h
set_option maxHeartbeats 4000000 in
set_option maxRecDepth 100000 in
theorem T_X8_checksum_9 {G : XG} {Y : XY} (hw : WT Y) {r9 : Int64} {N9 : XN}: ∀ (D9 : Nat) (p_0 : Nat) (w_1 : Int64) (v_3 : Int32) (N : XN), kc Y p_0 = 18 → f_X8_checksum_9 Y D9 p_0 w_1 v_3 N = some (r9, N9) → Ex G yX8_checksum cX8_checksum 5 (some .long) (xR 7 0 0) (.inl (some (.long r9))) Y N9 0 0 9 [(0, .ref p_0), (1, .long w_1), (3, .int v_3)] [] Y N := by
  intro D9
  induction D9 with
  | zero => intro p_0 w_1 v_3 N kk0 h; exact nomatch (show none = some (r9, N9) from h)
  | succ D9 ih =>
    intro p_0 w_1 v_3 N kk0 h
    rw [f_X8_checksum_9] at h
    refine x_iload_n 2 dX8_checksum_9 rfl rfl ?_
    refine x_bipush (v := 10) dX8_checksum_10 rfl ?_
    rcases x_if h with ⟨c1, h⟩ | ⟨c1, h⟩
    · refine x_icmp_ge_t (tgt := 34) dX8_checksum_12 (by decide) c1 ?_
      refine x_iconst (v := 0) dX8_checksum_34 rfl ?_
      refine x_istore_n [1, 2, 0] dX8_checksum_35 rfl (by decide) rfl ?_
      exact T_X8_checksum_36 (G := G) hw FU p_0 w_1 0 N kk0 h
    · refine x_icmp_ge_f (tgt := 34) dX8_checksum_12 (by decide) c1 ?_
      refine x_ldc2 (v := 31) dX8_checksum_15 kl_X8_323 ?_
      refine x_lload_n 1 dX8_checksum_18 rfl rfl ?_
      refine x_lmul dX8_checksum_19 ?_
      refine x_aload_n 0 dX8_checksum_20 rfl rfl ?_
      refine x_iload_n 2 dX8_checksum_21 rfl rfl ?_
      obtain ⟨r3, q2, h⟩ := x_bd1 h
      refine x_cv (b := p_0) (As := [.int v_3]) (ci := 8) (d' := 4) (zz := yX8_told) dX8_checksum_22 ml_X8_281 wi_X8_told wv_X8_told wn_X8 wc_X8_told hp_X8_told (by decide) (by decide) rfl (Nat.le_of_ble_eq_true rfl) ⟨Nat.zero_le _, Nat.zero_le _⟩ rfl kk0 (T_X8_told (G := G) hw kk0 q2) ?_
      refine x_i2l dX8_checksum_25 ?_
      refine x_ladd dX8_checksum_26 ?_
      obtain ⟨w4, ew4, h⟩ := x_lt h
      refine x_nml ew4 ?_
      refine x_lstore_n [1, 0, 2] dX8_checksum_27 rfl (by decide) rfl ?_
      refine x_iinc 2 [1, 2, 0] dX8_checksum_28 rfl rfl (by decide) rfl ?_
      refine x_goto (tgt := 9) dX8_checksum_31 (by decide) ?_
      exact ih p_0 w4 (v_3 + 1) N kk0 h
set_option maxHeartbeats 4000000 in
set_option maxRecDepth 100000 in
theorem T_X8_checksum {G : XG} {Y : XY} (hw : WT Y) {a0 : Nat} {N : XN} (k100 : kc Y a0 = 18) {r9 : Int64} {N9 : XN} (h : f_X8_checksum Y a0 N = some (r9, N9)) : Cl G yX8_checksum cX8_checksum 5 (some .long) (xR 7 0 0) [.ref a0] (.inl (some (.long r9))) Y N Y N9 := by
  refine x_entry (by decide) (Nat.le_of_ble_eq_true rfl) rfl ?_
  rw [f_X8_checksum] at h
  refine x_aload_n 0 dX8_checksum_0 rfl rfl ?_
  refine x_iconst (v := 0) dX8_checksum_1 rfl ?_
  refine x_puti dX8_checksum_2 (ci := 8) (f := 0) (M := 19) (C9 := RX8) (T9 := TX8) rfl xin8 tyX8_ok nmX8 (by decide) fl_X8_45 rfl rfl rfl rfl k100 ?_
  obtain ⟨N1, eN1, h⟩ := x_lt h
  refine x_nmN eN1 ?_
  refine x_lconst (v := 0) dX8_checksum_5 rfl ?_
  refine x_lstore_n [1, 0] dX8_checksum_6 rfl (by decide) rfl ?_
  refine x_iconst (v := 0) dX8_checksum_7 rfl ?_
  refine x_istore_n [1, 2, 0] dX8_checksum_8 rfl (by decide) rfl ?_
  exact T_X8_checksum_9 (G := G) hw FU a0 0 0 N1 k100 h
