set_option maxHeartbeats 4000000 in
set_option maxRecDepth 100000 in
theorem T_X8_byteAt {G : XG} {Y : XY} (hw : WT Y) {a0 : Nat} {a1 : Int32} {N : XN} (k100 : kc Y a0 = 18) {r9 : Int32} (h : f_X8_byteAt Y a0 a1 N = some r9) : Cl G yX8_byteAt cX8_byteAt 2 (some .int) (xR 1 0 0) [.ref a0, .int a1] (.inl (some (.int r9))) Y N Y N := by
  refine x_entry (by decide) (Nat.le_of_ble_eq_true rfl) rfl ?_
  rw [f_X8_byteAt] at h
  refine x_iload_n 1 dX8_byteAt_0 rfl rfl ?_
  refine x_aload_n 0 dX8_byteAt_1 rfl rfl ?_
  refine x_geti dX8_byteAt_2 vc_X8 xin8 fb_X8_3 fl_X8_51 xr_X8_3 k100 ?_
  rcases x_if h with ⟨c1, h⟩ | ⟨c1, h⟩
  · refine x_icmp_ge_t (tgt := 17) dX8_byteAt_5 (by decide) c1 ?_
    refine x_iconst (v := (-1)) dX8_byteAt_17 rfl ?_
    obtain rfl := x_so h
    exact x_iret dX8_byteAt_18 rfl rfl rfl
  · refine x_icmp_ge_f (tgt := 17) dX8_byteAt_5 (by decide) c1 ?_
    refine x_aload_n 0 dX8_byteAt_8 rfl rfl ?_
    obtain ⟨g2, k3, n4⟩ := wt_X8_1 hw k100
    refine x_getr dX8_byteAt_9 vc_X8 xin8 fb_X8_1 fl_X8_9 xr_X8_1 k100 g2 ?_
    refine x_iload_n 1 dX8_byteAt_12 rfl rfl ?_
    obtain ⟨c5, h⟩ := x_ck h
    refine x_iald dX8_byteAt_13 k3 (xb_at n4 c5) rfl ?_
    refine x_goto (tgt := 18) dX8_byteAt_14 (by decide) ?_
    obtain rfl := x_so h
    exact x_iret dX8_byteAt_18 rfl rfl rfl
set_option maxHeartbeats 4000000 in
set_option maxRecDepth 100000 in
theorem T_X8_next_0 {G : XG} {Y : XY} (hw : WT Y) {r9 : Int32} {N9 : XN}: ∀ (D9 : Nat) (p_0 : Nat) (N : XN), kc Y p_0 = 18 → f_X8_next_0 Y D9 p_0 N = some (r9, N9) → Ex G yX8_next cX8_next 1 (some .int) (xR 2 0 0) (.inl (some (.int r9))) Y N9 0 0 0 [(0, .ref p_0)] [] Y N := by
  intro D9
  induction D9 with
  | zero => intro p_0 N kk0 h; exact nomatch (show none = some _ from h)
  | succ D9 ih =>
    intro p_0 N kk0 h
    rw [f_X8_next_0] at h
    refine x_aload_n 0 dX8_next_0 rfl rfl ?_
    refine x_aload_n 0 dX8_next_1 rfl rfl ?_
    refine x_geti dX8_next_2 vc_X8 xin8 fb_X8_4 fl_X8_54 xr_X8_4 kk0 ?_
    obtain ⟨r2, q1, h⟩ := x_bd1 h
    refine x_cv (b := p_0) (As := [.int (gi N p_0 4)]) (ci := 8) (d' := 1) (zz := yX8_byteAt) dX8_next_5 ml_X8_57 wi_X8_byteAt wv_X8_byteAt wn_X8 wc_X8_byteAt hp_X8_byteAt (by decide) (by decide) rfl (Nat.le_of_ble_eq_true rfl) ⟨Nat.zero_le _, Nat.zero_le _⟩ rfl kk0 (T_X8_byteAt (G := G) hw kk0 q1) ?_
    refine x_bipush (v := 32) dX8_next_8 rfl ?_
    rcases x_if h with ⟨c3, h⟩ | ⟨c3, h⟩
    · refine x_icmp_ne_f (tgt := 26) dX8_next_10 (by decide) c3 ?_
      refine x_aload_n 0 dX8_next_13 rfl rfl ?_
      refine x_dup dX8_next_14 rfl ?_
      refine x_geti dX8_next_15 vc_X8 xin8 fb_X8_4 fl_X8_54 xr_X8_4 kk0 ?_
      refine x_iconst (v := 1) dX8_next_18 rfl ?_
      refine x_iadd dX8_next_19 ?_
      refine x_puti dX8_next_20 vc_X8 xin8 tyX8_ok nmX8 fb_X8_4 fl_X8_54 ff_X8_4 xr_X8_4 (nf_X8_4 _) (ft_X8_4 _) kk0 ?_
      obtain ⟨N4, eN4, h⟩ := x_lt h
      refine x_nmN eN4 ?_
      refine x_goto (tgt := 0) dX8_next_23 (by decide) ?_
      exact ih p_0 N4 kk0 h
    · refine x_icmp_ne_t (tgt := 26) dX8_next_10 (by decide) c3 ?_
      refine x_aload_n 0 dX8_next_26 rfl rfl ?_
      refine x_aload_n 0 dX8_next_27 rfl rfl ?_
      refine x_geti dX8_next_28 vc_X8 xin8 fb_X8_4 fl_X8_54 xr_X8_4 kk0 ?_
      obtain ⟨r6, q5, h⟩ := x_bd1 h
      refine x_cv (b := p_0) (As := [.int (gi N p_0 4)]) (ci := 8) (d' := 1) (zz := yX8_byteAt) dX8_next_31 ml_X8_57 wi_X8_byteAt wv_X8_byteAt wn_X8 wc_X8_byteAt hp_X8_byteAt (by decide) (by decide) rfl (Nat.le_of_ble_eq_true rfl) ⟨Nat.zero_le _, Nat.zero_le _⟩ rfl kk0 (T_X8_byteAt (G := G) hw kk0 q5) ?_
      obtain ⟨rfl, rfl⟩ := Prod.mk.inj (x_so h)
      exact x_iret dX8_next_34 rfl rfl rfl
set_option maxHeartbeats 4000000 in
set_option maxRecDepth 100000 in
theorem T_X8_next {G : XG} {Y : XY} (hw : WT Y) {a0 : Nat} {N : XN} (k100 : kc Y a0 = 18) {r9 : Int32} {N9 : XN} (h : f_X8_next Y a0 N = some (r9, N9)) : Cl G yX8_next cX8_next 1 (some .int) (xR 2 0 0) [.ref a0] (.inl (some (.int r9))) Y N Y N9 := by
  refine x_entry (by decide) (Nat.le_of_ble_eq_true rfl) rfl ?_
  rw [f_X8_next] at h
  exact T_X8_next_0 (G := G) hw FU a0 N k100 h
set_option maxHeartbeats 4000000 in
set_option maxRecDepth 100000 in
theorem T_X8_isGood {G : XG} {Y : XY} (hw : WT Y) {a0 : Nat} {N : XN} (k100 : kc Y a0 = 18) {r9 : Int32} (h : f_X8_isGood Y a0 N = r9) : Cl G yX8_isGood cX8_isGood 1 (some .boolean) (xR 1 0 0) [.ref a0] (.inl (some (.int r9))) Y N Y N := by
  refine x_entry (by decide) (Nat.le_of_ble_eq_true rfl) rfl ?_
  rw [f_X8_isGood] at h
  refine x_aload_n 0 dX8_isGood_0 rfl rfl ?_
  refine x_geti dX8_isGood_1 vc_X8 xin8 fb_X8_5 fl_X8_61 xr_X8_5 k100 ?_
  rcases x_if h with ⟨c1, h⟩ | ⟨c1, h⟩
  · refine x_if_ne_f (tgt := 11) dX8_isGood_4 (by decide) c1 ?_
    refine x_iconst (v := 1) dX8_isGood_7 rfl ?_
    refine x_goto (tgt := 12) dX8_isGood_8 (by decide) ?_
    subst h
    exact x_zret dX8_isGood_12 rfl (by decide) rfl rfl
  · refine x_if_ne_t (tgt := 11) dX8_isGood_4 (by decide) c1 ?_
    refine x_iconst (v := 0) dX8_isGood_11 rfl ?_
    subst h
    exact x_zret dX8_isGood_12 rfl (by decide) rfl rfl
set_option maxHeartbeats 4000000 in
set_option maxRecDepth 100000 in
theorem T_X8_report {G : XG} {Y : XY} (hw : WT Y) {a0 : Nat} {a1 : Int32} {a2 : Int32} {N : XN} (k100 : kc Y a0 = 18) {N9 : XN} (h : f_X8_report Y a0 a1 a2 N = some N9) : Cl G yX8_report cX8_report 3 none (xR 1 0 0) [.ref a0, .int a1, .int a2] (.inl none) Y N Y N9 := by
  refine x_entry (by decide) (Nat.le_of_ble_eq_true rfl) rfl ?_
  rw [f_X8_report] at h
  refine x_aload_n 0 dX8_report_0 rfl rfl ?_
  refine x_geti dX8_report_1 vc_X8 xin8 fb_X8_5 fl_X8_61 xr_X8_5 k100 ?_
  rcases x_if h with ⟨c1, h⟩ | ⟨c1, h⟩
  · refine x_if_eq_t (tgt := 8) dX8_report_4 (by decide) c1 ?_
    refine x_aload_n 0 dX8_report_8 rfl rfl ?_
    refine x_iload_n 1 dX8_report_9 rfl rfl ?_
    refine x_puti dX8_report_10 vc_X8 xin8 tyX8_ok nmX8 fb_X8_5 fl_X8_61 ff_X8_5 xr_X8_5 (nf_X8_5 _) (ft_X8_5 _) k100 ?_
    obtain ⟨N2, eN2, h⟩ := x_lt h
    refine x_nmN eN2 ?_
    refine x_aload_n 0 dX8_report_13 rfl rfl ?_
    refine x_iload_n 2 dX8_report_14 rfl rfl ?_
    refine x_puti dX8_report_15 vc_X8 xin8 tyX8_ok nmX8 fb_X8_6 fl_X8_64 ff_X8_6 xr_X8_6 (nf_X8_6 _) (ft_X8_6 _) k100 ?_
    obtain ⟨N3, eN3, h⟩ := x_lt h
    refine x_nmN eN3 ?_
    obtain rfl := x_so h
    exact x_vret dX8_report_18 rfl rfl rfl
  · refine x_if_eq_f (tgt := 8) dX8_report_4 (by decide) c1 ?_
    obtain rfl := x_so h
    exact x_vret dX8_report_7 rfl rfl rfl
set_option maxHeartbeats 4000000 in
set_option maxRecDepth 100000 in
theorem T_X8_isDigit {G : XG} {Y : XY} (hw : WT Y) {a0 : Int32} {N : XN}  {r9 : Int32} (h : f_X8_isDigit Y a0 N = some r9) : Cl G yX8_isDigit cX8_isDigit 1 (some .boolean) (xR 2 0 0) [.int a0] (.inl (some (.int r9))) Y N Y N := by
  refine x_entry (by decide) (Nat.le_of_ble_eq_true rfl) rfl ?_
  rw [f_X8_isDigit] at h
  refine x_iload_n 0 dX8_isDigit_0 rfl rfl ?_
  refine x_bipush (v := 48) dX8_isDigit_1 rfl ?_
  refine x_bipush (v := 57) dX8_isDigit_3 rfl ?_
  refine x_cs (As := [.int a0, .int 48, .int 57]) (d' := 1) (zz := yX8_in) dX8_isDigit_5 ml_X8_67 wt_X8_in wn_X8 wc_X8_in hp_X8_in (by decide) (by decide) rfl (Nat.le_of_ble_eq_true rfl) ⟨Nat.zero_le _, Nat.zero_le _⟩ (T_X8_in (G := G) hw  rfl) ?_
  obtain ⟨c1, h⟩ := x_ck h
  obtain rfl := x_so h
  exact x_zret dX8_isDigit_8 rfl (xz_or c1) rfl rfl
set_option maxHeartbeats 4000000 in
set_option maxRecDepth 100000 in
theorem T_X8_takeWord_16 {G : XG} {Y : XY} (hw : WT Y) {r9 : Int32} {N9 : XN}: ∀ (D9 : Nat) (p_0 : Nat) (t_1 : Nat) (v_2 : Int32) (N : XN), kc Y p_0 = 18 → f_X8_takeWord_16 Y D9 p_0 t_1 v_2 N = some (r9, N9) → Ex G yX8_takeWord cX8_takeWord 3 (some .boolean) (xR 8 0 0) (.inl (some (.int r9))) Y N9 0 0 16 [(0, .ref p_0), (1, .ref (xS G t_1)), (2, .int v_2)] [] Y N := by
  intro D9
  induction D9 with
  | zero => intro p_0 t_1 v_2 N kk0 h; exact nomatch (show none = some _ from h)
  | succ D9 ih =>
    intro p_0 t_1 v_2 N kk0 h
    rw [f_X8_takeWord_16] at h
    refine x_iload_n 2 dX8_takeWord_16 rfl rfl ?_
    refine x_aload_n 1 dX8_takeWord_17 rfl rfl ?_
    obtain ⟨c1, h⟩ := x_ck h
    refine x_slen dX8_takeWord_18 js_X8_79 c1 (by decide) (Nat.le_of_ble_eq_true rfl) ⟨Nat.zero_le _, Nat.zero_le _⟩ ?_
    rcases x_if h with ⟨c2, h⟩ | ⟨c2, h⟩
    · refine x_icmp_ge_t (tgt := 48) dX8_takeWord_21 (by decide) c2 ?_
      refine x_iload_n 2 dX8_takeWord_48 rfl rfl ?_
      refine x_aload_n 1 dX8_takeWord_49 rfl rfl ?_
      obtain ⟨c3, h⟩ := x_ck h
      refine x_slen dX8_takeWord_50 js_X8_79 c3 (by decide) (Nat.le_of_ble_eq_true rfl) ⟨Nat.zero_le _, Nat.zero_le _⟩ ?_
      rcases x_if h with ⟨c4, h⟩ | ⟨c4, h⟩
      · refine x_icmp_lt_t (tgt := 76) dX8_takeWord_53 (by decide) c4 ?_
        refine x_iconst (v := 0) dX8_takeWord_76 rfl ?_
        obtain ⟨rfl, rfl⟩ := Prod.mk.inj (x_so h)
        exact x_zret dX8_takeWord_77 rfl (by decide) rfl rfl
      · refine x_icmp_lt_f (tgt := 76) dX8_takeWord_53 (by decide) c4 ?_
        refine x_aload_n 0 dX8_takeWord_56 rfl rfl ?_
        refine x_aload_n 0 dX8_takeWord_57 rfl rfl ?_
        refine x_geti dX8_takeWord_58 vc_X8 xin8 fb_X8_4 fl_X8_54 xr_X8_4 kk0 ?_
        refine x_iload_n 2 dX8_takeWord_61 rfl rfl ?_
        refine x_iadd dX8_takeWord_62 ?_
        obtain ⟨r6, q5, h⟩ := x_bd1 h
        refine x_cv (b := p_0) (As := [.int ((gi N p_0 4) + v_2)]) (ci := 8) (d' := 1) (zz := yX8_byteAt) dX8_takeWord_63 ml_X8_57 wi_X8_byteAt wv_X8_byteAt wn_X8 wc_X8_byteAt hp_X8_byteAt (by decide) (by decide) rfl (Nat.le_of_ble_eq_true rfl) ⟨Nat.zero_le _, Nat.zero_le _⟩ rfl kk0 (T_X8_byteAt (G := G) hw kk0 q5) ?_
        refine x_bipush (v := 97) dX8_takeWord_66 rfl ?_
        refine x_bipush (v := 122) dX8_takeWord_68 rfl ?_
        refine x_cs (As := [.int r6, .int 97, .int 122]) (d' := 1) (zz := yX8_in) dX8_takeWord_70 ml_X8_67 wt_X8_in wn_X8 wc_X8_in hp_X8_in (by decide) (by decide) rfl (Nat.le_of_ble_eq_true rfl) ⟨Nat.zero_le _, Nat.zero_le _⟩ (T_X8_in (G := G) hw  rfl) ?_
        rcases x_if h with ⟨c7, h⟩ | ⟨c7, h⟩
        · refine x_if_eq_t (tgt := 78) dX8_takeWord_73 (by decide) c7 ?_
          refine x_aload_n 0 dX8_takeWord_78 rfl rfl ?_
          refine x_dup dX8_takeWord_79 rfl ?_
          refine x_geti dX8_takeWord_80 vc_X8 xin8 fb_X8_4 fl_X8_54 xr_X8_4 kk0 ?_
          refine x_iload_n 2 dX8_takeWord_83 rfl rfl ?_
          refine x_iadd dX8_takeWord_84 ?_
          refine x_puti dX8_takeWord_85 vc_X8 xin8 tyX8_ok nmX8 fb_X8_4 fl_X8_54 ff_X8_4 xr_X8_4 (nf_X8_4 _) (ft_X8_4 _) kk0 ?_
          obtain ⟨N8, eN8, h⟩ := x_lt h
          refine x_nmN eN8 ?_
          refine x_iconst (v := 1) dX8_takeWord_88 rfl ?_
          obtain ⟨rfl, rfl⟩ := Prod.mk.inj (x_so h)
          exact x_zret dX8_takeWord_89 rfl (by decide) rfl rfl
        · refine x_if_eq_f (tgt := 78) dX8_takeWord_73 (by decide) c7 ?_
          refine x_iconst (v := 0) dX8_takeWord_76 rfl ?_
          obtain ⟨rfl, rfl⟩ := Prod.mk.inj (x_so h)
          exact x_zret dX8_takeWord_77 rfl (by decide) rfl rfl
    · refine x_icmp_ge_f (tgt := 48) dX8_takeWord_21 (by decide) c2 ?_
      refine x_aload_n 0 dX8_takeWord_24 rfl rfl ?_
      refine x_aload_n 0 dX8_takeWord_25 rfl rfl ?_
      refine x_geti dX8_takeWord_26 vc_X8 xin8 fb_X8_4 fl_X8_54 xr_X8_4 kk0 ?_
      refine x_iload_n 2 dX8_takeWord_29 rfl rfl ?_
      refine x_iadd dX8_takeWord_30 ?_
      obtain ⟨r10, q9, h⟩ := x_bd1 h
      refine x_cv (b := p_0) (As := [.int ((gi N p_0 4) + v_2)]) (ci := 8) (d' := 1) (zz := yX8_byteAt) dX8_takeWord_31 ml_X8_57 wi_X8_byteAt wv_X8_byteAt wn_X8 wc_X8_byteAt hp_X8_byteAt (by decide) (by decide) rfl (Nat.le_of_ble_eq_true rfl) ⟨Nat.zero_le _, Nat.zero_le _⟩ rfl kk0 (T_X8_byteAt (G := G) hw kk0 q9) ?_
      refine x_aload_n 1 dX8_takeWord_34 rfl rfl ?_
      refine x_iload_n 2 dX8_takeWord_35 rfl rfl ?_
      obtain ⟨c11, h⟩ := x_ck h
      refine x_schar dX8_takeWord_36 js_X8_84 c11.1 (xb_in c11.2) (by decide) (Nat.le_of_ble_eq_true rfl) ⟨Nat.zero_le _, Nat.zero_le _⟩ ?_
      rcases x_if h with ⟨c12, h⟩ | ⟨c12, h⟩
      · refine x_icmp_ne_f (tgt := 48) dX8_takeWord_39 (by decide) c12 ?_
        refine x_iinc (L' := [(0, .ref p_0), (1, .ref (xS G t_1)), (2, .int (v_2 + 1))]) 2 [1, 2, 0] dX8_takeWord_42 rfl rfl (by decide) rfl ?_
        refine x_goto (tgt := 16) dX8_takeWord_45 (by decide) ?_
        exact ih p_0 t_1 (v_2 + 1) N kk0 h
      · refine x_icmp_ne_t (tgt := 48) dX8_takeWord_39 (by decide) c12 ?_
        refine x_iload_n 2 dX8_takeWord_48 rfl rfl ?_
        refine x_aload_n 1 dX8_takeWord_49 rfl rfl ?_
        obtain ⟨c13, h⟩ := x_ck h
        refine x_slen dX8_takeWord_50 js_X8_79 c13 (by decide) (Nat.le_of_ble_eq_true rfl) ⟨Nat.zero_le _, Nat.zero_le _⟩ ?_
        rcases x_if h with ⟨c14, h⟩ | ⟨c14, h⟩
        · refine x_icmp_lt_t (tgt := 76) dX8_takeWord_53 (by decide) c14 ?_
          refine x_iconst (v := 0) dX8_takeWord_76 rfl ?_
          obtain ⟨rfl, rfl⟩ := Prod.mk.inj (x_so h)
          exact x_zret dX8_takeWord_77 rfl (by decide) rfl rfl
        · refine x_icmp_lt_f (tgt := 76) dX8_takeWord_53 (by decide) c14 ?_
          refine x_aload_n 0 dX8_takeWord_56 rfl rfl ?_
          refine x_aload_n 0 dX8_takeWord_57 rfl rfl ?_
          refine x_geti dX8_takeWord_58 vc_X8 xin8 fb_X8_4 fl_X8_54 xr_X8_4 kk0 ?_
          refine x_iload_n 2 dX8_takeWord_61 rfl rfl ?_
          refine x_iadd dX8_takeWord_62 ?_
          obtain ⟨r16, q15, h⟩ := x_bd1 h
          refine x_cv (b := p_0) (As := [.int ((gi N p_0 4) + v_2)]) (ci := 8) (d' := 1) (zz := yX8_byteAt) dX8_takeWord_63 ml_X8_57 wi_X8_byteAt wv_X8_byteAt wn_X8 wc_X8_byteAt hp_X8_byteAt (by decide) (by decide) rfl (Nat.le_of_ble_eq_true rfl) ⟨Nat.zero_le _, Nat.zero_le _⟩ rfl kk0 (T_X8_byteAt (G := G) hw kk0 q15) ?_
          refine x_bipush (v := 97) dX8_takeWord_66 rfl ?_
          refine x_bipush (v := 122) dX8_takeWord_68 rfl ?_
          refine x_cs (As := [.int r16, .int 97, .int 122]) (d' := 1) (zz := yX8_in) dX8_takeWord_70 ml_X8_67 wt_X8_in wn_X8 wc_X8_in hp_X8_in (by decide) (by decide) rfl (Nat.le_of_ble_eq_true rfl) ⟨Nat.zero_le _, Nat.zero_le _⟩ (T_X8_in (G := G) hw  rfl) ?_
          rcases x_if h with ⟨c17, h⟩ | ⟨c17, h⟩
          · refine x_if_eq_t (tgt := 78) dX8_takeWord_73 (by decide) c17 ?_
            refine x_aload_n 0 dX8_takeWord_78 rfl rfl ?_
            refine x_dup dX8_takeWord_79 rfl ?_
            refine x_geti dX8_takeWord_80 vc_X8 xin8 fb_X8_4 fl_X8_54 xr_X8_4 kk0 ?_
            refine x_iload_n 2 dX8_takeWord_83 rfl rfl ?_
            refine x_iadd dX8_takeWord_84 ?_
            refine x_puti dX8_takeWord_85 vc_X8 xin8 tyX8_ok nmX8 fb_X8_4 fl_X8_54 ff_X8_4 xr_X8_4 (nf_X8_4 _) (ft_X8_4 _) kk0 ?_
            obtain ⟨N18, eN18, h⟩ := x_lt h
            refine x_nmN eN18 ?_
            refine x_iconst (v := 1) dX8_takeWord_88 rfl ?_
            obtain ⟨rfl, rfl⟩ := Prod.mk.inj (x_so h)
            exact x_zret dX8_takeWord_89 rfl (by decide) rfl rfl
          · refine x_if_eq_f (tgt := 78) dX8_takeWord_73 (by decide) c17 ?_
            refine x_iconst (v := 0) dX8_takeWord_76 rfl ?_
            obtain ⟨rfl, rfl⟩ := Prod.mk.inj (x_so h)
            exact x_zret dX8_takeWord_77 rfl (by decide) rfl rfl
set_option maxHeartbeats 4000000 in
set_option maxRecDepth 100000 in
theorem T_X8_takeWord {G : XG} {Y : XY} (hw : WT Y) {a0 : Nat} {a1 : Nat} {N : XN} (k100 : kc Y a0 = 18) {r9 : Int32} {N9 : XN} (h : f_X8_takeWord Y a0 a1 N = some (r9, N9)) : Cl G yX8_takeWord cX8_takeWord 3 (some .boolean) (xR 8 0 0) [.ref a0, .ref (xS G a1)] (.inl (some (.int r9))) Y N Y N9 := by
  refine x_entry (by decide) (Nat.le_of_ble_eq_true rfl) rfl ?_
  rw [f_X8_takeWord] at h
  refine x_aload_n 0 dX8_takeWord_0 rfl rfl ?_
  refine x_cv (b := a0) (As := []) (ci := 8) (d' := 1) (zz := yX8_isGood) dX8_takeWord_1 ml_X8_71 wi_X8_isGood wv_X8_isGood wn_X8 wc_X8_isGood hp_X8_isGood (by decide) (by decide) rfl (Nat.le_of_ble_eq_true rfl) ⟨Nat.zero_le _, Nat.zero_le _⟩ rfl k100 (T_X8_isGood (G := G) hw k100 rfl) ?_
  rcases x_if h with ⟨c1, h⟩ | ⟨c1, h⟩
  · refine x_if_ne_f (tgt := 9) dX8_takeWord_4 (by decide) c1 ?_
    refine x_iconst (v := 0) dX8_takeWord_7 rfl ?_
    obtain ⟨rfl, rfl⟩ := Prod.mk.inj (x_so h)
    exact x_zret dX8_takeWord_8 rfl (by decide) rfl rfl
  · refine x_if_ne_t (tgt := 9) dX8_takeWord_4 (by decide) c1 ?_
    refine x_aload_n 0 dX8_takeWord_9 rfl rfl ?_
    obtain ⟨r3, N4, q2, h⟩ := x_bd2 h
    refine x_cv (b := a0) (As := []) (ci := 8) (d' := 2) (zz := yX8_next) dX8_takeWord_10 ml_X8_75 wi_X8_next wv_X8_next wn_X8 wc_X8_next hp_X8_next (by decide) (by decide) rfl (Nat.le_of_ble_eq_true rfl) ⟨Nat.zero_le _, Nat.zero_le _⟩ rfl k100 (T_X8_next (G := G) hw k100 q2) ?_
    refine x_pop dX8_takeWord_13 rfl ?_
    refine x_iconst (v := 0) dX8_takeWord_14 rfl ?_
    refine x_istore_n (L' := [(0, .ref a0), (1, .ref (xS G a1)), (2, .int 0)]) [1, 2, 0] dX8_takeWord_15 rfl (by decide) rfl ?_
    exact T_X8_takeWord_16 (G := G) hw FU a0 a1 0 N4 k100 h
set_option maxHeartbeats 4000000 in
set_option maxRecDepth 100000 in
theorem T_X8_expect {G : XG} {Y : XY} (hw : WT Y) {a0 : Nat} {a1 : Int32} {N : XN} (k100 : kc Y a0 = 18) {N9 : XN} (h : f_X8_expect Y a0 a1 N = some N9) : Cl G yX8_expect cX8_expect 2 none (xR 3 0 0) [.ref a0, .int a1] (.inl none) Y N Y N9 := by
  refine x_entry (by decide) (Nat.le_of_ble_eq_true rfl) rfl ?_
  rw [f_X8_expect] at h
  refine x_aload_n 0 dX8_expect_0 rfl rfl ?_
  refine x_cv (b := a0) (As := []) (ci := 8) (d' := 1) (zz := yX8_isGood) dX8_expect_1 ml_X8_71 wi_X8_isGood wv_X8_isGood wn_X8 wc_X8_isGood hp_X8_isGood (by decide) (by decide) rfl (Nat.le_of_ble_eq_true rfl) ⟨Nat.zero_le _, Nat.zero_le _⟩ rfl k100 (T_X8_isGood (G := G) hw k100 rfl) ?_
  rcases x_if h with ⟨c1, h⟩ | ⟨c1, h⟩
  · refine x_if_ne_f (tgt := 8) dX8_expect_4 (by decide) c1 ?_
    obtain rfl := x_so h
    exact x_vret dX8_expect_7 rfl rfl rfl
  · refine x_if_ne_t (tgt := 8) dX8_expect_4 (by decide) c1 ?_
    refine x_aload_n 0 dX8_expect_8 rfl rfl ?_
    obtain ⟨r3, N4, q2, h⟩ := x_bd2 h
    refine x_cv (b := a0) (As := []) (ci := 8) (d' := 2) (zz := yX8_next) dX8_expect_9 ml_X8_75 wi_X8_next wv_X8_next wn_X8 wc_X8_next hp_X8_next (by decide) (by decide) rfl (Nat.le_of_ble_eq_true rfl) ⟨Nat.zero_le _, Nat.zero_le _⟩ rfl k100 (T_X8_next (G := G) hw k100 q2) ?_
    refine x_iload_n 1 dX8_expect_12 rfl rfl ?_
    rcases x_if h with ⟨c5, h⟩ | ⟨c5, h⟩
    · refine x_icmp_ne_f (tgt := 29) dX8_expect_13 (by decide) c5 ?_
      refine x_aload_n 0 dX8_expect_16 rfl rfl ?_
      refine x_dup dX8_expect_17 rfl ?_
      refine x_geti dX8_expect_18 vc_X8 xin8 fb_X8_4 fl_X8_54 xr_X8_4 k100 ?_
      refine x_iconst (v := 1) dX8_expect_21 rfl ?_
      refine x_iadd dX8_expect_22 ?_
      refine x_puti dX8_expect_23 vc_X8 xin8 tyX8_ok nmX8 fb_X8_4 fl_X8_54 ff_X8_4 xr_X8_4 (nf_X8_4 _) (ft_X8_4 _) k100 ?_
      obtain ⟨N6, eN6, h⟩ := x_lt h
      refine x_nmN eN6 ?_
      refine x_goto (tgt := 39) dX8_expect_26 (by decide) ?_
      obtain rfl := x_so h
      exact x_vret dX8_expect_39 rfl rfl rfl
    · refine x_icmp_ne_t (tgt := 29) dX8_expect_13 (by decide) c5 ?_
      refine x_aload_n 0 dX8_expect_29 rfl rfl ?_
      refine x_bipush (v := (-2)) dX8_expect_30 rfl ?_
      refine x_aload_n 0 dX8_expect_32 rfl rfl ?_
      refine x_geti dX8_expect_33 vc_X8 xin8 fb_X8_4 fl_X8_54 xr_X8_4 k100 ?_
      obtain ⟨N8, q7, h⟩ := x_bd1 h
      refine x_cv (b := a0) (As := [.int (-2), .int (gi N4 a0 4)]) (ci := 8) (d' := 1) (zz := yX8_report) dX8_expect_36 ml_X8_88 wi_X8_report wv_X8_report wn_X8 wc_X8_report hp_X8_report (by decide) (by decide) rfl (Nat.le_of_ble_eq_true rfl) ⟨Nat.zero_le _, Nat.zero_le _⟩ rfl k100 (T_X8_report (G := G) hw k100 q7) ?_
      obtain rfl := x_so h
      exact x_vret dX8_expect_39 rfl rfl rfl
set_option maxHeartbeats 4000000 in
set_option maxRecDepth 100000 in
theorem T_X8_number_41 {G : XG} {Y : XY} (hw : WT Y) {r9 : Int32} {N9 : XN}: ∀ (D9 : Nat) (p_0 : Nat) (v_1 : Int32) (v_2 : Int32) (v_3 : Int32) (N : XN), kc Y p_0 = 18 → f_X8_number_41 Y D9 p_0 v_1 v_2 v_3 N = some (r9, N9) → Ex G yX8_number cX8_number 4 (some .int) (xR 3 0 0) (.inl (some (.int r9))) Y N9 0 0 41 [(0, .ref p_0), (1, .int v_1), (2, .int v_2), (3, .int v_3)] [] Y N := by
  intro D9
  induction D9 with
  | zero => intro p_0 v_1 v_2 v_3 N kk0 h; exact nomatch (show none = some _ from h)
  | succ D9 ih =>
    intro p_0 v_1 v_2 v_3 N kk0 h
    rw [f_X8_number_41] at h
    refine x_aload_n 0 dX8_number_41 rfl rfl ?_
    refine x_aload_n 0 dX8_number_42 rfl rfl ?_
    refine x_geti dX8_number_43 vc_X8 xin8 fb_X8_4 fl_X8_54 xr_X8_4 kk0 ?_
    obtain ⟨r2, q1, h⟩ := x_bd1 h
    refine x_cv (b := p_0) (As := [.int (gi N p_0 4)]) (ci := 8) (d' := 1) (zz := yX8_byteAt) dX8_number_46 ml_X8_57 wi_X8_byteAt wv_X8_byteAt wn_X8 wc_X8_byteAt hp_X8_byteAt (by decide) (by decide) rfl (Nat.le_of_ble_eq_true rfl) ⟨Nat.zero_le _, Nat.zero_le _⟩ rfl kk0 (T_X8_byteAt (G := G) hw kk0 q1) ?_
    obtain ⟨r4, q3, h⟩ := x_bd1 h
    refine x_cs (As := [.int r2]) (d' := 2) (zz := yX8_isDigit) dX8_number_49 ml_X8_92 wt_X8_isDigit wn_X8 wc_X8_isDigit hp_X8_isDigit (by decide) (by decide) rfl (Nat.le_of_ble_eq_true rfl) ⟨Nat.zero_le _, Nat.zero_le _⟩ (T_X8_isDigit (G := G) hw  q3) ?_
    rcases x_if h with ⟨c5, h⟩ | ⟨c5, h⟩
    · refine x_if_eq_t (tgt := 90) dX8_number_52 (by decide) c5 ?_
      refine x_iload_n 3 dX8_number_90 rfl rfl ?_
      refine x_iload_n 1 dX8_number_91 rfl rfl ?_
      refine x_iload_n 2 dX8_number_92 rfl rfl ?_
      refine x_cs (As := [.int v_3, .int v_1, .int v_2]) (d' := 1) (zz := yX8_in) dX8_number_93 ml_X8_67 wt_X8_in wn_X8 wc_X8_in hp_X8_in (by decide) (by decide) rfl (Nat.le_of_ble_eq_true rfl) ⟨Nat.zero_le _, Nat.zero_le _⟩ (T_X8_in (G := G) hw  rfl) ?_
      rcases x_if h with ⟨c6, h⟩ | ⟨c6, h⟩
      · refine x_if_ne_f (tgt := 109) dX8_number_96 (by decide) c6 ?_
        refine x_aload_n 0 dX8_number_99 rfl rfl ?_
        refine x_bipush (v := (-3)) dX8_number_100 rfl ?_
        refine x_aload_n 0 dX8_number_102 rfl rfl ?_
        refine x_geti dX8_number_103 vc_X8 xin8 fb_X8_14 fl_X8_96 xr_X8_14 kk0 ?_
        obtain ⟨N8, q7, h⟩ := x_bd1 h
        refine x_cv (b := p_0) (As := [.int (-3), .int (gi N p_0 14)]) (ci := 8) (d' := 1) (zz := yX8_report) dX8_number_106 ml_X8_88 wi_X8_report wv_X8_report wn_X8 wc_X8_report hp_X8_report (by decide) (by decide) rfl (Nat.le_of_ble_eq_true rfl) ⟨Nat.zero_le _, Nat.zero_le _⟩ rfl kk0 (T_X8_report (G := G) hw kk0 q7) ?_
        refine x_iload_n 3 dX8_number_109 rfl rfl ?_
        obtain ⟨rfl, rfl⟩ := Prod.mk.inj (x_so h)
        exact x_iret dX8_number_110 rfl rfl rfl
      · refine x_if_ne_t (tgt := 109) dX8_number_96 (by decide) c6 ?_
        refine x_iload_n 3 dX8_number_109 rfl rfl ?_
        obtain ⟨rfl, rfl⟩ := Prod.mk.inj (x_so h)
        exact x_iret dX8_number_110 rfl rfl rfl
    · refine x_if_eq_f (tgt := 90) dX8_number_52 (by decide) c5 ?_
      refine x_ldc (v := 1000000) dX8_number_55 kc_X8_99 ?_
      refine x_bipush (v := 10) dX8_number_57 rfl ?_
      refine x_iload_n 3 dX8_number_59 rfl rfl ?_
      refine x_imul dX8_number_60 ?_
      refine x_aload_n 0 dX8_number_61 rfl rfl ?_
      refine x_aload_n 0 dX8_number_62 rfl rfl ?_
      refine x_geti dX8_number_63 vc_X8 xin8 fb_X8_4 fl_X8_54 xr_X8_4 kk0 ?_
      obtain ⟨r10, q9, h⟩ := x_bd1 h
      refine x_cv (b := p_0) (As := [.int (gi N p_0 4)]) (ci := 8) (d' := 1) (zz := yX8_byteAt) dX8_number_66 ml_X8_57 wi_X8_byteAt wv_X8_byteAt wn_X8 wc_X8_byteAt hp_X8_byteAt (by decide) (by decide) rfl (Nat.le_of_ble_eq_true rfl) ⟨Nat.zero_le _, Nat.zero_le _⟩ rfl kk0 (T_X8_byteAt (G := G) hw kk0 q9) ?_
      refine x_iadd dX8_number_69 ?_
      refine x_bipush (v := 48) dX8_number_70 rfl ?_
      refine x_isub dX8_number_72 ?_
      refine x_cs (As := [.int 1000000, .int (((10 * v_3) + r10) - 48)]) (d' := 1) (zz := yX8_min) dX8_number_73 ml_X8_100 wt_X8_min wn_X8 wc_X8_min hp_X8_min (by decide) (by decide) rfl (Nat.le_of_ble_eq_true rfl) ⟨Nat.zero_le _, Nat.zero_le _⟩ (T_X8_min (G := G) hw  rfl) ?_
      obtain ⟨v11, ev11, h⟩ := x_lt h
      refine x_nmi ev11 ?_
      refine x_istore_n (L' := [(0, .ref p_0), (1, .int v_1), (2, .int v_2), (3, .int v11)]) [1, 2, 3, 0] dX8_number_76 rfl (by decide) rfl ?_
      refine x_aload_n 0 dX8_number_77 rfl rfl ?_
      refine x_dup dX8_number_78 rfl ?_
      refine x_geti dX8_number_79 vc_X8 xin8 fb_X8_4 fl_X8_54 xr_X8_4 kk0 ?_
      refine x_iconst (v := 1) dX8_number_82 rfl ?_
      refine x_iadd dX8_number_83 ?_
      refine x_puti dX8_number_84 vc_X8 xin8 tyX8_ok nmX8 fb_X8_4 fl_X8_54 ff_X8_4 xr_X8_4 (nf_X8_4 _) (ft_X8_4 _) kk0 ?_
      obtain ⟨N12, eN12, h⟩ := x_lt h
      refine x_nmN eN12 ?_
      refine x_goto (tgt := 41) dX8_number_87 (by decide) ?_
      exact ih p_0 v_1 v_2 v11 N12 kk0 h
set_option maxHeartbeats 4000000 in
set_option maxRecDepth 100000 in
theorem T_X8_number {G : XG} {Y : XY} (hw : WT Y) {a0 : Nat} {a1 : Int32} {a2 : Int32} {N : XN} (k100 : kc Y a0 = 18) {r9 : Int32} {N9 : XN} (h : f_X8_number Y a0 a1 a2 N = some (r9, N9)) : Cl G yX8_number cX8_number 4 (some .int) (xR 3 0 0) [.ref a0, .int a1, .int a2] (.inl (some (.int r9))) Y N Y N9 := by
  refine x_entry (by decide) (Nat.le_of_ble_eq_true rfl) rfl ?_
  rw [f_X8_number] at h
  refine x_aload_n 0 dX8_number_0 rfl rfl ?_
  refine x_cv (b := a0) (As := []) (ci := 8) (d' := 1) (zz := yX8_isGood) dX8_number_1 ml_X8_71 wi_X8_isGood wv_X8_isGood wn_X8 wc_X8_isGood hp_X8_isGood (by decide) (by decide) rfl (Nat.le_of_ble_eq_true rfl) ⟨Nat.zero_le _, Nat.zero_le _⟩ rfl k100 (T_X8_isGood (G := G) hw k100 rfl) ?_
  rcases x_if h with ⟨c1, h⟩ | ⟨c1, h⟩
  · refine x_if_ne_f (tgt := 9) dX8_number_4 (by decide) c1 ?_
    refine x_iconst (v := 0) dX8_number_7 rfl ?_
    obtain ⟨rfl, rfl⟩ := Prod.mk.inj (x_so h)
    exact x_iret dX8_number_8 rfl rfl rfl
  · refine x_if_ne_t (tgt := 9) dX8_number_4 (by decide) c1 ?_
    refine x_aload_n 0 dX8_number_9 rfl rfl ?_
    obtain ⟨r3, N4, q2, h⟩ := x_bd2 h
    refine x_cv (b := a0) (As := []) (ci := 8) (d' := 2) (zz := yX8_next) dX8_number_10 ml_X8_75 wi_X8_next wv_X8_next wn_X8 wc_X8_next hp_X8_next (by decide) (by decide) rfl (Nat.le_of_ble_eq_true rfl) ⟨Nat.zero_le _, Nat.zero_le _⟩ rfl k100 (T_X8_next (G := G) hw k100 q2) ?_
    obtain ⟨r6, q5, h⟩ := x_bd1 h
    refine x_cs (As := [.int r3]) (d' := 2) (zz := yX8_isDigit) dX8_number_13 ml_X8_92 wt_X8_isDigit wn_X8 wc_X8_isDigit hp_X8_isDigit (by decide) (by decide) rfl (Nat.le_of_ble_eq_true rfl) ⟨Nat.zero_le _, Nat.zero_le _⟩ (T_X8_isDigit (G := G) hw  q5) ?_
    rcases x_if h with ⟨c7, h⟩ | ⟨c7, h⟩
    · refine x_if_ne_f (tgt := 31) dX8_number_16 (by decide) c7 ?_
      refine x_aload_n 0 dX8_number_19 rfl rfl ?_
      refine x_bipush (v := (-2)) dX8_number_20 rfl ?_
      refine x_aload_n 0 dX8_number_22 rfl rfl ?_
      refine x_geti dX8_number_23 vc_X8 xin8 fb_X8_4 fl_X8_54 xr_X8_4 k100 ?_
      obtain ⟨N9, q8, h⟩ := x_bd1 h
      refine x_cv (b := a0) (As := [.int (-2), .int (gi N4 a0 4)]) (ci := 8) (d' := 1) (zz := yX8_report) dX8_number_26 ml_X8_88 wi_X8_report wv_X8_report wn_X8 wc_X8_report hp_X8_report (by decide) (by decide) rfl (Nat.le_of_ble_eq_true rfl) ⟨Nat.zero_le _, Nat.zero_le _⟩ rfl k100 (T_X8_report (G := G) hw k100 q8) ?_
      refine x_iconst (v := 0) dX8_number_29 rfl ?_
      obtain ⟨rfl, rfl⟩ := Prod.mk.inj (x_so h)
      exact x_iret dX8_number_30 rfl rfl rfl
    · refine x_if_ne_t (tgt := 31) dX8_number_16 (by decide) c7 ?_
      refine x_aload_n 0 dX8_number_31 rfl rfl ?_
      refine x_aload_n 0 dX8_number_32 rfl rfl ?_
      refine x_geti dX8_number_33 vc_X8 xin8 fb_X8_4 fl_X8_54 xr_X8_4 k100 ?_
      refine x_puti dX8_number_36 vc_X8 xin8 tyX8_ok nmX8 fb_X8_14 fl_X8_96 ff_X8_14 xr_X8_14 (nf_X8_14 _) (ft_X8_14 _) k100 ?_
      obtain ⟨N10, eN10, h⟩ := x_lt h
      refine x_nmN eN10 ?_
      refine x_iconst (v := 0) dX8_number_39 rfl ?_
      refine x_istore_n (L' := [(0, .ref a0), (1, .int a1), (2, .int a2), (3, .int 0)]) [1, 2, 3, 0] dX8_number_40 rfl (by decide) rfl ?_
      exact T_X8_number_41 (G := G) hw FU a0 a1 a2 0 N10 k100 h
set_option maxHeartbeats 4000000 in
set_option maxRecDepth 100000 in
theorem T_X8_emit {G : XG} {Y : XY} (hw : WT Y) {a0 : Nat} {a1 : Int32} {N : XN} (k100 : kc Y a0 = 18) {N9 : XN} (h : f_X8_emit Y a0 a1 N = some N9) : Cl G yX8_emit cX8_emit 2 none (xR 2 0 0) [.ref a0, .int a1] (.inl none) Y N Y N9 := by
  refine x_entry (by decide) (Nat.le_of_ble_eq_true rfl) rfl ?_
  rw [f_X8_emit] at h
  refine x_aload_n 0 dX8_emit_0 rfl rfl ?_
  refine x_cv (b := a0) (As := []) (ci := 8) (d' := 1) (zz := yX8_isGood) dX8_emit_1 ml_X8_71 wi_X8_isGood wv_X8_isGood wn_X8 wc_X8_isGood hp_X8_isGood (by decide) (by decide) rfl (Nat.le_of_ble_eq_true rfl) ⟨Nat.zero_le _, Nat.zero_le _⟩ rfl k100 (T_X8_isGood (G := G) hw k100 rfl) ?_
  rcases x_if h with ⟨c1, h⟩ | ⟨c1, h⟩
  · refine x_if_ne_f (tgt := 8) dX8_emit_4 (by decide) c1 ?_
    obtain rfl := x_so h
    exact x_vret dX8_emit_7 rfl rfl rfl
  · refine x_if_ne_t (tgt := 8) dX8_emit_4 (by decide) c1 ?_
    refine x_aload_n 0 dX8_emit_8 rfl rfl ?_
    obtain ⟨g2, k3, n4⟩ := wt_X8_9 hw k100
    refine x_getr dX8_emit_9 vc_X8 xin8 fb_X8_9 fl_X8_20 xr_X8_9 k100 g2 ?_
    refine x_sipush (v := 584) dX8_emit_12 rfl ?_
    refine x_aload_n 0 dX8_emit_15 rfl rfl ?_
    refine x_getr dX8_emit_16 vc_X8 xin8 fb_X8_9 fl_X8_20 xr_X8_9 k100 g2 ?_
    refine x_bipush (v := 11) dX8_emit_19 rfl ?_
    refine x_iald dX8_emit_21 k3 (xb_at n4 xbl_11_1784) xl_11 ?_
    refine x_iadd dX8_emit_22 ?_
    refine x_iload_n 1 dX8_emit_23 rfl rfl ?_
    obtain ⟨c5, h⟩ := x_ck h
    refine x_iast dX8_emit_24 k3 (xb_at n4 c5) rfl ?_
    obtain ⟨N6, eN6, h⟩ := x_lt h
    refine x_nmN eN6 ?_
    refine x_aload_n 0 dX8_emit_25 rfl rfl ?_
    refine x_getr dX8_emit_26 vc_X8 xin8 fb_X8_9 fl_X8_20 xr_X8_9 k100 g2 ?_
    refine x_bipush (v := 11) dX8_emit_29 rfl ?_
    refine x_dup2 dX8_emit_31 rfl rfl ?_
    refine x_iald dX8_emit_32 k3 (xb_at n4 xbl_11_1784) xl_11 ?_
    refine x_iconst (v := 1) dX8_emit_33 rfl ?_
    refine x_iadd dX8_emit_34 ?_
    refine x_iast dX8_emit_35 k3 (xb_at n4 xbl_11_1784) xl_11 ?_
    obtain ⟨N7, eN7, h⟩ := x_lt h
    refine x_nmN eN7 ?_
    obtain rfl := x_so h
    exact x_vret dX8_emit_36 rfl rfl rfl
set_option maxHeartbeats 4000000 in
set_option maxRecDepth 100000 in
theorem T_X8_sum_4 {G : XG} {Y : XY} (hw : WT Y) {D : Nat} {rc : Nat → Nat → XN → Option XN} (hrc_sum : ∀ {a0 : Nat} {N : XN} {N9 : XN}, kc Y a0 = 18 → rc 0 a0 N = some N9 → Cl G yX8_sum cX8_sum 2 none (xR (9 + D) 0 0) [.ref a0] (.inl none) Y N Y N9) (hrc_term : ∀ {a0 : Nat} {N : XN} {N9 : XN}, kc Y a0 = 18 → rc 1 a0 N = some N9 → Cl G yX8_term cX8_term 2 none (xR (9 + D) 0 0) [.ref a0] (.inl none) Y N Y N9) (hrc_factor : ∀ {a0 : Nat} {N : XN} {N9 : XN}, kc Y a0 = 18 → rc 2 a0 N = some N9 → Cl G yX8_factor cX8_factor 4 none (xR (9 + D) 0 0) [.ref a0] (.inl none) Y N Y N9) {N9 : XN}: ∀ (D9 : Nat) (p_0 : Nat) (N : XN), kc Y p_0 = 18 → f_X8_sum_4 Y rc D9 p_0 N = some N9 → Ex G yX8_sum cX8_sum 2 none (xR (9 + D + 1) 0 0) (.inl none) Y N9 0 0 4 [(0, .ref p_0)] [] Y N := by
  intro D9
  induction D9 with
  | zero => intro p_0 N kk0 h; exact nomatch (show none = some _ from h)
  | succ D9 ih =>
    intro p_0 N kk0 h
    rw [f_X8_sum_4] at h
    refine x_aload_n 0 dX8_sum_4 rfl rfl ?_
    refine x_cv (b := p_0) (As := []) (ci := 8) (d' := 1) (zz := yX8_isGood) dX8_sum_5 ml_X8_71 wi_X8_isGood wv_X8_isGood wn_X8 wc_X8_isGood hp_X8_isGood (by omega) (by decide) rfl (Nat.le_of_ble_eq_true rfl) ⟨Nat.zero_le _, Nat.zero_le _⟩ rfl kk0 (T_X8_isGood (G := G) hw kk0 rfl) ?_
    rcases x_if h with ⟨c1, h⟩ | ⟨c1, h⟩
    · refine x_if_eq_t (tgt := 74) dX8_sum_8 (by decide) c1 ?_
      obtain rfl := x_so h
      exact x_vret dX8_sum_74 rfl rfl rfl
    · refine x_if_eq_f (tgt := 74) dX8_sum_8 (by decide) c1 ?_
      refine x_aload_n 0 dX8_sum_11 rfl rfl ?_
      obtain ⟨r3, N4, q2, h⟩ := x_bd2 h
      refine x_cv (b := p_0) (As := []) (ci := 8) (d' := 2) (zz := yX8_next) dX8_sum_12 ml_X8_75 wi_X8_next wv_X8_next wn_X8 wc_X8_next hp_X8_next (by omega) (by decide) rfl (Nat.le_of_ble_eq_true rfl) ⟨Nat.zero_le _, Nat.zero_le _⟩ rfl kk0 (T_X8_next (G := G) hw kk0 q2) ?_
      refine x_bipush (v := 43) dX8_sum_15 rfl ?_
      rcases x_if h with ⟨c5, h⟩ | ⟨c5, h⟩
      · refine x_icmp_eq_t (tgt := 29) dX8_sum_17 (by decide) c5 ?_
        refine x_aload_n 0 dX8_sum_29 rfl rfl ?_
        obtain ⟨r7, N8, q6, h⟩ := x_bd2 h
        refine x_cv (b := p_0) (As := []) (ci := 8) (d' := 2) (zz := yX8_next) dX8_sum_30 ml_X8_75 wi_X8_next wv_X8_next wn_X8 wc_X8_next hp_X8_next (by omega) (by decide) rfl (Nat.le_of_ble_eq_true rfl) ⟨Nat.zero_le _, Nat.zero_le _⟩ rfl kk0 (T_X8_next (G := G) hw kk0 q6) ?_
        refine x_bipush (v := 43) dX8_sum_33 rfl ?_
        rcases x_if h with ⟨c9, h⟩ | ⟨c9, h⟩
        · refine x_icmp_ne_f (tgt := 42) dX8_sum_35 (by decide) c9 ?_
          refine x_iconst (v := 1) dX8_sum_38 rfl ?_
          refine x_goto (tgt := 43) dX8_sum_39 (by decide) ?_
          refine x_istore_n (L' := [(0, .ref p_0), (1, .int 1)]) [1, 0] dX8_sum_43 rfl (by decide) rfl ?_
          refine x_aload_n 0 dX8_sum_44 rfl rfl ?_
          refine x_dup dX8_sum_45 rfl ?_
          refine x_geti dX8_sum_46 vc_X8 xin8 fb_X8_4 fl_X8_54 xr_X8_4 kk0 ?_
          refine x_iconst (v := 1) dX8_sum_49 rfl ?_
          refine x_iadd dX8_sum_50 ?_
          refine x_puti dX8_sum_51 vc_X8 xin8 tyX8_ok nmX8 fb_X8_4 fl_X8_54 ff_X8_4 xr_X8_4 (nf_X8_4 _) (ft_X8_4 _) kk0 ?_
          obtain ⟨N10, eN10, h⟩ := x_lt h
          refine x_nmN eN10 ?_
          refine x_aload_n 0 dX8_sum_54 rfl rfl ?_
          obtain ⟨N12, q11, h⟩ := x_bd1 h
          refine x_cv (b := p_0) (As := []) (ci := 8) (d' := (9 + D)) (zz := yX8_term) dX8_sum_55 ml_X8_135 wi_X8_term wv_X8_term wn_X8 wc_X8_term hp_X8_term (by omega) (by decide) rfl (Nat.le_of_ble_eq_true rfl) ⟨Nat.zero_le _, Nat.zero_le _⟩ rfl kk0 (hrc_term kk0 q11) ?_
          refine x_aload_n 0 dX8_sum_58 rfl rfl ?_
          refine x_iload_n 1 dX8_sum_59 rfl rfl ?_
          refine x_if_eq_f (tgt := 67) dX8_sum_60 (by decide) (by decide) ?_
          refine x_iconst (v := 2) dX8_sum_63 rfl ?_
          refine x_goto (tgt := 68) dX8_sum_64 (by decide) ?_
          obtain ⟨N14, q13, h⟩ := x_bd1 h
          refine x_cv (b := p_0) (As := [.int 2]) (ci := 8) (d' := 2) (zz := yX8_emit) dX8_sum_68 ml_X8_129 wi_X8_emit wv_X8_emit wn_X8 wc_X8_emit hp_X8_emit (by omega) (by decide) rfl (Nat.le_of_ble_eq_true rfl) ⟨Nat.zero_le _, Nat.zero_le _⟩ rfl kk0 (T_X8_emit (G := G) hw kk0 q13) ?_
          refine x_goto (tgt := 4) dX8_sum_71 (by decide) ?_
          refine x_sub (L' := [(0, .ref p_0)]) [0] rfl ?_
          exact ih p_0 N14 kk0 h
        · refine x_icmp_ne_t (tgt := 42) dX8_sum_35 (by decide) c9 ?_
          refine x_iconst (v := 0) dX8_sum_42 rfl ?_
          refine x_istore_n (L' := [(0, .ref p_0), (1, .int 0)]) [1, 0] dX8_sum_43 rfl (by decide) rfl ?_
          refine x_aload_n 0 dX8_sum_44 rfl rfl ?_
          refine x_dup dX8_sum_45 rfl ?_
          refine x_geti dX8_sum_46 vc_X8 xin8 fb_X8_4 fl_X8_54 xr_X8_4 kk0 ?_
          refine x_iconst (v := 1) dX8_sum_49 rfl ?_
          refine x_iadd dX8_sum_50 ?_
          refine x_puti dX8_sum_51 vc_X8 xin8 tyX8_ok nmX8 fb_X8_4 fl_X8_54 ff_X8_4 xr_X8_4 (nf_X8_4 _) (ft_X8_4 _) kk0 ?_
          obtain ⟨N15, eN15, h⟩ := x_lt h
          refine x_nmN eN15 ?_
          refine x_aload_n 0 dX8_sum_54 rfl rfl ?_
          obtain ⟨N17, q16, h⟩ := x_bd1 h
          refine x_cv (b := p_0) (As := []) (ci := 8) (d' := (9 + D)) (zz := yX8_term) dX8_sum_55 ml_X8_135 wi_X8_term wv_X8_term wn_X8 wc_X8_term hp_X8_term (by omega) (by decide) rfl (Nat.le_of_ble_eq_true rfl) ⟨Nat.zero_le _, Nat.zero_le _⟩ rfl kk0 (hrc_term kk0 q16) ?_
          refine x_aload_n 0 dX8_sum_58 rfl rfl ?_
          refine x_iload_n 1 dX8_sum_59 rfl rfl ?_
          refine x_if_eq_t (tgt := 67) dX8_sum_60 (by decide) (by decide) ?_
          refine x_iconst (v := 3) dX8_sum_67 rfl ?_
          obtain ⟨N19, q18, h⟩ := x_bd1 h
          refine x_cv (b := p_0) (As := [.int 3]) (ci := 8) (d' := 2) (zz := yX8_emit) dX8_sum_68 ml_X8_129 wi_X8_emit wv_X8_emit wn_X8 wc_X8_emit hp_X8_emit (by omega) (by decide) rfl (Nat.le_of_ble_eq_true rfl) ⟨Nat.zero_le _, Nat.zero_le _⟩ rfl kk0 (T_X8_emit (G := G) hw kk0 q18) ?_
          refine x_goto (tgt := 4) dX8_sum_71 (by decide) ?_
          refine x_sub (L' := [(0, .ref p_0)]) [0] rfl ?_
          exact ih p_0 N19 kk0 h
      · refine x_icmp_eq_f (tgt := 29) dX8_sum_17 (by decide) c5 ?_
        refine x_aload_n 0 dX8_sum_20 rfl rfl ?_
        obtain ⟨r21, N22, q20, h⟩ := x_bd2 h
        refine x_cv (b := p_0) (As := []) (ci := 8) (d' := 2) (zz := yX8_next) dX8_sum_21 ml_X8_75 wi_X8_next wv_X8_next wn_X8 wc_X8_next hp_X8_next (by omega) (by decide) rfl (Nat.le_of_ble_eq_true rfl) ⟨Nat.zero_le _, Nat.zero_le _⟩ rfl kk0 (T_X8_next (G := G) hw kk0 q20) ?_
        refine x_bipush (v := 45) dX8_sum_24 rfl ?_
        rcases x_if h with ⟨c23, h⟩ | ⟨c23, h⟩
        · refine x_icmp_ne_f (tgt := 74) dX8_sum_26 (by decide) c23 ?_
          refine x_aload_n 0 dX8_sum_29 rfl rfl ?_
          obtain ⟨r25, N26, q24, h⟩ := x_bd2 h
          refine x_cv (b := p_0) (As := []) (ci := 8) (d' := 2) (zz := yX8_next) dX8_sum_30 ml_X8_75 wi_X8_next wv_X8_next wn_X8 wc_X8_next hp_X8_next (by omega) (by decide) rfl (Nat.le_of_ble_eq_true rfl) ⟨Nat.zero_le _, Nat.zero_le _⟩ rfl kk0 (T_X8_next (G := G) hw kk0 q24) ?_
          refine x_bipush (v := 43) dX8_sum_33 rfl ?_
          rcases x_if h with ⟨c27, h⟩ | ⟨c27, h⟩
          · refine x_icmp_ne_f (tgt := 42) dX8_sum_35 (by decide) c27 ?_
            refine x_iconst (v := 1) dX8_sum_38 rfl ?_
            refine x_goto (tgt := 43) dX8_sum_39 (by decide) ?_
            refine x_istore_n (L' := [(0, .ref p_0), (1, .int 1)]) [1, 0] dX8_sum_43 rfl (by decide) rfl ?_
            refine x_aload_n 0 dX8_sum_44 rfl rfl ?_
            refine x_dup dX8_sum_45 rfl ?_
            refine x_geti dX8_sum_46 vc_X8 xin8 fb_X8_4 fl_X8_54 xr_X8_4 kk0 ?_
            refine x_iconst (v := 1) dX8_sum_49 rfl ?_
            refine x_iadd dX8_sum_50 ?_
            refine x_puti dX8_sum_51 vc_X8 xin8 tyX8_ok nmX8 fb_X8_4 fl_X8_54 ff_X8_4 xr_X8_4 (nf_X8_4 _) (ft_X8_4 _) kk0 ?_
            obtain ⟨N28, eN28, h⟩ := x_lt h
            refine x_nmN eN28 ?_
            refine x_aload_n 0 dX8_sum_54 rfl rfl ?_
            obtain ⟨N30, q29, h⟩ := x_bd1 h
            refine x_cv (b := p_0) (As := []) (ci := 8) (d' := (9 + D)) (zz := yX8_term) dX8_sum_55 ml_X8_135 wi_X8_term wv_X8_term wn_X8 wc_X8_term hp_X8_term (by omega) (by decide) rfl (Nat.le_of_ble_eq_true rfl) ⟨Nat.zero_le _, Nat.zero_le _⟩ rfl kk0 (hrc_term kk0 q29) ?_
            refine x_aload_n 0 dX8_sum_58 rfl rfl ?_
            refine x_iload_n 1 dX8_sum_59 rfl rfl ?_
            refine x_if_eq_f (tgt := 67) dX8_sum_60 (by decide) (by decide) ?_
            refine x_iconst (v := 2) dX8_sum_63 rfl ?_
            refine x_goto (tgt := 68) dX8_sum_64 (by decide) ?_
            obtain ⟨N32, q31, h⟩ := x_bd1 h
            refine x_cv (b := p_0) (As := [.int 2]) (ci := 8) (d' := 2) (zz := yX8_emit) dX8_sum_68 ml_X8_129 wi_X8_emit wv_X8_emit wn_X8 wc_X8_emit hp_X8_emit (by omega) (by decide) rfl (Nat.le_of_ble_eq_true rfl) ⟨Nat.zero_le _, Nat.zero_le _⟩ rfl kk0 (T_X8_emit (G := G) hw kk0 q31) ?_
            refine x_goto (tgt := 4) dX8_sum_71 (by decide) ?_
            refine x_sub (L' := [(0, .ref p_0)]) [0] rfl ?_
            exact ih p_0 N32 kk0 h
          · refine x_icmp_ne_t (tgt := 42) dX8_sum_35 (by decide) c27 ?_
            refine x_iconst (v := 0) dX8_sum_42 rfl ?_
            refine x_istore_n (L' := [(0, .ref p_0), (1, .int 0)]) [1, 0] dX8_sum_43 rfl (by decide) rfl ?_
            refine x_aload_n 0 dX8_sum_44 rfl rfl ?_
            refine x_dup dX8_sum_45 rfl ?_
            refine x_geti dX8_sum_46 vc_X8 xin8 fb_X8_4 fl_X8_54 xr_X8_4 kk0 ?_
            refine x_iconst (v := 1) dX8_sum_49 rfl ?_
            refine x_iadd dX8_sum_50 ?_
            refine x_puti dX8_sum_51 vc_X8 xin8 tyX8_ok nmX8 fb_X8_4 fl_X8_54 ff_X8_4 xr_X8_4 (nf_X8_4 _) (ft_X8_4 _) kk0 ?_
            obtain ⟨N33, eN33, h⟩ := x_lt h
            refine x_nmN eN33 ?_
            refine x_aload_n 0 dX8_sum_54 rfl rfl ?_
            obtain ⟨N35, q34, h⟩ := x_bd1 h
            refine x_cv (b := p_0) (As := []) (ci := 8) (d' := (9 + D)) (zz := yX8_term) dX8_sum_55 ml_X8_135 wi_X8_term wv_X8_term wn_X8 wc_X8_term hp_X8_term (by omega) (by decide) rfl (Nat.le_of_ble_eq_true rfl) ⟨Nat.zero_le _, Nat.zero_le _⟩ rfl kk0 (hrc_term kk0 q34) ?_
            refine x_aload_n 0 dX8_sum_58 rfl rfl ?_
            refine x_iload_n 1 dX8_sum_59 rfl rfl ?_
            refine x_if_eq_t (tgt := 67) dX8_sum_60 (by decide) (by decide) ?_
            refine x_iconst (v := 3) dX8_sum_67 rfl ?_
            obtain ⟨N37, q36, h⟩ := x_bd1 h
            refine x_cv (b := p_0) (As := [.int 3]) (ci := 8) (d' := 2) (zz := yX8_emit) dX8_sum_68 ml_X8_129 wi_X8_emit wv_X8_emit wn_X8 wc_X8_emit hp_X8_emit (by omega) (by decide) rfl (Nat.le_of_ble_eq_true rfl) ⟨Nat.zero_le _, Nat.zero_le _⟩ rfl kk0 (T_X8_emit (G := G) hw kk0 q36) ?_
            refine x_goto (tgt := 4) dX8_sum_71 (by decide) ?_
            refine x_sub (L' := [(0, .ref p_0)]) [0] rfl ?_
            exact ih p_0 N37 kk0 h
        · refine x_icmp_ne_t (tgt := 74) dX8_sum_26 (by decide) c23 ?_
          obtain rfl := x_so h
          exact x_vret dX8_sum_74 rfl rfl rfl
set_option maxHeartbeats 4000000 in
set_option maxRecDepth 100000 in
theorem T_X8_sum {G : XG} {Y : XY} (hw : WT Y) {D : Nat} {rc : Nat → Nat → XN → Option XN} (hrc_sum : ∀ {a0 : Nat} {N : XN} {N9 : XN}, kc Y a0 = 18 → rc 0 a0 N = some N9 → Cl G yX8_sum cX8_sum 2 none (xR (9 + D) 0 0) [.ref a0] (.inl none) Y N Y N9) (hrc_term : ∀ {a0 : Nat} {N : XN} {N9 : XN}, kc Y a0 = 18 → rc 1 a0 N = some N9 → Cl G yX8_term cX8_term 2 none (xR (9 + D) 0 0) [.ref a0] (.inl none) Y N Y N9) (hrc_factor : ∀ {a0 : Nat} {N : XN} {N9 : XN}, kc Y a0 = 18 → rc 2 a0 N = some N9 → Cl G yX8_factor cX8_factor 4 none (xR (9 + D) 0 0) [.ref a0] (.inl none) Y N Y N9) {a0 : Nat} {N : XN} (k100 : kc Y a0 = 18) {N9 : XN} (h : b_X8_sum Y rc a0 N = some N9) : Cl G yX8_sum cX8_sum 2 none (xR (9 + D + 1) 0 0) [.ref a0] (.inl none) Y N Y N9 := by
  refine x_entry (by decide) (Nat.le_of_ble_eq_true rfl) rfl ?_
  rw [b_X8_sum] at h
  refine x_aload_n 0 dX8_sum_0 rfl rfl ?_
  obtain ⟨N2, q1, h⟩ := x_bd1 h
  refine x_cv (b := a0) (As := []) (ci := 8) (d' := (9 + D)) (zz := yX8_term) dX8_sum_1 ml_X8_135 wi_X8_term wv_X8_term wn_X8 wc_X8_term hp_X8_term (by omega) (by decide) rfl (Nat.le_of_ble_eq_true rfl) ⟨Nat.zero_le _, Nat.zero_le _⟩ rfl k100 (hrc_term k100 q1) ?_
  exact T_X8_sum_4 (G := G) hw hrc_sum hrc_term hrc_factor FU a0 N2 k100 h
set_option maxHeartbeats 4000000 in
set_option maxRecDepth 100000 in
theorem T_X8_term_4 {G : XG} {Y : XY} (hw : WT Y) {D : Nat} {rc : Nat → Nat → XN → Option XN} (hrc_sum : ∀ {a0 : Nat} {N : XN} {N9 : XN}, kc Y a0 = 18 → rc 0 a0 N = some N9 → Cl G yX8_sum cX8_sum 2 none (xR (9 + D) 0 0) [.ref a0] (.inl none) Y N Y N9) (hrc_term : ∀ {a0 : Nat} {N : XN} {N9 : XN}, kc Y a0 = 18 → rc 1 a0 N = some N9 → Cl G yX8_term cX8_term 2 none (xR (9 + D) 0 0) [.ref a0] (.inl none) Y N Y N9) (hrc_factor : ∀ {a0 : Nat} {N : XN} {N9 : XN}, kc Y a0 = 18 → rc 2 a0 N = some N9 → Cl G yX8_factor cX8_factor 4 none (xR (9 + D) 0 0) [.ref a0] (.inl none) Y N Y N9) {N9 : XN}: ∀ (D9 : Nat) (p_0 : Nat) (N : XN), kc Y p_0 = 18 → f_X8_term_4 Y rc D9 p_0 N = some N9 → Ex G yX8_term cX8_term 2 none (xR (9 + D + 1) 0 0) (.inl none) Y N9 0 0 4 [(0, .ref p_0)] [] Y N := by
  intro D9
  induction D9 with
  | zero => intro p_0 N kk0 h; exact nomatch (show none = some _ from h)
  | succ D9 ih =>
    intro p_0 N kk0 h
    rw [f_X8_term_4] at h
    refine x_aload_n 0 dX8_term_4 rfl rfl ?_
    refine x_cv (b := p_0) (As := []) (ci := 8) (d' := 1) (zz := yX8_isGood) dX8_term_5 ml_X8_71 wi_X8_isGood wv_X8_isGood wn_X8 wc_X8_isGood hp_X8_isGood (by omega) (by decide) rfl (Nat.le_of_ble_eq_true rfl) ⟨Nat.zero_le _, Nat.zero_le _⟩ rfl kk0 (T_X8_isGood (G := G) hw kk0 rfl) ?_
    rcases x_if h with ⟨c1, h⟩ | ⟨c1, h⟩
    · refine x_if_eq_t (tgt := 74) dX8_term_8 (by decide) c1 ?_
      obtain rfl := x_so h
      exact x_vret dX8_term_74 rfl rfl rfl
    · refine x_if_eq_f (tgt := 74) dX8_term_8 (by decide) c1 ?_
      refine x_aload_n 0 dX8_term_11 rfl rfl ?_
      obtain ⟨r3, N4, q2, h⟩ := x_bd2 h
      refine x_cv (b := p_0) (As := []) (ci := 8) (d' := 2) (zz := yX8_next) dX8_term_12 ml_X8_75 wi_X8_next wv_X8_next wn_X8 wc_X8_next hp_X8_next (by omega) (by decide) rfl (Nat.le_of_ble_eq_true rfl) ⟨Nat.zero_le _, Nat.zero_le _⟩ rfl kk0 (T_X8_next (G := G) hw kk0 q2) ?_
      refine x_bipush (v := 42) dX8_term_15 rfl ?_
      rcases x_if h with ⟨c5, h⟩ | ⟨c5, h⟩
      · refine x_icmp_eq_t (tgt := 29) dX8_term_17 (by decide) c5 ?_
        refine x_aload_n 0 dX8_term_29 rfl rfl ?_
        obtain ⟨r7, N8, q6, h⟩ := x_bd2 h
        refine x_cv (b := p_0) (As := []) (ci := 8) (d' := 2) (zz := yX8_next) dX8_term_30 ml_X8_75 wi_X8_next wv_X8_next wn_X8 wc_X8_next hp_X8_next (by omega) (by decide) rfl (Nat.le_of_ble_eq_true rfl) ⟨Nat.zero_le _, Nat.zero_le _⟩ rfl kk0 (T_X8_next (G := G) hw kk0 q6) ?_
        refine x_bipush (v := 42) dX8_term_33 rfl ?_
        rcases x_if h with ⟨c9, h⟩ | ⟨c9, h⟩
        · refine x_icmp_ne_f (tgt := 42) dX8_term_35 (by decide) c9 ?_
          refine x_iconst (v := 1) dX8_term_38 rfl ?_
          refine x_goto (tgt := 43) dX8_term_39 (by decide) ?_
          refine x_istore_n (L' := [(0, .ref p_0), (1, .int 1)]) [1, 0] dX8_term_43 rfl (by decide) rfl ?_
          refine x_aload_n 0 dX8_term_44 rfl rfl ?_
          refine x_dup dX8_term_45 rfl ?_
          refine x_geti dX8_term_46 vc_X8 xin8 fb_X8_4 fl_X8_54 xr_X8_4 kk0 ?_
          refine x_iconst (v := 1) dX8_term_49 rfl ?_
          refine x_iadd dX8_term_50 ?_
          refine x_puti dX8_term_51 vc_X8 xin8 tyX8_ok nmX8 fb_X8_4 fl_X8_54 ff_X8_4 xr_X8_4 (nf_X8_4 _) (ft_X8_4 _) kk0 ?_
          obtain ⟨N10, eN10, h⟩ := x_lt h
          refine x_nmN eN10 ?_
          refine x_aload_n 0 dX8_term_54 rfl rfl ?_
          obtain ⟨N12, q11, h⟩ := x_bd1 h
          refine x_cv (b := p_0) (As := []) (ci := 8) (d' := (9 + D)) (zz := yX8_factor) dX8_term_55 ml_X8_132 wi_X8_factor wv_X8_factor wn_X8 wc_X8_factor hp_X8_factor (by omega) (by decide) rfl (Nat.le_of_ble_eq_true rfl) ⟨Nat.zero_le _, Nat.zero_le _⟩ rfl kk0 (hrc_factor kk0 q11) ?_
          refine x_aload_n 0 dX8_term_58 rfl rfl ?_
          refine x_iload_n 1 dX8_term_59 rfl rfl ?_
          refine x_if_eq_f (tgt := 67) dX8_term_60 (by decide) (by decide) ?_
          refine x_iconst (v := 4) dX8_term_63 rfl ?_
          refine x_goto (tgt := 68) dX8_term_64 (by decide) ?_
          obtain ⟨N14, q13, h⟩ := x_bd1 h
          refine x_cv (b := p_0) (As := [.int 4]) (ci := 8) (d' := 2) (zz := yX8_emit) dX8_term_68 ml_X8_129 wi_X8_emit wv_X8_emit wn_X8 wc_X8_emit hp_X8_emit (by omega) (by decide) rfl (Nat.le_of_ble_eq_true rfl) ⟨Nat.zero_le _, Nat.zero_le _⟩ rfl kk0 (T_X8_emit (G := G) hw kk0 q13) ?_
          refine x_goto (tgt := 4) dX8_term_71 (by decide) ?_
          refine x_sub (L' := [(0, .ref p_0)]) [0] rfl ?_
          exact ih p_0 N14 kk0 h
        · refine x_icmp_ne_t (tgt := 42) dX8_term_35 (by decide) c9 ?_
          refine x_iconst (v := 0) dX8_term_42 rfl ?_
          refine x_istore_n (L' := [(0, .ref p_0), (1, .int 0)]) [1, 0] dX8_term_43 rfl (by decide) rfl ?_
          refine x_aload_n 0 dX8_term_44 rfl rfl ?_
          refine x_dup dX8_term_45 rfl ?_
          refine x_geti dX8_term_46 vc_X8 xin8 fb_X8_4 fl_X8_54 xr_X8_4 kk0 ?_
          refine x_iconst (v := 1) dX8_term_49 rfl ?_
          refine x_iadd dX8_term_50 ?_
          refine x_puti dX8_term_51 vc_X8 xin8 tyX8_ok nmX8 fb_X8_4 fl_X8_54 ff_X8_4 xr_X8_4 (nf_X8_4 _) (ft_X8_4 _) kk0 ?_
          obtain ⟨N15, eN15, h⟩ := x_lt h
          refine x_nmN eN15 ?_
          refine x_aload_n 0 dX8_term_54 rfl rfl ?_
          obtain ⟨N17, q16, h⟩ := x_bd1 h
          refine x_cv (b := p_0) (As := []) (ci := 8) (d' := (9 + D)) (zz := yX8_factor) dX8_term_55 ml_X8_132 wi_X8_factor wv_X8_factor wn_X8 wc_X8_factor hp_X8_factor (by omega) (by decide) rfl (Nat.le_of_ble_eq_true rfl) ⟨Nat.zero_le _, Nat.zero_le _⟩ rfl kk0 (hrc_factor kk0 q16) ?_
          refine x_aload_n 0 dX8_term_58 rfl rfl ?_
          refine x_iload_n 1 dX8_term_59 rfl rfl ?_
          refine x_if_eq_t (tgt := 67) dX8_term_60 (by decide) (by decide) ?_
          refine x_iconst (v := 5) dX8_term_67 rfl ?_
          obtain ⟨N19, q18, h⟩ := x_bd1 h
          refine x_cv (b := p_0) (As := [.int 5]) (ci := 8) (d' := 2) (zz := yX8_emit) dX8_term_68 ml_X8_129 wi_X8_emit wv_X8_emit wn_X8 wc_X8_emit hp_X8_emit (by omega) (by decide) rfl (Nat.le_of_ble_eq_true rfl) ⟨Nat.zero_le _, Nat.zero_le _⟩ rfl kk0 (T_X8_emit (G := G) hw kk0 q18) ?_
          refine x_goto (tgt := 4) dX8_term_71 (by decide) ?_
          refine x_sub (L' := [(0, .ref p_0)]) [0] rfl ?_
          exact ih p_0 N19 kk0 h
      · refine x_icmp_eq_f (tgt := 29) dX8_term_17 (by decide) c5 ?_
        refine x_aload_n 0 dX8_term_20 rfl rfl ?_
        obtain ⟨r21, N22, q20, h⟩ := x_bd2 h
        refine x_cv (b := p_0) (As := []) (ci := 8) (d' := 2) (zz := yX8_next) dX8_term_21 ml_X8_75 wi_X8_next wv_X8_next wn_X8 wc_X8_next hp_X8_next (by omega) (by decide) rfl (Nat.le_of_ble_eq_true rfl) ⟨Nat.zero_le _, Nat.zero_le _⟩ rfl kk0 (T_X8_next (G := G) hw kk0 q20) ?_
        refine x_bipush (v := 47) dX8_term_24 rfl ?_
        rcases x_if h with ⟨c23, h⟩ | ⟨c23, h⟩
        · refine x_icmp_ne_f (tgt := 74) dX8_term_26 (by decide) c23 ?_
          refine x_aload_n 0 dX8_term_29 rfl rfl ?_
          obtain ⟨r25, N26, q24, h⟩ := x_bd2 h
          refine x_cv (b := p_0) (As := []) (ci := 8) (d' := 2) (zz := yX8_next) dX8_term_30 ml_X8_75 wi_X8_next wv_X8_next wn_X8 wc_X8_next hp_X8_next (by omega) (by decide) rfl (Nat.le_of_ble_eq_true rfl) ⟨Nat.zero_le _, Nat.zero_le _⟩ rfl kk0 (T_X8_next (G := G) hw kk0 q24) ?_
          refine x_bipush (v := 42) dX8_term_33 rfl ?_
          rcases x_if h with ⟨c27, h⟩ | ⟨c27, h⟩
          · refine x_icmp_ne_f (tgt := 42) dX8_term_35 (by decide) c27 ?_
            refine x_iconst (v := 1) dX8_term_38 rfl ?_
            refine x_goto (tgt := 43) dX8_term_39 (by decide) ?_
            refine x_istore_n (L' := [(0, .ref p_0), (1, .int 1)]) [1, 0] dX8_term_43 rfl (by decide) rfl ?_
            refine x_aload_n 0 dX8_term_44 rfl rfl ?_
            refine x_dup dX8_term_45 rfl ?_
            refine x_geti dX8_term_46 vc_X8 xin8 fb_X8_4 fl_X8_54 xr_X8_4 kk0 ?_
            refine x_iconst (v := 1) dX8_term_49 rfl ?_
            refine x_iadd dX8_term_50 ?_
            refine x_puti dX8_term_51 vc_X8 xin8 tyX8_ok nmX8 fb_X8_4 fl_X8_54 ff_X8_4 xr_X8_4 (nf_X8_4 _) (ft_X8_4 _) kk0 ?_
            obtain ⟨N28, eN28, h⟩ := x_lt h
            refine x_nmN eN28 ?_
            refine x_aload_n 0 dX8_term_54 rfl rfl ?_
            obtain ⟨N30, q29, h⟩ := x_bd1 h
            refine x_cv (b := p_0) (As := []) (ci := 8) (d' := (9 + D)) (zz := yX8_factor) dX8_term_55 ml_X8_132 wi_X8_factor wv_X8_factor wn_X8 wc_X8_factor hp_X8_factor (by omega) (by decide) rfl (Nat.le_of_ble_eq_true rfl) ⟨Nat.zero_le _, Nat.zero_le _⟩ rfl kk0 (hrc_factor kk0 q29) ?_
            refine x_aload_n 0 dX8_term_58 rfl rfl ?_
            refine x_iload_n 1 dX8_term_59 rfl rfl ?_
            refine x_if_eq_f (tgt := 67) dX8_term_60 (by decide) (by decide) ?_
            refine x_iconst (v := 4) dX8_term_63 rfl ?_
            refine x_goto (tgt := 68) dX8_term_64 (by decide) ?_
            obtain ⟨N32, q31, h⟩ := x_bd1 h
            refine x_cv (b := p_0) (As := [.int 4]) (ci := 8) (d' := 2) (zz := yX8_emit) dX8_term_68 ml_X8_129 wi_X8_emit wv_X8_emit wn_X8 wc_X8_emit hp_X8_emit (by omega) (by decide) rfl (Nat.le_of_ble_eq_true rfl) ⟨Nat.zero_le _, Nat.zero_le _⟩ rfl kk0 (T_X8_emit (G := G) hw kk0 q31) ?_
            refine x_goto (tgt := 4) dX8_term_71 (by decide) ?_
            refine x_sub (L' := [(0, .ref p_0)]) [0] rfl ?_
            exact ih p_0 N32 kk0 h
          · refine x_icmp_ne_t (tgt := 42) dX8_term_35 (by decide) c27 ?_
            refine x_iconst (v := 0) dX8_term_42 rfl ?_
            refine x_istore_n (L' := [(0, .ref p_0), (1, .int 0)]) [1, 0] dX8_term_43 rfl (by decide) rfl ?_
            refine x_aload_n 0 dX8_term_44 rfl rfl ?_
            refine x_dup dX8_term_45 rfl ?_
            refine x_geti dX8_term_46 vc_X8 xin8 fb_X8_4 fl_X8_54 xr_X8_4 kk0 ?_
            refine x_iconst (v := 1) dX8_term_49 rfl ?_
            refine x_iadd dX8_term_50 ?_
            refine x_puti dX8_term_51 vc_X8 xin8 tyX8_ok nmX8 fb_X8_4 fl_X8_54 ff_X8_4 xr_X8_4 (nf_X8_4 _) (ft_X8_4 _) kk0 ?_
            obtain ⟨N33, eN33, h⟩ := x_lt h
            refine x_nmN eN33 ?_
            refine x_aload_n 0 dX8_term_54 rfl rfl ?_
            obtain ⟨N35, q34, h⟩ := x_bd1 h
            refine x_cv (b := p_0) (As := []) (ci := 8) (d' := (9 + D)) (zz := yX8_factor) dX8_term_55 ml_X8_132 wi_X8_factor wv_X8_factor wn_X8 wc_X8_factor hp_X8_factor (by omega) (by decide) rfl (Nat.le_of_ble_eq_true rfl) ⟨Nat.zero_le _, Nat.zero_le _⟩ rfl kk0 (hrc_factor kk0 q34) ?_
            refine x_aload_n 0 dX8_term_58 rfl rfl ?_
            refine x_iload_n 1 dX8_term_59 rfl rfl ?_
            refine x_if_eq_t (tgt := 67) dX8_term_60 (by decide) (by decide) ?_
            refine x_iconst (v := 5) dX8_term_67 rfl ?_
            obtain ⟨N37, q36, h⟩ := x_bd1 h
            refine x_cv (b := p_0) (As := [.int 5]) (ci := 8) (d' := 2) (zz := yX8_emit) dX8_term_68 ml_X8_129 wi_X8_emit wv_X8_emit wn_X8 wc_X8_emit hp_X8_emit (by omega) (by decide) rfl (Nat.le_of_ble_eq_true rfl) ⟨Nat.zero_le _, Nat.zero_le _⟩ rfl kk0 (T_X8_emit (G := G) hw kk0 q36) ?_
            refine x_goto (tgt := 4) dX8_term_71 (by decide) ?_
            refine x_sub (L' := [(0, .ref p_0)]) [0] rfl ?_
            exact ih p_0 N37 kk0 h
        · refine x_icmp_ne_t (tgt := 74) dX8_term_26 (by decide) c23 ?_
          obtain rfl := x_so h
          exact x_vret dX8_term_74 rfl rfl rfl
set_option maxHeartbeats 4000000 in
set_option maxRecDepth 100000 in
theorem T_X8_term {G : XG} {Y : XY} (hw : WT Y) {D : Nat} {rc : Nat → Nat → XN → Option XN} (hrc_sum : ∀ {a0 : Nat} {N : XN} {N9 : XN}, kc Y a0 = 18 → rc 0 a0 N = some N9 → Cl G yX8_sum cX8_sum 2 none (xR (9 + D) 0 0) [.ref a0] (.inl none) Y N Y N9) (hrc_term : ∀ {a0 : Nat} {N : XN} {N9 : XN}, kc Y a0 = 18 → rc 1 a0 N = some N9 → Cl G yX8_term cX8_term 2 none (xR (9 + D) 0 0) [.ref a0] (.inl none) Y N Y N9) (hrc_factor : ∀ {a0 : Nat} {N : XN} {N9 : XN}, kc Y a0 = 18 → rc 2 a0 N = some N9 → Cl G yX8_factor cX8_factor 4 none (xR (9 + D) 0 0) [.ref a0] (.inl none) Y N Y N9) {a0 : Nat} {N : XN} (k100 : kc Y a0 = 18) {N9 : XN} (h : b_X8_term Y rc a0 N = some N9) : Cl G yX8_term cX8_term 2 none (xR (9 + D + 1) 0 0) [.ref a0] (.inl none) Y N Y N9 := by
  refine x_entry (by decide) (Nat.le_of_ble_eq_true rfl) rfl ?_
  rw [b_X8_term] at h
  refine x_aload_n 0 dX8_term_0 rfl rfl ?_
  obtain ⟨N2, q1, h⟩ := x_bd1 h
  refine x_cv (b := a0) (As := []) (ci := 8) (d' := (9 + D)) (zz := yX8_factor) dX8_term_1 ml_X8_132 wi_X8_factor wv_X8_factor wn_X8 wc_X8_factor hp_X8_factor (by omega) (by decide) rfl (Nat.le_of_ble_eq_true rfl) ⟨Nat.zero_le _, Nat.zero_le _⟩ rfl k100 (hrc_factor k100 q1) ?_
  exact T_X8_term_4 (G := G) hw hrc_sum hrc_term hrc_factor FU a0 N2 k100 h
set_option maxHeartbeats 4000000 in
set_option maxRecDepth 100000 in
theorem T_X8_factor {G : XG} {Y : XY} (hw : WT Y) {D : Nat} {rc : Nat → Nat → XN → Option XN} (hrc_sum : ∀ {a0 : Nat} {N : XN} {N9 : XN}, kc Y a0 = 18 → rc 0 a0 N = some N9 → Cl G yX8_sum cX8_sum 2 none (xR (9 + D) 0 0) [.ref a0] (.inl none) Y N Y N9) (hrc_term : ∀ {a0 : Nat} {N : XN} {N9 : XN}, kc Y a0 = 18 → rc 1 a0 N = some N9 → Cl G yX8_term cX8_term 2 none (xR (9 + D) 0 0) [.ref a0] (.inl none) Y N Y N9) (hrc_factor : ∀ {a0 : Nat} {N : XN} {N9 : XN}, kc Y a0 = 18 → rc 2 a0 N = some N9 → Cl G yX8_factor cX8_factor 4 none (xR (9 + D) 0 0) [.ref a0] (.inl none) Y N Y N9) {a0 : Nat} {N : XN} (k100 : kc Y a0 = 18) {N9 : XN} (h : b_X8_factor Y rc a0 N = some N9) : Cl G yX8_factor cX8_factor 4 none (xR (9 + D + 1) 0 0) [.ref a0] (.inl none) Y N Y N9 := by
  refine x_entry (by decide) (Nat.le_of_ble_eq_true rfl) rfl ?_
  rw [b_X8_factor] at h
  refine x_aload_n 0 dX8_factor_0 rfl rfl ?_
  refine x_cv (b := a0) (As := []) (ci := 8) (d' := 1) (zz := yX8_isGood) dX8_factor_1 ml_X8_71 wi_X8_isGood wv_X8_isGood wn_X8 wc_X8_isGood hp_X8_isGood (by omega) (by decide) rfl (Nat.le_of_ble_eq_true rfl) ⟨Nat.zero_le _, Nat.zero_le _⟩ rfl k100 (T_X8_isGood (G := G) hw k100 rfl) ?_
  rcases x_if h with ⟨c1, h⟩ | ⟨c1, h⟩
  · refine x_if_ne_f (tgt := 8) dX8_factor_4 (by decide) c1 ?_
    obtain rfl := x_so h
    exact x_vret dX8_factor_7 rfl rfl rfl
  · refine x_if_ne_t (tgt := 8) dX8_factor_4 (by decide) c1 ?_
    refine x_aload_n 0 dX8_factor_8 rfl rfl ?_
    obtain ⟨r3, N4, q2, h⟩ := x_bd2 h
    refine x_cv (b := a0) (As := []) (ci := 8) (d' := 2) (zz := yX8_next) dX8_factor_9 ml_X8_75 wi_X8_next wv_X8_next wn_X8 wc_X8_next hp_X8_next (by omega) (by decide) rfl (Nat.le_of_ble_eq_true rfl) ⟨Nat.zero_le _, Nat.zero_le _⟩ rfl k100 (T_X8_next (G := G) hw k100 q2) ?_
    refine x_istore_n (L' := [(0, .ref a0), (1, .int r3)]) [1, 0] dX8_factor_12 rfl (by decide) rfl ?_
    refine x_iload_n 1 dX8_factor_13 rfl rfl ?_
    refine x_bipush (v := 40) dX8_factor_14 rfl ?_
    rcases x_if h with ⟨c5, h⟩ | ⟨c5, h⟩
    · refine x_icmp_ne_f (tgt := 78) dX8_factor_16 (by decide) c5 ?_
      refine x_aload_n 0 dX8_factor_19 rfl rfl ?_
      refine x_geti dX8_factor_20 vc_X8 xin8 fb_X8_15 fl_X8_104 xr_X8_15 k100 ?_
      refine x_iconst (v := 4) dX8_factor_23 rfl ?_
      rcases x_if h with ⟨c6, h⟩ | ⟨c6, h⟩
      · refine x_icmp_ne_f (tgt := 37) dX8_factor_24 (by decide) c6 ?_
        refine x_aload_n 0 dX8_factor_27 rfl rfl ?_
        refine x_bipush (v := (-6)) dX8_factor_28 rfl ?_
        refine x_aload_n 0 dX8_factor_30 rfl rfl ?_
        refine x_geti dX8_factor_31 vc_X8 xin8 fb_X8_4 fl_X8_54 xr_X8_4 k100 ?_
        obtain ⟨N8, q7, h⟩ := x_bd1 h
        refine x_cv (b := a0) (As := [.int (-6), .int (gi N4 a0 4)]) (ci := 8) (d' := 1) (zz := yX8_report) dX8_factor_34 ml_X8_88 wi_X8_report wv_X8_report wn_X8 wc_X8_report hp_X8_report (by omega) (by decide) rfl (Nat.le_of_ble_eq_true rfl) ⟨Nat.zero_le _, Nat.zero_le _⟩ rfl k100 (T_X8_report (G := G) hw k100 q7) ?_
        refine x_aload_n 0 dX8_factor_37 rfl rfl ?_
        refine x_dup dX8_factor_38 rfl ?_
        refine x_geti dX8_factor_39 vc_X8 xin8 fb_X8_4 fl_X8_54 xr_X8_4 k100 ?_
        refine x_iconst (v := 1) dX8_factor_42 rfl ?_
        refine x_iadd dX8_factor_43 ?_
        refine x_puti dX8_factor_44 vc_X8 xin8 tyX8_ok nmX8 fb_X8_4 fl_X8_54 ff_X8_4 xr_X8_4 (nf_X8_4 _) (ft_X8_4 _) k100 ?_
        obtain ⟨N9, eN9, h⟩ := x_lt h
        refine x_nmN eN9 ?_
        refine x_aload_n 0 dX8_factor_47 rfl rfl ?_
        refine x_dup dX8_factor_48 rfl ?_
        refine x_geti dX8_factor_49 vc_X8 xin8 fb_X8_15 fl_X8_104 xr_X8_15 k100 ?_
        refine x_iconst (v := 1) dX8_factor_52 rfl ?_
        refine x_iadd dX8_factor_53 ?_
        refine x_puti dX8_factor_54 vc_X8 xin8 tyX8_ok nmX8 fb_X8_15 fl_X8_104 ff_X8_15 xr_X8_15 (nf_X8_15 _) (ft_X8_15 _) k100 ?_
        obtain ⟨N10, eN10, h⟩ := x_lt h
        refine x_nmN eN10 ?_
        refine x_aload_n 0 dX8_factor_57 rfl rfl ?_
        obtain ⟨N12, q11, h⟩ := x_bd1 h
        refine x_cv (b := a0) (As := []) (ci := 8) (d' := (9 + D)) (zz := yX8_sum) dX8_factor_58 ml_X8_107 wi_X8_sum wv_X8_sum wn_X8 wc_X8_sum hp_X8_sum (by omega) (by decide) rfl (Nat.le_of_ble_eq_true rfl) ⟨Nat.zero_le _, Nat.zero_le _⟩ rfl k100 (hrc_sum k100 q11) ?_
        refine x_aload_n 0 dX8_factor_61 rfl rfl ?_
        refine x_bipush (v := 41) dX8_factor_62 rfl ?_
        obtain ⟨N14, q13, h⟩ := x_bd1 h
        refine x_cv (b := a0) (As := [.int 41]) (ci := 8) (d' := 3) (zz := yX8_expect) dX8_factor_64 ml_X8_110 wi_X8_expect wv_X8_expect wn_X8 wc_X8_expect hp_X8_expect (by omega) (by decide) rfl (Nat.le_of_ble_eq_true rfl) ⟨Nat.zero_le _, Nat.zero_le _⟩ rfl k100 (T_X8_expect (G := G) hw k100 q13) ?_
        refine x_aload_n 0 dX8_factor_67 rfl rfl ?_
        refine x_dup dX8_factor_68 rfl ?_
        refine x_geti dX8_factor_69 vc_X8 xin8 fb_X8_15 fl_X8_104 xr_X8_15 k100 ?_
        refine x_iconst (v := 1) dX8_factor_72 rfl ?_
        refine x_isub dX8_factor_73 ?_
        refine x_puti dX8_factor_74 vc_X8 xin8 tyX8_ok nmX8 fb_X8_15 fl_X8_104 ff_X8_15 xr_X8_15 (nf_X8_15 _) (ft_X8_15 _) k100 ?_
        obtain ⟨N15, eN15, h⟩ := x_lt h
        refine x_nmN eN15 ?_
        obtain rfl := x_so h
        exact x_vret dX8_factor_77 rfl rfl rfl
      · refine x_icmp_ne_t (tgt := 37) dX8_factor_24 (by decide) c6 ?_
        refine x_aload_n 0 dX8_factor_37 rfl rfl ?_
        refine x_dup dX8_factor_38 rfl ?_
        refine x_geti dX8_factor_39 vc_X8 xin8 fb_X8_4 fl_X8_54 xr_X8_4 k100 ?_
        refine x_iconst (v := 1) dX8_factor_42 rfl ?_
        refine x_iadd dX8_factor_43 ?_
        refine x_puti dX8_factor_44 vc_X8 xin8 tyX8_ok nmX8 fb_X8_4 fl_X8_54 ff_X8_4 xr_X8_4 (nf_X8_4 _) (ft_X8_4 _) k100 ?_
        obtain ⟨N16, eN16, h⟩ := x_lt h
        refine x_nmN eN16 ?_
        refine x_aload_n 0 dX8_factor_47 rfl rfl ?_
        refine x_dup dX8_factor_48 rfl ?_
        refine x_geti dX8_factor_49 vc_X8 xin8 fb_X8_15 fl_X8_104 xr_X8_15 k100 ?_
        refine x_iconst (v := 1) dX8_factor_52 rfl ?_
        refine x_iadd dX8_factor_53 ?_
        refine x_puti dX8_factor_54 vc_X8 xin8 tyX8_ok nmX8 fb_X8_15 fl_X8_104 ff_X8_15 xr_X8_15 (nf_X8_15 _) (ft_X8_15 _) k100 ?_
        obtain ⟨N17, eN17, h⟩ := x_lt h
        refine x_nmN eN17 ?_
        refine x_aload_n 0 dX8_factor_57 rfl rfl ?_
        obtain ⟨N19, q18, h⟩ := x_bd1 h
        refine x_cv (b := a0) (As := []) (ci := 8) (d' := (9 + D)) (zz := yX8_sum) dX8_factor_58 ml_X8_107 wi_X8_sum wv_X8_sum wn_X8 wc_X8_sum hp_X8_sum (by omega) (by decide) rfl (Nat.le_of_ble_eq_true rfl) ⟨Nat.zero_le _, Nat.zero_le _⟩ rfl k100 (hrc_sum k100 q18) ?_
        refine x_aload_n 0 dX8_factor_61 rfl rfl ?_
        refine x_bipush (v := 41) dX8_factor_62 rfl ?_
        obtain ⟨N21, q20, h⟩ := x_bd1 h
        refine x_cv (b := a0) (As := [.int 41]) (ci := 8) (d' := 3) (zz := yX8_expect) dX8_factor_64 ml_X8_110 wi_X8_expect wv_X8_expect wn_X8 wc_X8_expect hp_X8_expect (by omega) (by decide) rfl (Nat.le_of_ble_eq_true rfl) ⟨Nat.zero_le _, Nat.zero_le _⟩ rfl k100 (T_X8_expect (G := G) hw k100 q20) ?_
        refine x_aload_n 0 dX8_factor_67 rfl rfl ?_
        refine x_dup dX8_factor_68 rfl ?_
        refine x_geti dX8_factor_69 vc_X8 xin8 fb_X8_15 fl_X8_104 xr_X8_15 k100 ?_
        refine x_iconst (v := 1) dX8_factor_72 rfl ?_
        refine x_isub dX8_factor_73 ?_
        refine x_puti dX8_factor_74 vc_X8 xin8 tyX8_ok nmX8 fb_X8_15 fl_X8_104 ff_X8_15 xr_X8_15 (nf_X8_15 _) (ft_X8_15 _) k100 ?_
        obtain ⟨N22, eN22, h⟩ := x_lt h
        refine x_nmN eN22 ?_
        obtain rfl := x_so h
        exact x_vret dX8_factor_77 rfl rfl rfl
    · refine x_icmp_ne_t (tgt := 78) dX8_factor_16 (by decide) c5 ?_
      refine x_iload_n 1 dX8_factor_78 rfl rfl ?_
      obtain ⟨r24, q23, h⟩ := x_bd1 h
      refine x_cs (As := [.int r3]) (d' := 2) (zz := yX8_isDigit) dX8_factor_79 ml_X8_92 wt_X8_isDigit wn_X8 wc_X8_isDigit hp_X8_isDigit (by omega) (by decide) rfl (Nat.le_of_ble_eq_true rfl) ⟨Nat.zero_le _, Nat.zero_le _⟩ (T_X8_isDigit (G := G) hw  q23) ?_
      rcases x_if h with ⟨c25, h⟩ | ⟨c25, h⟩
      · refine x_if_eq_t (tgt := 89) dX8_factor_82 (by decide) c25 ?_
        refine x_aload_n 0 dX8_factor_89 rfl rfl ?_
        refine x_ldcS (tx := "line") (i := 2) dX8_factor_90 (by decide) ?_
        obtain ⟨r27, N28, q26, h⟩ := x_bd2 h
        refine x_cv (b := a0) (As := [.ref (xS G 2)]) (ci := 8) (d' := 8) (zz := yX8_takeWord) dX8_factor_92 ml_X8_116 wi_X8_takeWord wv_X8_takeWord wn_X8 wc_X8_takeWord hp_X8_takeWord (by omega) (by decide) rfl (Nat.le_of_ble_eq_true rfl) ⟨Nat.zero_le _, Nat.zero_le _⟩ rfl k100 (T_X8_takeWord (G := G) hw k100 q26) ?_
        rcases x_if h with ⟨c29, h⟩ | ⟨c29, h⟩
        · refine x_if_eq_t (tgt := 102) dX8_factor_95 (by decide) c29 ?_
          refine x_aload_n 0 dX8_factor_102 rfl rfl ?_
          refine x_ldcS (tx := "left") (i := 10) dX8_factor_103 (by decide) ?_
          obtain ⟨r31, N32, q30, h⟩ := x_bd2 h
          refine x_cv (b := a0) (As := [.ref (xS G 10)]) (ci := 8) (d' := 8) (zz := yX8_takeWord) dX8_factor_105 ml_X8_116 wi_X8_takeWord wv_X8_takeWord wn_X8 wc_X8_takeWord hp_X8_takeWord (by omega) (by decide) rfl (Nat.le_of_ble_eq_true rfl) ⟨Nat.zero_le _, Nat.zero_le _⟩ rfl k100 (T_X8_takeWord (G := G) hw k100 q30) ?_
          rcases x_if h with ⟨c33, h⟩ | ⟨c33, h⟩
          · refine x_if_eq_t (tgt := 115) dX8_factor_108 (by decide) c33 ?_
            refine x_aload_n 0 dX8_factor_115 rfl rfl ?_
            refine x_ldcS (tx := "held") (i := 11) dX8_factor_116 (by decide) ?_
            obtain ⟨r35, N36, q34, h⟩ := x_bd2 h
            refine x_cv (b := a0) (As := [.ref (xS G 11)]) (ci := 8) (d' := 8) (zz := yX8_takeWord) dX8_factor_118 ml_X8_116 wi_X8_takeWord wv_X8_takeWord wn_X8 wc_X8_takeWord hp_X8_takeWord (by omega) (by decide) rfl (Nat.le_of_ble_eq_true rfl) ⟨Nat.zero_le _, Nat.zero_le _⟩ rfl k100 (T_X8_takeWord (G := G) hw k100 q34) ?_
            rcases x_if h with ⟨c37, h⟩ | ⟨c37, h⟩
            · refine x_if_eq_t (tgt := 128) dX8_factor_121 (by decide) c37 ?_
              refine x_aload_n 0 dX8_factor_128 rfl rfl ?_
              refine x_ldcS (tx := "waited") (i := 12) dX8_factor_129 (by decide) ?_
              obtain ⟨r39, N40, q38, h⟩ := x_bd2 h
              refine x_cv (b := a0) (As := [.ref (xS G 12)]) (ci := 8) (d' := 8) (zz := yX8_takeWord) dX8_factor_131 ml_X8_116 wi_X8_takeWord wv_X8_takeWord wn_X8 wc_X8_takeWord hp_X8_takeWord (by omega) (by decide) rfl (Nat.le_of_ble_eq_true rfl) ⟨Nat.zero_le _, Nat.zero_le _⟩ rfl k100 (T_X8_takeWord (G := G) hw k100 q38) ?_
              rcases x_if h with ⟨c41, h⟩ | ⟨c41, h⟩
              · refine x_if_eq_t (tgt := 141) dX8_factor_134 (by decide) c41 ?_
                refine x_iconst (v := (-1)) dX8_factor_141 rfl ?_
                refine x_istore_n (L' := [(0, .ref a0), (2, .int (-1))]) [1, 0] dX8_factor_142 rfl (by decide) rfl ?_
                refine x_iload_n 1 dX8_factor_143 rfl rfl ?_
                refine x_if_ge_f (tgt := 158) dX8_factor_144 (by decide) (by decide) ?_
                refine x_aload_n 0 dX8_factor_147 rfl rfl ?_
                refine x_iconst (v := 0) dX8_factor_148 rfl ?_
                refine x_sipush (v := 9999) dX8_factor_149 rfl ?_
                obtain ⟨r43, N44, q42, h⟩ := x_bd2 h
                refine x_cv (b := a0) (As := [.int 0, .int 9999]) (ci := 8) (d' := 3) (zz := yX8_number) dX8_factor_152 ml_X8_126 wi_X8_number wv_X8_number wn_X8 wc_X8_number hp_X8_number (by omega) (by decide) rfl (Nat.le_of_ble_eq_true rfl) ⟨Nat.zero_le _, Nat.zero_le _⟩ rfl k100 (T_X8_number (G := G) hw k100 q42) ?_
                refine x_goto (tgt := 159) dX8_factor_155 (by decide) ?_
                refine x_istore_n (L' := [(0, .ref a0), (2, .int (-1)), (3, .int r43)]) [1, 2, 0] dX8_factor_159 rfl (by decide) rfl ?_
                refine x_aload_n 0 dX8_factor_160 rfl rfl ?_
                refine x_iload_n 1 dX8_factor_161 rfl rfl ?_
                refine x_if_ge_f (tgt := 169) dX8_factor_162 (by decide) (by decide) ?_
                refine x_iconst (v := 0) dX8_factor_165 rfl ?_
                refine x_goto (tgt := 170) dX8_factor_166 (by decide) ?_
                obtain ⟨N46, q45, h⟩ := x_bd1 h
                refine x_cv (b := a0) (As := [.int 0]) (ci := 8) (d' := 2) (zz := yX8_emit) dX8_factor_170 ml_X8_129 wi_X8_emit wv_X8_emit wn_X8 wc_X8_emit hp_X8_emit (by omega) (by decide) rfl (Nat.le_of_ble_eq_true rfl) ⟨Nat.zero_le _, Nat.zero_le _⟩ rfl k100 (T_X8_emit (G := G) hw k100 q45) ?_
                refine x_aload_n 0 dX8_factor_173 rfl rfl ?_
                refine x_iload_n 2 dX8_factor_174 rfl rfl ?_
                obtain ⟨N48, q47, h⟩ := x_bd1 h
                refine x_cv (b := a0) (As := [.int r43]) (ci := 8) (d' := 2) (zz := yX8_emit) dX8_factor_175 ml_X8_129 wi_X8_emit wv_X8_emit wn_X8 wc_X8_emit hp_X8_emit (by omega) (by decide) rfl (Nat.le_of_ble_eq_true rfl) ⟨Nat.zero_le _, Nat.zero_le _⟩ rfl k100 (T_X8_emit (G := G) hw k100 q47) ?_
                obtain rfl := x_so h
                exact x_vret dX8_factor_178 rfl rfl rfl
              · refine x_if_eq_f (tgt := 141) dX8_factor_134 (by decide) c41 ?_
                refine x_iconst (v := 3) dX8_factor_137 rfl ?_
                refine x_goto (tgt := 142) dX8_factor_138 (by decide) ?_
                refine x_istore_n (L' := [(0, .ref a0), (2, .int 3)]) [1, 0] dX8_factor_142 rfl (by decide) rfl ?_
                refine x_iload_n 1 dX8_factor_143 rfl rfl ?_
                refine x_if_ge_t (tgt := 158) dX8_factor_144 (by decide) (by decide) ?_
                refine x_iload_n 1 dX8_factor_158 rfl rfl ?_
                refine x_istore_n (L' := [(0, .ref a0), (2, .int 3), (3, .int 3)]) [1, 2, 0] dX8_factor_159 rfl (by decide) rfl ?_
                refine x_aload_n 0 dX8_factor_160 rfl rfl ?_
                refine x_iload_n 1 dX8_factor_161 rfl rfl ?_
                refine x_if_ge_t (tgt := 169) dX8_factor_162 (by decide) (by decide) ?_
                refine x_iconst (v := 1) dX8_factor_169 rfl ?_
                obtain ⟨N50, q49, h⟩ := x_bd1 h
                refine x_cv (b := a0) (As := [.int 1]) (ci := 8) (d' := 2) (zz := yX8_emit) dX8_factor_170 ml_X8_129 wi_X8_emit wv_X8_emit wn_X8 wc_X8_emit hp_X8_emit (by omega) (by decide) rfl (Nat.le_of_ble_eq_true rfl) ⟨Nat.zero_le _, Nat.zero_le _⟩ rfl k100 (T_X8_emit (G := G) hw k100 q49) ?_
                refine x_aload_n 0 dX8_factor_173 rfl rfl ?_
                refine x_iload_n 2 dX8_factor_174 rfl rfl ?_
                obtain ⟨N52, q51, h⟩ := x_bd1 h
                refine x_cv (b := a0) (As := [.int 3]) (ci := 8) (d' := 2) (zz := yX8_emit) dX8_factor_175 ml_X8_129 wi_X8_emit wv_X8_emit wn_X8 wc_X8_emit hp_X8_emit (by omega) (by decide) rfl (Nat.le_of_ble_eq_true rfl) ⟨Nat.zero_le _, Nat.zero_le _⟩ rfl k100 (T_X8_emit (G := G) hw k100 q51) ?_
                obtain rfl := x_so h
                exact x_vret dX8_factor_178 rfl rfl rfl
            · refine x_if_eq_f (tgt := 128) dX8_factor_121 (by decide) c37 ?_
              refine x_iconst (v := 2) dX8_factor_124 rfl ?_
              refine x_goto (tgt := 142) dX8_factor_125 (by decide) ?_
              refine x_istore_n (L' := [(0, .ref a0), (2, .int 2)]) [1, 0] dX8_factor_142 rfl (by decide) rfl ?_
              refine x_iload_n 1 dX8_factor_143 rfl rfl ?_
              refine x_if_ge_t (tgt := 158) dX8_factor_144 (by decide) (by decide) ?_
              refine x_iload_n 1 dX8_factor_158 rfl rfl ?_
              refine x_istore_n (L' := [(0, .ref a0), (2, .int 2), (3, .int 2)]) [1, 2, 0] dX8_factor_159 rfl (by decide) rfl ?_
              refine x_aload_n 0 dX8_factor_160 rfl rfl ?_
              refine x_iload_n 1 dX8_factor_161 rfl rfl ?_
              refine x_if_ge_t (tgt := 169) dX8_factor_162 (by decide) (by decide) ?_
              refine x_iconst (v := 1) dX8_factor_169 rfl ?_
              obtain ⟨N54, q53, h⟩ := x_bd1 h
              refine x_cv (b := a0) (As := [.int 1]) (ci := 8) (d' := 2) (zz := yX8_emit) dX8_factor_170 ml_X8_129 wi_X8_emit wv_X8_emit wn_X8 wc_X8_emit hp_X8_emit (by omega) (by decide) rfl (Nat.le_of_ble_eq_true rfl) ⟨Nat.zero_le _, Nat.zero_le _⟩ rfl k100 (T_X8_emit (G := G) hw k100 q53) ?_
              refine x_aload_n 0 dX8_factor_173 rfl rfl ?_
              refine x_iload_n 2 dX8_factor_174 rfl rfl ?_
              obtain ⟨N56, q55, h⟩ := x_bd1 h
              refine x_cv (b := a0) (As := [.int 2]) (ci := 8) (d' := 2) (zz := yX8_emit) dX8_factor_175 ml_X8_129 wi_X8_emit wv_X8_emit wn_X8 wc_X8_emit hp_X8_emit (by omega) (by decide) rfl (Nat.le_of_ble_eq_true rfl) ⟨Nat.zero_le _, Nat.zero_le _⟩ rfl k100 (T_X8_emit (G := G) hw k100 q55) ?_
              obtain rfl := x_so h
              exact x_vret dX8_factor_178 rfl rfl rfl
          · refine x_if_eq_f (tgt := 115) dX8_factor_108 (by decide) c33 ?_
            refine x_iconst (v := 1) dX8_factor_111 rfl ?_
            refine x_goto (tgt := 142) dX8_factor_112 (by decide) ?_
            refine x_istore_n (L' := [(0, .ref a0), (2, .int 1)]) [1, 0] dX8_factor_142 rfl (by decide) rfl ?_
            refine x_iload_n 1 dX8_factor_143 rfl rfl ?_
            refine x_if_ge_t (tgt := 158) dX8_factor_144 (by decide) (by decide) ?_
            refine x_iload_n 1 dX8_factor_158 rfl rfl ?_
            refine x_istore_n (L' := [(0, .ref a0), (2, .int 1), (3, .int 1)]) [1, 2, 0] dX8_factor_159 rfl (by decide) rfl ?_
            refine x_aload_n 0 dX8_factor_160 rfl rfl ?_
            refine x_iload_n 1 dX8_factor_161 rfl rfl ?_
            refine x_if_ge_t (tgt := 169) dX8_factor_162 (by decide) (by decide) ?_
            refine x_iconst (v := 1) dX8_factor_169 rfl ?_
            obtain ⟨N58, q57, h⟩ := x_bd1 h
            refine x_cv (b := a0) (As := [.int 1]) (ci := 8) (d' := 2) (zz := yX8_emit) dX8_factor_170 ml_X8_129 wi_X8_emit wv_X8_emit wn_X8 wc_X8_emit hp_X8_emit (by omega) (by decide) rfl (Nat.le_of_ble_eq_true rfl) ⟨Nat.zero_le _, Nat.zero_le _⟩ rfl k100 (T_X8_emit (G := G) hw k100 q57) ?_
            refine x_aload_n 0 dX8_factor_173 rfl rfl ?_
            refine x_iload_n 2 dX8_factor_174 rfl rfl ?_
            obtain ⟨N60, q59, h⟩ := x_bd1 h
            refine x_cv (b := a0) (As := [.int 1]) (ci := 8) (d' := 2) (zz := yX8_emit) dX8_factor_175 ml_X8_129 wi_X8_emit wv_X8_emit wn_X8 wc_X8_emit hp_X8_emit (by omega) (by decide) rfl (Nat.le_of_ble_eq_true rfl) ⟨Nat.zero_le _, Nat.zero_le _⟩ rfl k100 (T_X8_emit (G := G) hw k100 q59) ?_
            obtain rfl := x_so h
            exact x_vret dX8_factor_178 rfl rfl rfl
        · refine x_if_eq_f (tgt := 102) dX8_factor_95 (by decide) c29 ?_
          refine x_iconst (v := 0) dX8_factor_98 rfl ?_
          refine x_goto (tgt := 142) dX8_factor_99 (by decide) ?_
          refine x_istore_n (L' := [(0, .ref a0), (2, .int 0)]) [1, 0] dX8_factor_142 rfl (by decide) rfl ?_
          refine x_iload_n 1 dX8_factor_143 rfl rfl ?_
          refine x_if_ge_t (tgt := 158) dX8_factor_144 (by decide) (by decide) ?_
          refine x_iload_n 1 dX8_factor_158 rfl rfl ?_
          refine x_istore_n (L' := [(0, .ref a0), (2, .int 0), (3, .int 0)]) [1, 2, 0] dX8_factor_159 rfl (by decide) rfl ?_
          refine x_aload_n 0 dX8_factor_160 rfl rfl ?_
          refine x_iload_n 1 dX8_factor_161 rfl rfl ?_
          refine x_if_ge_t (tgt := 169) dX8_factor_162 (by decide) (by decide) ?_
          refine x_iconst (v := 1) dX8_factor_169 rfl ?_
          obtain ⟨N62, q61, h⟩ := x_bd1 h
          refine x_cv (b := a0) (As := [.int 1]) (ci := 8) (d' := 2) (zz := yX8_emit) dX8_factor_170 ml_X8_129 wi_X8_emit wv_X8_emit wn_X8 wc_X8_emit hp_X8_emit (by omega) (by decide) rfl (Nat.le_of_ble_eq_true rfl) ⟨Nat.zero_le _, Nat.zero_le _⟩ rfl k100 (T_X8_emit (G := G) hw k100 q61) ?_
          refine x_aload_n 0 dX8_factor_173 rfl rfl ?_
          refine x_iload_n 2 dX8_factor_174 rfl rfl ?_
          obtain ⟨N64, q63, h⟩ := x_bd1 h
          refine x_cv (b := a0) (As := [.int 0]) (ci := 8) (d' := 2) (zz := yX8_emit) dX8_factor_175 ml_X8_129 wi_X8_emit wv_X8_emit wn_X8 wc_X8_emit hp_X8_emit (by omega) (by decide) rfl (Nat.le_of_ble_eq_true rfl) ⟨Nat.zero_le _, Nat.zero_le _⟩ rfl k100 (T_X8_emit (G := G) hw k100 q63) ?_
          obtain rfl := x_so h
          exact x_vret dX8_factor_178 rfl rfl rfl
      · refine x_if_eq_f (tgt := 89) dX8_factor_82 (by decide) c25 ?_
        refine x_iconst (v := (-1)) dX8_factor_85 rfl ?_
        refine x_goto (tgt := 142) dX8_factor_86 (by decide) ?_
        refine x_istore_n (L' := [(0, .ref a0), (2, .int (-1))]) [1, 0] dX8_factor_142 rfl (by decide) rfl ?_
        refine x_iload_n 1 dX8_factor_143 rfl rfl ?_
        refine x_if_ge_f (tgt := 158) dX8_factor_144 (by decide) (by decide) ?_
        refine x_aload_n 0 dX8_factor_147 rfl rfl ?_
        refine x_iconst (v := 0) dX8_factor_148 rfl ?_
        refine x_sipush (v := 9999) dX8_factor_149 rfl ?_
        obtain ⟨r66, N67, q65, h⟩ := x_bd2 h
        refine x_cv (b := a0) (As := [.int 0, .int 9999]) (ci := 8) (d' := 3) (zz := yX8_number) dX8_factor_152 ml_X8_126 wi_X8_number wv_X8_number wn_X8 wc_X8_number hp_X8_number (by omega) (by decide) rfl (Nat.le_of_ble_eq_true rfl) ⟨Nat.zero_le _, Nat.zero_le _⟩ rfl k100 (T_X8_number (G := G) hw k100 q65) ?_
        refine x_goto (tgt := 159) dX8_factor_155 (by decide) ?_
        refine x_istore_n (L' := [(0, .ref a0), (2, .int (-1)), (3, .int r66)]) [1, 2, 0] dX8_factor_159 rfl (by decide) rfl ?_
        refine x_aload_n 0 dX8_factor_160 rfl rfl ?_
        refine x_iload_n 1 dX8_factor_161 rfl rfl ?_
        refine x_if_ge_f (tgt := 169) dX8_factor_162 (by decide) (by decide) ?_
        refine x_iconst (v := 0) dX8_factor_165 rfl ?_
        refine x_goto (tgt := 170) dX8_factor_166 (by decide) ?_
        obtain ⟨N69, q68, h⟩ := x_bd1 h
        refine x_cv (b := a0) (As := [.int 0]) (ci := 8) (d' := 2) (zz := yX8_emit) dX8_factor_170 ml_X8_129 wi_X8_emit wv_X8_emit wn_X8 wc_X8_emit hp_X8_emit (by omega) (by decide) rfl (Nat.le_of_ble_eq_true rfl) ⟨Nat.zero_le _, Nat.zero_le _⟩ rfl k100 (T_X8_emit (G := G) hw k100 q68) ?_
        refine x_aload_n 0 dX8_factor_173 rfl rfl ?_
        refine x_iload_n 2 dX8_factor_174 rfl rfl ?_
        obtain ⟨N71, q70, h⟩ := x_bd1 h
        refine x_cv (b := a0) (As := [.int r66]) (ci := 8) (d' := 2) (zz := yX8_emit) dX8_factor_175 ml_X8_129 wi_X8_emit wv_X8_emit wn_X8 wc_X8_emit hp_X8_emit (by omega) (by decide) rfl (Nat.le_of_ble_eq_true rfl) ⟨Nat.zero_le _, Nat.zero_le _⟩ rfl k100 (T_X8_emit (G := G) hw k100 q70) ?_
        obtain rfl := x_so h
        exact x_vret dX8_factor_178 rfl rfl rfl
theorem T_X8_S {G : XG} {Y : XY} (hw : WT Y) : ∀ D : Nat, (∀ {a0 : Nat} {N : XN} {N9 : XN}, kc Y a0 = 18 → f_X8_S Y D 0 a0 N = some N9 → Cl G yX8_sum cX8_sum 2 none (xR (9 + D) 0 0) [.ref a0] (.inl none) Y N Y N9) ∧ (∀ {a0 : Nat} {N : XN} {N9 : XN}, kc Y a0 = 18 → f_X8_S Y D 1 a0 N = some N9 → Cl G yX8_term cX8_term 2 none (xR (9 + D) 0 0) [.ref a0] (.inl none) Y N Y N9) ∧ (∀ {a0 : Nat} {N : XN} {N9 : XN}, kc Y a0 = 18 → f_X8_S Y D 2 a0 N = some N9 → Cl G yX8_factor cX8_factor 4 none (xR (9 + D) 0 0) [.ref a0] (.inl none) Y N Y N9) := by
  intro D
  induction D with
  | zero => exact ⟨fun _ h => (nomatch h), fun _ h => (nomatch h), fun _ h => (nomatch h)⟩
  | succ D ih =>
    obtain ⟨h0, h1, h2⟩ := ih
    refine ⟨fun k h => ?_, fun k h => ?_, fun k h => ?_⟩
    · exact T_X8_sum (G := G) hw (rc := f_X8_S Y D) (fun k h => h0 k h) (fun k h => h1 k h) (fun k h => h2 k h) k h
    · exact T_X8_term (G := G) hw (rc := f_X8_S Y D) (fun k h => h0 k h) (fun k h => h1 k h) (fun k h => h2 k h) k h
    · exact T_X8_factor (G := G) hw (rc := f_X8_S Y D) (fun k h => h0 k h) (fun k h => h1 k h) (fun k h => h2 k h) k h
theorem T_X8_S0 {G : XG} {Y : XY} (hw : WT Y) {a0 : Nat} {N : XN} (k : kc Y a0 = 18) (D : Nat) {N9 : XN} (h : f_X8_S Y D 0 a0 N = some N9) : Cl G yX8_sum cX8_sum 2 none (xR (9 + D) 0 0) [.ref a0] (.inl none) Y N Y N9 := (T_X8_S hw D).1 k h
theorem T_X8_S1 {G : XG} {Y : XY} (hw : WT Y) {a0 : Nat} {N : XN} (k : kc Y a0 = 18) (D : Nat) {N9 : XN} (h : f_X8_S Y D 1 a0 N = some N9) : Cl G yX8_term cX8_term 2 none (xR (9 + D) 0 0) [.ref a0] (.inl none) Y N Y N9 := (T_X8_S hw D).2.1 k h
theorem T_X8_S2 {G : XG} {Y : XY} (hw : WT Y) {a0 : Nat} {N : XN} (k : kc Y a0 = 18) (D : Nat) {N9 : XN} (h : f_X8_S Y D 2 a0 N = some N9) : Cl G yX8_factor cX8_factor 4 none (xR (9 + D) 0 0) [.ref a0] (.inl none) Y N Y N9 := (T_X8_S hw D).2.2 k h
set_option maxHeartbeats 4000000 in
set_option maxRecDepth 100000 in
theorem T_X8_once {G : XG} {Y : XY} (hw : WT Y) {a0 : Nat} {a1 : Int32} {a2 : Int32} {N : XN} (k100 : kc Y a0 = 18) {N9 : XN} (h : f_X8_once Y a0 a1 a2 N = some N9) : Cl G yX8_once cX8_once 3 none (xR 2 0 0) [.ref a0, .int a1, .int a2] (.inl none) Y N Y N9 := by
  refine x_entry (by decide) (Nat.le_of_ble_eq_true rfl) rfl ?_
  rw [f_X8_once] at h
  refine x_aload_n 0 dX8_once_0 rfl rfl ?_
  refine x_geti dX8_once_1 vc_X8 xin8 fb_X8_16 fl_X8_138 xr_X8_16 k100 ?_
  refine x_iload_n 1 dX8_once_4 rfl rfl ?_
  refine x_ishr dX8_once_5 ?_
  refine x_iconst (v := 1) dX8_once_6 rfl ?_
  refine x_iand dX8_once_7 ?_
  refine x_iconst (v := 1) dX8_once_8 rfl ?_
  rcases x_if h with ⟨c1, h⟩ | ⟨c1, h⟩
  · refine x_icmp_ne_f (tgt := 19) dX8_once_9 (by decide) c1 ?_
    refine x_aload_n 0 dX8_once_12 rfl rfl ?_
    refine x_bipush (v := (-2)) dX8_once_13 rfl ?_
    refine x_iload_n 2 dX8_once_15 rfl rfl ?_
    obtain ⟨N3, q2, h⟩ := x_bd1 h
    refine x_cv (b := a0) (As := [.int (-2), .int a2]) (ci := 8) (d' := 1) (zz := yX8_report) dX8_once_16 ml_X8_88 wi_X8_report wv_X8_report wn_X8 wc_X8_report hp_X8_report (by decide) (by decide) rfl (Nat.le_of_ble_eq_true rfl) ⟨Nat.zero_le _, Nat.zero_le _⟩ rfl k100 (T_X8_report (G := G) hw k100 q2) ?_
    refine x_aload_n 0 dX8_once_19 rfl rfl ?_
    refine x_dup dX8_once_20 rfl ?_
    refine x_geti dX8_once_21 vc_X8 xin8 fb_X8_16 fl_X8_138 xr_X8_16 k100 ?_
    refine x_iconst (v := 1) dX8_once_24 rfl ?_
    refine x_iload_n 1 dX8_once_25 rfl rfl ?_
    refine x_ishl dX8_once_26 ?_
    refine x_ior dX8_once_27 ?_
    refine x_puti dX8_once_28 vc_X8 xin8 tyX8_ok nmX8 fb_X8_16 fl_X8_138 ff_X8_16 xr_X8_16 (nf_X8_16 _) (ft_X8_16 _) k100 ?_
    obtain ⟨N4, eN4, h⟩ := x_lt h
    refine x_nmN eN4 ?_
    obtain rfl := x_so h
    exact x_vret dX8_once_31 rfl rfl rfl
  · refine x_icmp_ne_t (tgt := 19) dX8_once_9 (by decide) c1 ?_
    refine x_aload_n 0 dX8_once_19 rfl rfl ?_
    refine x_dup dX8_once_20 rfl ?_
    refine x_geti dX8_once_21 vc_X8 xin8 fb_X8_16 fl_X8_138 xr_X8_16 k100 ?_
    refine x_iconst (v := 1) dX8_once_24 rfl ?_
    refine x_iload_n 1 dX8_once_25 rfl rfl ?_
    refine x_ishl dX8_once_26 ?_
    refine x_ior dX8_once_27 ?_
    refine x_puti dX8_once_28 vc_X8 xin8 tyX8_ok nmX8 fb_X8_16 fl_X8_138 ff_X8_16 xr_X8_16 (nf_X8_16 _) (ft_X8_16 _) k100 ?_
    obtain ⟨N5, eN5, h⟩ := x_lt h
    refine x_nmN eN5 ?_
    obtain rfl := x_so h
    exact x_vret dX8_once_31 rfl rfl rfl
set_option maxHeartbeats 4000000 in
set_option maxRecDepth 100000 in
theorem T_X8_readHandler {G : XG} {Y : XY} (hw : WT Y) {a0 : Nat} {a1 : Int32} {N : XN} (k100 : kc Y a0 = 18) {N9 : XN} (h : f_X8_readHandler Y a0 a1 N = some N9) : Cl G yX8_readHandler cX8_readHandler 4 none (xR 4 0 0) [.ref a0, .int a1] (.inl none) Y N Y N9 := by
  refine x_entry (by decide) (Nat.le_of_ble_eq_true rfl) rfl ?_
  rw [f_X8_readHandler] at h
  refine x_aload_n 0 dX8_readHandler_0 rfl rfl ?_
  obtain ⟨g1, k2, n3⟩ := wt_X8_9 hw k100
  refine x_getr dX8_readHandler_1 vc_X8 xin8 fb_X8_9 fl_X8_20 xr_X8_9 k100 g1 ?_
  refine x_iconst (v := 1) dX8_readHandler_4 rfl ?_
  refine x_iald dX8_readHandler_5 k2 (xb_at n3 xbl_1_1784) xl_1 ?_
  refine x_bipush (v := 6) dX8_readHandler_6 rfl ?_
  rcases x_if h with ⟨c4, h⟩ | ⟨c4, h⟩
  · refine x_icmp_ne_f (tgt := 18) dX8_readHandler_8 (by decide) c4 ?_
    refine x_aload_n 0 dX8_readHandler_11 rfl rfl ?_
    refine x_bipush (v := (-5)) dX8_readHandler_12 rfl ?_
    refine x_iload_n 1 dX8_readHandler_14 rfl rfl ?_
    obtain ⟨N6, q5, h⟩ := x_bd1 h
    refine x_cv (b := a0) (As := [.int (-5), .int a1]) (ci := 8) (d' := 1) (zz := yX8_report) dX8_readHandler_15 ml_X8_88 wi_X8_report wv_X8_report wn_X8 wc_X8_report hp_X8_report (by decide) (by decide) rfl (Nat.le_of_ble_eq_true rfl) ⟨Nat.zero_le _, Nat.zero_le _⟩ rfl k100 (T_X8_report (G := G) hw k100 q5) ?_
    refine x_aload_n 0 dX8_readHandler_18 rfl rfl ?_
    refine x_iconst (v := 0) dX8_readHandler_19 rfl ?_
    refine x_sipush (v := 9999) dX8_readHandler_20 rfl ?_
    obtain ⟨r8, N9, q7, h⟩ := x_bd2 h
    refine x_cv (b := a0) (As := [.int 0, .int 9999]) (ci := 8) (d' := 3) (zz := yX8_number) dX8_readHandler_23 ml_X8_126 wi_X8_number wv_X8_number wn_X8 wc_X8_number hp_X8_number (by decide) (by decide) rfl (Nat.le_of_ble_eq_true rfl) ⟨Nat.zero_le _, Nat.zero_le _⟩ rfl k100 (T_X8_number (G := G) hw k100 q7) ?_
    refine x_istore_n (L' := [(0, .ref a0), (2, .int r8)]) [1, 0] dX8_readHandler_26 rfl (by decide) rfl ?_
    refine x_aload_n 0 dX8_readHandler_27 rfl rfl ?_
    refine x_iconst (v := 1) dX8_readHandler_28 rfl ?_
    refine x_bipush (v := 20) dX8_readHandler_29 rfl ?_
    obtain ⟨r11, N12, q10, h⟩ := x_bd2 h
    refine x_cv (b := a0) (As := [.int 1, .int 20]) (ci := 8) (d' := 3) (zz := yX8_number) dX8_readHandler_31 ml_X8_126 wi_X8_number wv_X8_number wn_X8 wc_X8_number hp_X8_number (by decide) (by decide) rfl (Nat.le_of_ble_eq_true rfl) ⟨Nat.zero_le _, Nat.zero_le _⟩ rfl k100 (T_X8_number (G := G) hw k100 q10) ?_
    refine x_istore_n (L' := [(0, .ref a0), (2, .int r8), (3, .int r11)]) [1, 2, 0] dX8_readHandler_34 rfl (by decide) rfl ?_
    refine x_aload_n 0 dX8_readHandler_35 rfl rfl ?_
    refine x_cv (b := a0) (As := []) (ci := 8) (d' := 1) (zz := yX8_isGood) dX8_readHandler_36 ml_X8_71 wi_X8_isGood wv_X8_isGood wn_X8 wc_X8_isGood hp_X8_isGood (by decide) (by decide) rfl (Nat.le_of_ble_eq_true rfl) ⟨Nat.zero_le _, Nat.zero_le _⟩ rfl k100 (T_X8_isGood (G := G) hw k100 rfl) ?_
    rcases x_if h with ⟨c13, h⟩ | ⟨c13, h⟩
    · refine x_if_ne_f (tgt := 43) dX8_readHandler_39 (by decide) c13 ?_
      obtain rfl := x_so h
      exact x_vret dX8_readHandler_42 rfl rfl rfl
    · refine x_if_ne_t (tgt := 43) dX8_readHandler_39 (by decide) c13 ?_
      refine x_aload_n 0 dX8_readHandler_43 rfl rfl ?_
      refine x_getr dX8_readHandler_44 vc_X8 xin8 fb_X8_9 fl_X8_20 xr_X8_9 k100 g1 ?_
      refine x_bipush (v := 12) dX8_readHandler_47 rfl ?_
      refine x_bipush (v := 6) dX8_readHandler_49 rfl ?_
      refine x_aload_n 0 dX8_readHandler_51 rfl rfl ?_
      refine x_getr dX8_readHandler_52 vc_X8 xin8 fb_X8_9 fl_X8_20 xr_X8_9 k100 g1 ?_
      refine x_iconst (v := 1) dX8_readHandler_55 rfl ?_
      refine x_iald dX8_readHandler_56 k2 (xb_at n3 xbl_1_1784) xl_1 ?_
      refine x_imul dX8_readHandler_57 ?_
      refine x_iadd dX8_readHandler_58 ?_
      refine x_iconst (v := 0) dX8_readHandler_59 rfl ?_
      refine x_iadd dX8_readHandler_60 ?_
      refine x_iload_n 1 dX8_readHandler_61 rfl rfl ?_
      obtain ⟨c14, h⟩ := x_ck h
      refine x_iast dX8_readHandler_62 k2 (xb_at n3 c14) rfl ?_
      obtain ⟨N15, eN15, h⟩ := x_lt h
      refine x_nmN eN15 ?_
      refine x_aload_n 0 dX8_readHandler_63 rfl rfl ?_
      refine x_getr dX8_readHandler_64 vc_X8 xin8 fb_X8_9 fl_X8_20 xr_X8_9 k100 g1 ?_
      refine x_bipush (v := 12) dX8_readHandler_67 rfl ?_
      refine x_bipush (v := 6) dX8_readHandler_69 rfl ?_
      refine x_aload_n 0 dX8_readHandler_71 rfl rfl ?_
      refine x_getr dX8_readHandler_72 vc_X8 xin8 fb_X8_9 fl_X8_20 xr_X8_9 k100 g1 ?_
      refine x_iconst (v := 1) dX8_readHandler_75 rfl ?_
      refine x_iald dX8_readHandler_76 k2 (xb_at n3 xbl_1_1784) xl_1 ?_
      refine x_imul dX8_readHandler_77 ?_
      refine x_iadd dX8_readHandler_78 ?_
      refine x_iconst (v := 1) dX8_readHandler_79 rfl ?_
      refine x_iadd dX8_readHandler_80 ?_
      refine x_iload_n 2 dX8_readHandler_81 rfl rfl ?_
      obtain ⟨c16, h⟩ := x_ck h
      refine x_iast dX8_readHandler_82 k2 (xb_at n3 c16) rfl ?_
      obtain ⟨N17, eN17, h⟩ := x_lt h
      refine x_nmN eN17 ?_
      refine x_aload_n 0 dX8_readHandler_83 rfl rfl ?_
      refine x_getr dX8_readHandler_84 vc_X8 xin8 fb_X8_9 fl_X8_20 xr_X8_9 k100 g1 ?_
      refine x_iconst (v := 1) dX8_readHandler_87 rfl ?_
      refine x_dup2 dX8_readHandler_88 rfl rfl ?_
      refine x_iald dX8_readHandler_89 k2 (xb_at n3 xbl_1_1784) xl_1 ?_
      refine x_iconst (v := 1) dX8_readHandler_90 rfl ?_
      refine x_iadd dX8_readHandler_91 ?_
      refine x_iast dX8_readHandler_92 k2 (xb_at n3 xbl_1_1784) xl_1 ?_
      obtain ⟨N18, eN18, h⟩ := x_lt h
      refine x_nmN eN18 ?_
      obtain rfl := x_so h
      exact x_vret dX8_readHandler_93 rfl rfl rfl
  · refine x_icmp_ne_t (tgt := 18) dX8_readHandler_8 (by decide) c4 ?_
    refine x_aload_n 0 dX8_readHandler_18 rfl rfl ?_
    refine x_iconst (v := 0) dX8_readHandler_19 rfl ?_
    refine x_sipush (v := 9999) dX8_readHandler_20 rfl ?_
    obtain ⟨r20, N21, q19, h⟩ := x_bd2 h
    refine x_cv (b := a0) (As := [.int 0, .int 9999]) (ci := 8) (d' := 3) (zz := yX8_number) dX8_readHandler_23 ml_X8_126 wi_X8_number wv_X8_number wn_X8 wc_X8_number hp_X8_number (by decide) (by decide) rfl (Nat.le_of_ble_eq_true rfl) ⟨Nat.zero_le _, Nat.zero_le _⟩ rfl k100 (T_X8_number (G := G) hw k100 q19) ?_
    refine x_istore_n (L' := [(0, .ref a0), (2, .int r20)]) [1, 0] dX8_readHandler_26 rfl (by decide) rfl ?_
    refine x_aload_n 0 dX8_readHandler_27 rfl rfl ?_
    refine x_iconst (v := 1) dX8_readHandler_28 rfl ?_
    refine x_bipush (v := 20) dX8_readHandler_29 rfl ?_
    obtain ⟨r23, N24, q22, h⟩ := x_bd2 h
    refine x_cv (b := a0) (As := [.int 1, .int 20]) (ci := 8) (d' := 3) (zz := yX8_number) dX8_readHandler_31 ml_X8_126 wi_X8_number wv_X8_number wn_X8 wc_X8_number hp_X8_number (by decide) (by decide) rfl (Nat.le_of_ble_eq_true rfl) ⟨Nat.zero_le _, Nat.zero_le _⟩ rfl k100 (T_X8_number (G := G) hw k100 q22) ?_
    refine x_istore_n (L' := [(0, .ref a0), (2, .int r20), (3, .int r23)]) [1, 2, 0] dX8_readHandler_34 rfl (by decide) rfl ?_
    refine x_aload_n 0 dX8_readHandler_35 rfl rfl ?_
    refine x_cv (b := a0) (As := []) (ci := 8) (d' := 1) (zz := yX8_isGood) dX8_readHandler_36 ml_X8_71 wi_X8_isGood wv_X8_isGood wn_X8 wc_X8_isGood hp_X8_isGood (by decide) (by decide) rfl (Nat.le_of_ble_eq_true rfl) ⟨Nat.zero_le _, Nat.zero_le _⟩ rfl k100 (T_X8_isGood (G := G) hw k100 rfl) ?_
    rcases x_if h with ⟨c25, h⟩ | ⟨c25, h⟩
    · refine x_if_ne_f (tgt := 43) dX8_readHandler_39 (by decide) c25 ?_
      obtain rfl := x_so h
      exact x_vret dX8_readHandler_42 rfl rfl rfl
    · refine x_if_ne_t (tgt := 43) dX8_readHandler_39 (by decide) c25 ?_
      refine x_aload_n 0 dX8_readHandler_43 rfl rfl ?_
      refine x_getr dX8_readHandler_44 vc_X8 xin8 fb_X8_9 fl_X8_20 xr_X8_9 k100 g1 ?_
      refine x_bipush (v := 12) dX8_readHandler_47 rfl ?_
      refine x_bipush (v := 6) dX8_readHandler_49 rfl ?_
      refine x_aload_n 0 dX8_readHandler_51 rfl rfl ?_
      refine x_getr dX8_readHandler_52 vc_X8 xin8 fb_X8_9 fl_X8_20 xr_X8_9 k100 g1 ?_
      refine x_iconst (v := 1) dX8_readHandler_55 rfl ?_
      refine x_iald dX8_readHandler_56 k2 (xb_at n3 xbl_1_1784) xl_1 ?_
      refine x_imul dX8_readHandler_57 ?_
      refine x_iadd dX8_readHandler_58 ?_
      refine x_iconst (v := 0) dX8_readHandler_59 rfl ?_
      refine x_iadd dX8_readHandler_60 ?_
      refine x_iload_n 1 dX8_readHandler_61 rfl rfl ?_
      obtain ⟨c26, h⟩ := x_ck h
      refine x_iast dX8_readHandler_62 k2 (xb_at n3 c26) rfl ?_
      obtain ⟨N27, eN27, h⟩ := x_lt h
      refine x_nmN eN27 ?_
      refine x_aload_n 0 dX8_readHandler_63 rfl rfl ?_
      refine x_getr dX8_readHandler_64 vc_X8 xin8 fb_X8_9 fl_X8_20 xr_X8_9 k100 g1 ?_
      refine x_bipush (v := 12) dX8_readHandler_67 rfl ?_
      refine x_bipush (v := 6) dX8_readHandler_69 rfl ?_
      refine x_aload_n 0 dX8_readHandler_71 rfl rfl ?_
      refine x_getr dX8_readHandler_72 vc_X8 xin8 fb_X8_9 fl_X8_20 xr_X8_9 k100 g1 ?_
      refine x_iconst (v := 1) dX8_readHandler_75 rfl ?_
      refine x_iald dX8_readHandler_76 k2 (xb_at n3 xbl_1_1784) xl_1 ?_
      refine x_imul dX8_readHandler_77 ?_
      refine x_iadd dX8_readHandler_78 ?_
      refine x_iconst (v := 1) dX8_readHandler_79 rfl ?_
      refine x_iadd dX8_readHandler_80 ?_
      refine x_iload_n 2 dX8_readHandler_81 rfl rfl ?_
      obtain ⟨c28, h⟩ := x_ck h
      refine x_iast dX8_readHandler_82 k2 (xb_at n3 c28) rfl ?_
      obtain ⟨N29, eN29, h⟩ := x_lt h
      refine x_nmN eN29 ?_
      refine x_aload_n 0 dX8_readHandler_83 rfl rfl ?_
      refine x_getr dX8_readHandler_84 vc_X8 xin8 fb_X8_9 fl_X8_20 xr_X8_9 k100 g1 ?_
      refine x_iconst (v := 1) dX8_readHandler_87 rfl ?_
      refine x_dup2 dX8_readHandler_88 rfl rfl ?_
      refine x_iald dX8_readHandler_89 k2 (xb_at n3 xbl_1_1784) xl_1 ?_
      refine x_iconst (v := 1) dX8_readHandler_90 rfl ?_
      refine x_iadd dX8_readHandler_91 ?_
      refine x_iast dX8_readHandler_92 k2 (xb_at n3 xbl_1_1784) xl_1 ?_
      obtain ⟨N30, eN30, h⟩ := x_lt h
      refine x_nmN eN30 ?_
      obtain rfl := x_so h
      exact x_vret dX8_readHandler_93 rfl rfl rfl
