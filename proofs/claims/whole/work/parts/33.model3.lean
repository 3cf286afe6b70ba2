set_option maxHeartbeats 4000000 in
set_option maxRecDepth 100000 in
theorem T_X8_toldLine_17 {G : XG} {Y : XY} (hw : WT Y) {r9 : Int32}: ∀ (D9 : Nat) (p_0 : Nat) (v_1 : Int32) (v_3 : Int32) (v_4 : Int32) (N : XN), kc Y p_0 = 18 → f_X8_toldLine_17 Y D9 p_0 v_1 v_3 v_4 N = some r9 → Ex G yX8_toldLine cX8_toldLine 5 (some .int) (xR 4 0 0) (.inl (some (.int r9))) Y N 0 0 17 [(0, .ref p_0), (1, .int v_1), (3, .int v_3), (4, .int v_4)] [] Y N := by
  intro D9
  induction D9 with
  | zero => intro p_0 v_1 v_3 v_4 N kk0 h; exact nomatch (show none = some _ from h)
  | succ D9 ih =>
    intro p_0 v_1 v_3 v_4 N kk0 h
    rw [f_X8_toldLine_17] at h
    refine x_iload 3 dX8_toldLine_17 rfl ?_
    refine x_aload_n 0 dX8_toldLine_19 rfl rfl ?_
    obtain ⟨g1, k2, n3⟩ := wt_X8_8 hw kk0
    refine x_getr dX8_toldLine_20 vc_X8 xin8 fb_X8_8 fl_X8_17 xr_X8_8 kk0 g1 ?_
    refine x_iconst (v := 3) dX8_toldLine_23 rfl ?_
    refine x_iald dX8_toldLine_24 k2 (xb_at n3 xbl_3_1784) xl_3 ?_
    rcases x_if h with ⟨c4, h⟩ | ⟨c4, h⟩
    · refine x_icmp_ge_t (tgt := 73) dX8_toldLine_25 (by decide) c4 ?_
      refine x_iload_n 2 dX8_toldLine_73 rfl rfl ?_
      obtain rfl := x_so h
      exact x_iret dX8_toldLine_74 rfl rfl rfl
    · refine x_icmp_ge_f (tgt := 73) dX8_toldLine_25 (by decide) c4 ?_
      refine x_iload_n 2 dX8_toldLine_28 rfl rfl ?_
      refine x_aload_n 0 dX8_toldLine_29 rfl rfl ?_
      refine x_iload 3 dX8_toldLine_30 rfl ?_
      obtain ⟨r6, q5, h⟩ := x_bd1 h
      refine x_cv (b := p_0) (As := [.int v_4]) (ci := 8) (d' := 3) (zz := yX8_isOpen) dX8_toldLine_32 ml_X8_209 wi_X8_isOpen wv_X8_isOpen wn_X8 wc_X8_isOpen hp_X8_isOpen (by decide) (by decide) rfl (Nat.le_of_ble_eq_true rfl) ⟨Nat.zero_le _, Nat.zero_le _⟩ rfl kk0 (T_X8_isOpen (G := G) hw kk0 q5) ?_
      rcases x_if h with ⟨c7, h⟩ | ⟨c7, h⟩
      · refine x_if_eq_t (tgt := 64) dX8_toldLine_35 (by decide) c7 ?_
        refine x_iconst (v := 0) dX8_toldLine_64 rfl ?_
        refine x_iadd dX8_toldLine_65 ?_
        refine x_istore_n (L' := [(0, .ref p_0), (1, .int v_1), (3, .int (v_3 + 0)), (4, .int v_4)]) [1, 2, 0, 3] dX8_toldLine_66 rfl (by decide) rfl ?_
        refine x_iinc (L' := [(0, .ref p_0), (1, .int v_1), (3, .int (v_3 + 0)), (4, .int (v_4 + 1))]) 3 [1, 2, 3, 0] dX8_toldLine_67 rfl rfl (by decide) rfl ?_
        refine x_goto (tgt := 17) dX8_toldLine_70 (by decide) ?_
        exact ih p_0 v_1 (v_3 + 0) (v_4 + 1) N kk0 h
      · refine x_if_eq_f (tgt := 64) dX8_toldLine_35 (by decide) c7 ?_
        refine x_aload_n 0 dX8_toldLine_38 rfl rfl ?_
        refine x_iload 3 dX8_toldLine_39 rfl ?_
        refine x_iconst (v := 0) dX8_toldLine_41 rfl ?_
        obtain ⟨r9, q8, h⟩ := x_bd1 h
        refine x_cv (b := p_0) (As := [.int v_4, .int 0]) (ci := 8) (d' := 2) (zz := yX8_ofRequest) dX8_toldLine_42 ml_X8_206 wi_X8_ofRequest wv_X8_ofRequest wn_X8 wc_X8_ofRequest hp_X8_ofRequest (by decide) (by decide) rfl (Nat.le_of_ble_eq_true rfl) ⟨Nat.zero_le _, Nat.zero_le _⟩ rfl kk0 (T_X8_ofRequest (G := G) hw kk0 q8) ?_
        refine x_iload_n 1 dX8_toldLine_45 rfl rfl ?_
        rcases x_if h with ⟨c10, h⟩ | ⟨c10, h⟩
        · refine x_icmp_ne_f (tgt := 64) dX8_toldLine_46 (by decide) c10 ?_
          refine x_aload_n 0 dX8_toldLine_49 rfl rfl ?_
          refine x_iload 3 dX8_toldLine_50 rfl ?_
          refine x_iconst (v := 4) dX8_toldLine_52 rfl ?_
          obtain ⟨r12, q11, h⟩ := x_bd1 h
          refine x_cv (b := p_0) (As := [.int v_4, .int 4]) (ci := 8) (d' := 2) (zz := yX8_ofRequest) dX8_toldLine_53 ml_X8_206 wi_X8_ofRequest wv_X8_ofRequest wn_X8 wc_X8_ofRequest hp_X8_ofRequest (by decide) (by decide) rfl (Nat.le_of_ble_eq_true rfl) ⟨Nat.zero_le _, Nat.zero_le _⟩ rfl kk0 (T_X8_ofRequest (G := G) hw kk0 q11) ?_
          refine x_iconst (v := (-1)) dX8_toldLine_56 rfl ?_
          rcases x_if h with ⟨c13, h⟩ | ⟨c13, h⟩
          · refine x_icmp_ne_f (tgt := 64) dX8_toldLine_57 (by decide) c13 ?_
            refine x_iconst (v := 1) dX8_toldLine_60 rfl ?_
            refine x_goto (tgt := 65) dX8_toldLine_61 (by decide) ?_
            refine x_iadd dX8_toldLine_65 ?_
            refine x_istore_n (L' := [(0, .ref p_0), (1, .int v_1), (3, .int (v_3 + 1)), (4, .int v_4)]) [1, 2, 0, 3] dX8_toldLine_66 rfl (by decide) rfl ?_
            refine x_iinc (L' := [(0, .ref p_0), (1, .int v_1), (3, .int (v_3 + 1)), (4, .int (v_4 + 1))]) 3 [1, 2, 3, 0] dX8_toldLine_67 rfl rfl (by decide) rfl ?_
            refine x_goto (tgt := 17) dX8_toldLine_70 (by decide) ?_
            exact ih p_0 v_1 (v_3 + 1) (v_4 + 1) N kk0 h
          · refine x_icmp_ne_t (tgt := 64) dX8_toldLine_57 (by decide) c13 ?_
            refine x_iconst (v := 0) dX8_toldLine_64 rfl ?_
            refine x_iadd dX8_toldLine_65 ?_
            refine x_istore_n (L' := [(0, .ref p_0), (1, .int v_1), (3, .int (v_3 + 0)), (4, .int v_4)]) [1, 2, 0, 3] dX8_toldLine_66 rfl (by decide) rfl ?_
            refine x_iinc (L' := [(0, .ref p_0), (1, .int v_1), (3, .int (v_3 + 0)), (4, .int (v_4 + 1))]) 3 [1, 2, 3, 0] dX8_toldLine_67 rfl rfl (by decide) rfl ?_
            refine x_goto (tgt := 17) dX8_toldLine_70 (by decide) ?_
            exact ih p_0 v_1 (v_3 + 0) (v_4 + 1) N kk0 h
        · refine x_icmp_ne_t (tgt := 64) dX8_toldLine_46 (by decide) c10 ?_
          refine x_iconst (v := 0) dX8_toldLine_64 rfl ?_
          refine x_iadd dX8_toldLine_65 ?_
          refine x_istore_n (L' := [(0, .ref p_0), (1, .int v_1), (3, .int (v_3 + 0)), (4, .int v_4)]) [1, 2, 0, 3] dX8_toldLine_66 rfl (by decide) rfl ?_
          refine x_iinc (L' := [(0, .ref p_0), (1, .int v_1), (3, .int (v_3 + 0)), (4, .int (v_4 + 1))]) 3 [1, 2, 3, 0] dX8_toldLine_67 rfl rfl (by decide) rfl ?_
          refine x_goto (tgt := 17) dX8_toldLine_70 (by decide) ?_
          exact ih p_0 v_1 (v_3 + 0) (v_4 + 1) N kk0 h
set_option maxHeartbeats 4000000 in
set_option maxRecDepth 100000 in
theorem T_X8_toldLine {G : XG} {Y : XY} (hw : WT Y) {a0 : Nat} {a1 : Int32} {a2 : Int32} {N : XN} (k100 : kc Y a0 = 18) {r9 : Int32} (h : f_X8_toldLine Y a0 a1 a2 N = some r9) : Cl G yX8_toldLine cX8_toldLine 5 (some .int) (xR 4 0 0) [.ref a0, .int a1, .int a2] (.inl (some (.int r9))) Y N Y N := by
  refine x_entry (by decide) (Nat.le_of_ble_eq_true rfl) rfl ?_
  rw [f_X8_toldLine] at h
  refine x_iload_n 2 dX8_toldLine_0 rfl rfl ?_
  refine x_iconst (v := 4) dX8_toldLine_1 rfl ?_
  rcases x_if h with ⟨c1, h⟩ | ⟨c1, h⟩
  · refine x_icmp_ge_t (tgt := 12) dX8_toldLine_2 (by decide) c1 ?_
    refine x_iconst (v := 0) dX8_toldLine_12 rfl ?_
    refine x_istore_n (L' := [(0, .ref a0), (1, .int a1), (3, .int 0)]) [1, 2, 0] dX8_toldLine_13 rfl (by decide) rfl ?_
    refine x_iconst (v := 0) dX8_toldLine_14 rfl ?_
    refine x_istore (L' := [(0, .ref a0), (1, .int a1), (3, .int 0), (4, .int 0)]) [1, 2, 3, 0] dX8_toldLine_15 (by decide) rfl ?_
    exact T_X8_toldLine_17 (G := G) hw FU a0 a1 0 0 N k100 h
  · refine x_icmp_ge_f (tgt := 12) dX8_toldLine_2 (by decide) c1 ?_
    refine x_aload_n 0 dX8_toldLine_5 rfl rfl ?_
    refine x_iload_n 1 dX8_toldLine_6 rfl rfl ?_
    refine x_iload_n 2 dX8_toldLine_7 rfl rfl ?_
    obtain ⟨r3, q2, h⟩ := x_bd1 h
    refine x_cv (b := a0) (As := [.int a1, .int a2]) (ci := 8) (d' := 2) (zz := yX8_ofLine) dX8_toldLine_8 ml_X8_222 wi_X8_ofLine wv_X8_ofLine wn_X8 wc_X8_ofLine hp_X8_ofLine (by decide) (by decide) rfl (Nat.le_of_ble_eq_true rfl) ⟨Nat.zero_le _, Nat.zero_le _⟩ rfl k100 (T_X8_ofLine (G := G) hw k100 q2) ?_
    obtain rfl := x_so h
    exact x_iret dX8_toldLine_11 rfl rfl rfl
set_option maxHeartbeats 4000000 in
set_option maxRecDepth 100000 in
theorem T_X8_line {G : XG} {Y : XY} (hw : WT Y) {a0 : Nat} {a1 : Int32} {a2 : Int32} {N : XN} (k100 : kc Y a0 = 18) {r9 : Int32} {N9 : XN} (h : f_X8_line Y a0 a1 a2 N = some (r9, N9)) : Cl G yX8_line cX8_line 3 (some .int) (xR 5 0 0) [.ref a0, .int a1, .int a2] (.inl (some (.int r9))) Y N Y N9 := by
  refine x_entry (by decide) (Nat.le_of_ble_eq_true rfl) rfl ?_
  rw [f_X8_line] at h
  refine x_aload_n 0 dX8_line_0 rfl rfl ?_
  refine x_iconst (v := 0) dX8_line_1 rfl ?_
  refine x_puti dX8_line_2 vc_X8 xin8 tyX8_ok nmX8 fb_X8_0 fl_X8_45 ff_X8_0 xr_X8_0 (nf_X8_0 _) (ft_X8_0 _) k100 ?_
  obtain ⟨N1, eN1, h⟩ := x_lt h
  refine x_nmN eN1 ?_
  refine x_aload_n 0 dX8_line_5 rfl rfl ?_
  refine x_iload_n 1 dX8_line_6 rfl rfl ?_
  obtain ⟨r3, N4, q2, h⟩ := x_bd2 h
  refine x_cv (b := a0) (As := [.int a1]) (ci := 8) (d' := 2) (zz := yX8_noLine) dX8_line_7 ml_X8_296 wi_X8_noLine wv_X8_noLine wn_X8 wc_X8_noLine hp_X8_noLine (by decide) (by decide) rfl (Nat.le_of_ble_eq_true rfl) ⟨Nat.zero_le _, Nat.zero_le _⟩ rfl k100 (T_X8_noLine (G := G) hw k100 q2) ?_
  rcases x_if h with ⟨c5, h⟩ | ⟨c5, h⟩
  · refine x_if_ne_f (tgt := 23) dX8_line_10 (by decide) c5 ?_
    refine x_aload_n 0 dX8_line_13 rfl rfl ?_
    refine x_iload_n 2 dX8_line_14 rfl rfl ?_
    refine x_iconst (v := 0) dX8_line_15 rfl ?_
    refine x_iconst (v := 4) dX8_line_16 rfl ?_
    obtain ⟨r7, N8, q6, h⟩ := x_bd2 h
    refine x_cv (b := a0) (As := [.int a2, .int 0, .int 4]) (ci := 8) (d' := 2) (zz := yX8_noNumber) dX8_line_17 ml_X8_290 wi_X8_noNumber wv_X8_noNumber wn_X8 wc_X8_noNumber hp_X8_noNumber (by decide) (by decide) rfl (Nat.le_of_ble_eq_true rfl) ⟨Nat.zero_le _, Nat.zero_le _⟩ rfl k100 (T_X8_noNumber (G := G) hw k100 q6) ?_
    rcases x_if h with ⟨c9, h⟩ | ⟨c9, h⟩
    · refine x_if_eq_t (tgt := 27) dX8_line_20 (by decide) c9 ?_
      refine x_aload_n 0 dX8_line_27 rfl rfl ?_
      refine x_iload_n 1 dX8_line_28 rfl rfl ?_
      refine x_iload_n 2 dX8_line_29 rfl rfl ?_
      obtain ⟨r11, q10, h⟩ := x_bd1 h
      refine x_cv (b := a0) (As := [.int a1, .int a2]) (ci := 8) (d' := 4) (zz := yX8_toldLine) dX8_line_30 ml_X8_299 wi_X8_toldLine wv_X8_toldLine wn_X8 wc_X8_toldLine hp_X8_toldLine (by decide) (by decide) rfl (Nat.le_of_ble_eq_true rfl) ⟨Nat.zero_le _, Nat.zero_le _⟩ rfl k100 (T_X8_toldLine (G := G) hw k100 q10) ?_
      obtain ⟨rfl, rfl⟩ := Prod.mk.inj (x_so h)
      exact x_iret dX8_line_33 rfl rfl rfl
    · refine x_if_eq_f (tgt := 27) dX8_line_20 (by decide) c9 ?_
      refine x_iconst (v := 0) dX8_line_23 rfl ?_
      refine x_goto (tgt := 33) dX8_line_24 (by decide) ?_
      obtain ⟨rfl, rfl⟩ := Prod.mk.inj (x_so h)
      exact x_iret dX8_line_33 rfl rfl rfl
  · refine x_if_ne_t (tgt := 23) dX8_line_10 (by decide) c5 ?_
    refine x_iconst (v := 0) dX8_line_23 rfl ?_
    refine x_goto (tgt := 33) dX8_line_24 (by decide) ?_
    obtain ⟨rfl, rfl⟩ := Prod.mk.inj (x_so h)
    exact x_iret dX8_line_33 rfl rfl rfl
set_option maxHeartbeats 4000000 in
set_option maxRecDepth 100000 in
theorem T_X8_tenant {G : XG} {Y : XY} (hw : WT Y) {a0 : Nat} {a1 : Int32} {a2 : Int32} {N : XN} (k100 : kc Y a0 = 18) {r9 : Int32} {N9 : XN} (h : f_X8_tenant Y a0 a1 a2 N = some (r9, N9)) : Cl G yX8_tenant cX8_tenant 3 (some .int) (xR 3 0 0) [.ref a0, .int a1, .int a2] (.inl (some (.int r9))) Y N Y N9 := by
  refine x_entry (by decide) (Nat.le_of_ble_eq_true rfl) rfl ?_
  rw [f_X8_tenant] at h
  refine x_aload_n 0 dX8_tenant_0 rfl rfl ?_
  refine x_iconst (v := 0) dX8_tenant_1 rfl ?_
  refine x_puti dX8_tenant_2 vc_X8 xin8 tyX8_ok nmX8 fb_X8_0 fl_X8_45 ff_X8_0 xr_X8_0 (nf_X8_0 _) (ft_X8_0 _) k100 ?_
  obtain ⟨N1, eN1, h⟩ := x_lt h
  refine x_nmN eN1 ?_
  refine x_aload_n 0 dX8_tenant_5 rfl rfl ?_
  refine x_iload_n 1 dX8_tenant_6 rfl rfl ?_
  obtain ⟨r3, N4, q2, h⟩ := x_bd2 h
  refine x_cv (b := a0) (As := [.int a1]) (ci := 8) (d' := 2) (zz := yX8_noLine) dX8_tenant_7 ml_X8_296 wi_X8_noLine wv_X8_noLine wn_X8 wc_X8_noLine hp_X8_noLine (by decide) (by decide) rfl (Nat.le_of_ble_eq_true rfl) ⟨Nat.zero_le _, Nat.zero_le _⟩ rfl k100 (T_X8_noLine (G := G) hw k100 q2) ?_
  rcases x_if h with ⟨c5, h⟩ | ⟨c5, h⟩
  · refine x_if_ne_f (tgt := 30) dX8_tenant_10 (by decide) c5 ?_
    refine x_aload_n 0 dX8_tenant_13 rfl rfl ?_
    refine x_iload_n 2 dX8_tenant_14 rfl rfl ?_
    refine x_iconst (v := 0) dX8_tenant_15 rfl ?_
    refine x_aload_n 0 dX8_tenant_16 rfl rfl ?_
    refine x_iload_n 1 dX8_tenant_17 rfl rfl ?_
    refine x_iconst (v := 3) dX8_tenant_18 rfl ?_
    obtain ⟨r7, q6, h⟩ := x_bd1 h
    refine x_cv (b := a0) (As := [.int a1, .int 3]) (ci := 8) (d' := 2) (zz := yX8_ofLine) dX8_tenant_19 ml_X8_222 wi_X8_ofLine wv_X8_ofLine wn_X8 wc_X8_ofLine hp_X8_ofLine (by decide) (by decide) rfl (Nat.le_of_ble_eq_true rfl) ⟨Nat.zero_le _, Nat.zero_le _⟩ rfl k100 (T_X8_ofLine (G := G) hw k100 q6) ?_
    refine x_iconst (v := 1) dX8_tenant_22 rfl ?_
    refine x_isub dX8_tenant_23 ?_
    obtain ⟨r9, N10, q8, h⟩ := x_bd2 h
    refine x_cv (b := a0) (As := [.int a2, .int 0, .int (r7 - 1)]) (ci := 8) (d' := 2) (zz := yX8_noNumber) dX8_tenant_24 ml_X8_290 wi_X8_noNumber wv_X8_noNumber wn_X8 wc_X8_noNumber hp_X8_noNumber (by decide) (by decide) rfl (Nat.le_of_ble_eq_true rfl) ⟨Nat.zero_le _, Nat.zero_le _⟩ rfl k100 (T_X8_noNumber (G := G) hw k100 q8) ?_
    rcases x_if h with ⟨c11, h⟩ | ⟨c11, h⟩
    · refine x_if_eq_t (tgt := 34) dX8_tenant_27 (by decide) c11 ?_
      refine x_aload_n 0 dX8_tenant_34 rfl rfl ?_
      refine x_iload_n 1 dX8_tenant_35 rfl rfl ?_
      refine x_iconst (v := 4) dX8_tenant_36 rfl ?_
      refine x_iload_n 2 dX8_tenant_37 rfl rfl ?_
      refine x_iadd dX8_tenant_38 ?_
      obtain ⟨r13, q12, h⟩ := x_bd1 h
      refine x_cv (b := a0) (As := [.int a1, .int (4 + a2)]) (ci := 8) (d' := 2) (zz := yX8_ofLine) dX8_tenant_39 ml_X8_222 wi_X8_ofLine wv_X8_ofLine wn_X8 wc_X8_ofLine hp_X8_ofLine (by decide) (by decide) rfl (Nat.le_of_ble_eq_true rfl) ⟨Nat.zero_le _, Nat.zero_le _⟩ rfl k100 (T_X8_ofLine (G := G) hw k100 q12) ?_
      obtain ⟨rfl, rfl⟩ := Prod.mk.inj (x_so h)
      exact x_iret dX8_tenant_42 rfl rfl rfl
    · refine x_if_eq_f (tgt := 34) dX8_tenant_27 (by decide) c11 ?_
      refine x_iconst (v := 0) dX8_tenant_30 rfl ?_
      refine x_goto (tgt := 42) dX8_tenant_31 (by decide) ?_
      obtain ⟨rfl, rfl⟩ := Prod.mk.inj (x_so h)
      exact x_iret dX8_tenant_42 rfl rfl rfl
  · refine x_if_ne_t (tgt := 30) dX8_tenant_10 (by decide) c5 ?_
    refine x_iconst (v := 0) dX8_tenant_30 rfl ?_
    refine x_goto (tgt := 42) dX8_tenant_31 (by decide) ?_
    obtain ⟨rfl, rfl⟩ := Prod.mk.inj (x_so h)
    exact x_iret dX8_tenant_42 rfl rfl rfl
set_option maxHeartbeats 4000000 in
set_option maxRecDepth 100000 in
theorem T_X8_request {G : XG} {Y : XY} (hw : WT Y) {a0 : Nat} {a1 : Int32} {a2 : Int32} {N : XN} (k100 : kc Y a0 = 18) {r9 : Int32} {N9 : XN} (h : f_X8_request Y a0 a1 a2 N = some (r9, N9)) : Cl G yX8_request cX8_request 3 (some .int) (xR 3 0 0) [.ref a0, .int a1, .int a2] (.inl (some (.int r9))) Y N Y N9 := by
  refine x_entry (by decide) (Nat.le_of_ble_eq_true rfl) rfl ?_
  rw [f_X8_request] at h
  refine x_aload_n 0 dX8_request_0 rfl rfl ?_
  refine x_iconst (v := 0) dX8_request_1 rfl ?_
  refine x_puti dX8_request_2 vc_X8 xin8 tyX8_ok nmX8 fb_X8_0 fl_X8_45 ff_X8_0 xr_X8_0 (nf_X8_0 _) (ft_X8_0 _) k100 ?_
  obtain ⟨N1, eN1, h⟩ := x_lt h
  refine x_nmN eN1 ?_
  refine x_aload_n 0 dX8_request_5 rfl rfl ?_
  refine x_iload_n 1 dX8_request_6 rfl rfl ?_
  obtain ⟨r3, N4, q2, h⟩ := x_bd2 h
  refine x_cv (b := a0) (As := [.int a1]) (ci := 8) (d' := 2) (zz := yX8_noRequest) dX8_request_7 ml_X8_302 wi_X8_noRequest wv_X8_noRequest wn_X8 wc_X8_noRequest hp_X8_noRequest (by decide) (by decide) rfl (Nat.le_of_ble_eq_true rfl) ⟨Nat.zero_le _, Nat.zero_le _⟩ rfl k100 (T_X8_noRequest (G := G) hw k100 q2) ?_
  rcases x_if h with ⟨c5, h⟩ | ⟨c5, h⟩
  · refine x_if_ne_f (tgt := 24) dX8_request_10 (by decide) c5 ?_
    refine x_aload_n 0 dX8_request_13 rfl rfl ?_
    refine x_iload_n 2 dX8_request_14 rfl rfl ?_
    refine x_iconst (v := 0) dX8_request_15 rfl ?_
    refine x_bipush (v := 6) dX8_request_16 rfl ?_
    obtain ⟨r7, N8, q6, h⟩ := x_bd2 h
    refine x_cv (b := a0) (As := [.int a2, .int 0, .int 6]) (ci := 8) (d' := 2) (zz := yX8_noNumber) dX8_request_18 ml_X8_290 wi_X8_noNumber wv_X8_noNumber wn_X8 wc_X8_noNumber hp_X8_noNumber (by decide) (by decide) rfl (Nat.le_of_ble_eq_true rfl) ⟨Nat.zero_le _, Nat.zero_le _⟩ rfl k100 (T_X8_noNumber (G := G) hw k100 q6) ?_
    rcases x_if h with ⟨c9, h⟩ | ⟨c9, h⟩
    · refine x_if_eq_t (tgt := 28) dX8_request_21 (by decide) c9 ?_
      refine x_aload_n 0 dX8_request_28 rfl rfl ?_
      refine x_iload_n 1 dX8_request_29 rfl rfl ?_
      refine x_iload_n 2 dX8_request_30 rfl rfl ?_
      obtain ⟨r11, q10, h⟩ := x_bd1 h
      refine x_cv (b := a0) (As := [.int a1, .int a2]) (ci := 8) (d' := 2) (zz := yX8_ofRequest) dX8_request_31 ml_X8_206 wi_X8_ofRequest wv_X8_ofRequest wn_X8 wc_X8_ofRequest hp_X8_ofRequest (by decide) (by decide) rfl (Nat.le_of_ble_eq_true rfl) ⟨Nat.zero_le _, Nat.zero_le _⟩ rfl k100 (T_X8_ofRequest (G := G) hw k100 q10) ?_
      obtain ⟨rfl, rfl⟩ := Prod.mk.inj (x_so h)
      exact x_iret dX8_request_34 rfl rfl rfl
    · refine x_if_eq_f (tgt := 28) dX8_request_21 (by decide) c9 ?_
      refine x_iconst (v := 0) dX8_request_24 rfl ?_
      refine x_goto (tgt := 34) dX8_request_25 (by decide) ?_
      obtain ⟨rfl, rfl⟩ := Prod.mk.inj (x_so h)
      exact x_iret dX8_request_34 rfl rfl rfl
  · refine x_if_ne_t (tgt := 24) dX8_request_10 (by decide) c5 ?_
    refine x_iconst (v := 0) dX8_request_24 rfl ?_
    refine x_goto (tgt := 34) dX8_request_25 (by decide) ?_
    obtain ⟨rfl, rfl⟩ := Prod.mk.inj (x_so h)
    exact x_iret dX8_request_34 rfl rfl rfl
set_option maxHeartbeats 4000000 in
set_option maxRecDepth 100000 in
theorem T_X8_calm {G : XG} {Y : XY} (hw : WT Y) {a0 : Nat} {a1 : Int32} {N : XN} (k100 : kc Y a0 = 18) {r9 : Int32} {N9 : XN} (h : f_X8_calm Y a0 a1 N = some (r9, N9)) : Cl G yX8_calm cX8_calm 3 (some .int) (xR 4 0 0) [.ref a0, .int a1] (.inl (some (.int r9))) Y N Y N9 := by
  refine x_entry (by decide) (Nat.le_of_ble_eq_true rfl) rfl ?_
  rw [f_X8_calm] at h
  refine x_aload_n 0 dX8_calm_0 rfl rfl ?_
  refine x_iconst (v := 0) dX8_calm_1 rfl ?_
  refine x_puti dX8_calm_2 vc_X8 xin8 tyX8_ok nmX8 fb_X8_0 fl_X8_45 ff_X8_0 xr_X8_0 (nf_X8_0 _) (ft_X8_0 _) k100 ?_
  obtain ⟨N1, eN1, h⟩ := x_lt h
  refine x_nmN eN1 ?_
  refine x_aload_n 0 dX8_calm_5 rfl rfl ?_
  refine x_iload_n 1 dX8_calm_6 rfl rfl ?_
  obtain ⟨r3, N4, q2, h⟩ := x_bd2 h
  refine x_cv (b := a0) (As := [.int a1]) (ci := 8) (d' := 2) (zz := yX8_noLine) dX8_calm_7 ml_X8_296 wi_X8_noLine wv_X8_noLine wn_X8 wc_X8_noLine hp_X8_noLine (by decide) (by decide) rfl (Nat.le_of_ble_eq_true rfl) ⟨Nat.zero_le _, Nat.zero_le _⟩ rfl k100 (T_X8_noLine (G := G) hw k100 q2) ?_
  rcases x_if h with ⟨c5, h⟩ | ⟨c5, h⟩
  · refine x_if_eq_t (tgt := 15) dX8_calm_10 (by decide) c5 ?_
    refine x_aload_n 0 dX8_calm_15 rfl rfl ?_
    refine x_iload_n 1 dX8_calm_16 rfl rfl ?_
    refine x_iconst (v := 1) dX8_calm_17 rfl ?_
    obtain ⟨r7, q6, h⟩ := x_bd1 h
    refine x_cv (b := a0) (As := [.int a1, .int 1]) (ci := 8) (d' := 2) (zz := yX8_ofLine) dX8_calm_18 ml_X8_222 wi_X8_ofLine wv_X8_ofLine wn_X8 wc_X8_ofLine hp_X8_ofLine (by decide) (by decide) rfl (Nat.le_of_ble_eq_true rfl) ⟨Nat.zero_le _, Nat.zero_le _⟩ rfl k100 (T_X8_ofLine (G := G) hw k100 q6) ?_
    refine x_aload_n 0 dX8_calm_21 rfl rfl ?_
    refine x_iload_n 1 dX8_calm_22 rfl rfl ?_
    obtain ⟨r9, q8, h⟩ := x_bd1 h
    refine x_cv (b := a0) (As := [.int a1]) (ci := 8) (d' := 3) (zz := yX8_raisedOn) dX8_calm_23 ml_X8_219 wi_X8_raisedOn wv_X8_raisedOn wn_X8 wc_X8_raisedOn hp_X8_raisedOn (by decide) (by decide) rfl (Nat.le_of_ble_eq_true rfl) ⟨Nat.zero_le _, Nat.zero_le _⟩ rfl k100 (T_X8_raisedOn (G := G) hw k100 q8) ?_
    refine x_isub dX8_calm_26 ?_
    refine x_istore_n (L' := [(2, .int (r7 - r9))]) [0] dX8_calm_27 rfl (by decide) rfl ?_
    refine x_iload_n 0 dX8_calm_28 rfl rfl ?_
    rcases x_if h with ⟨c10, h⟩ | ⟨c10, h⟩
    · refine x_if_le_t (tgt := 36) dX8_calm_29 (by decide) c10 ?_
      refine x_iconst (v := 0) dX8_calm_36 rfl ?_
      obtain ⟨rfl, rfl⟩ := Prod.mk.inj (x_so h)
      exact x_iret dX8_calm_37 rfl rfl rfl
    · refine x_if_le_f (tgt := 36) dX8_calm_29 (by decide) c10 ?_
      refine x_iload_n 0 dX8_calm_32 rfl rfl ?_
      refine x_goto (tgt := 37) dX8_calm_33 (by decide) ?_
      obtain ⟨rfl, rfl⟩ := Prod.mk.inj (x_so h)
      exact x_iret dX8_calm_37 rfl rfl rfl
  · refine x_if_eq_f (tgt := 15) dX8_calm_10 (by decide) c5 ?_
    refine x_iconst (v := 0) dX8_calm_13 rfl ?_
    obtain ⟨rfl, rfl⟩ := Prod.mk.inj (x_so h)
    exact x_iret dX8_calm_14 rfl rfl rfl
set_option maxHeartbeats 4000000 in
set_option maxRecDepth 100000 in
theorem T_X8_endsAt_31 {G : XG} {Y : XY} (hw : WT Y) {r9 : Int32} {N9 : XN}: ∀ (D9 : Nat) (p_0 : Nat) (v_1 : Int32) (v_2 : Int32) (N : XN), kc Y p_0 = 18 → f_X8_endsAt_31 Y D9 p_0 v_1 v_2 N = some (r9, N9) → Ex G yX8_endsAt cX8_endsAt 3 (some .int) (xR 10 0 0) (.inl (some (.int r9))) Y N9 0 0 31 [(0, .ref p_0), (1, .int v_1), (2, .int v_2)] [] Y N := by
  intro D9
  induction D9 with
  | zero => intro p_0 v_1 v_2 N kk0 h; exact nomatch (show none = some _ from h)
  | succ D9 ih =>
    intro p_0 v_1 v_2 N kk0 h
    rw [f_X8_endsAt_31] at h
    refine x_iload_n 2 dX8_endsAt_31 rfl rfl ?_
    refine x_sipush (v := 1100) dX8_endsAt_32 rfl ?_
    rcases x_if h with ⟨c1, h⟩ | ⟨c1, h⟩
    · refine x_icmp_ge_t (tgt := 58) dX8_endsAt_35 (by decide) c1 ?_
      refine x_aload_n 0 dX8_endsAt_58 rfl rfl ?_
      refine x_iload_n 1 dX8_endsAt_59 rfl rfl ?_
      refine x_bipush (v := 6) dX8_endsAt_60 rfl ?_
      obtain ⟨r3, q2, h⟩ := x_bd1 h
      refine x_cv (b := p_0) (As := [.int v_1, .int 6]) (ci := 8) (d' := 2) (zz := yX8_ofRequest) dX8_endsAt_62 ml_X8_206 wi_X8_ofRequest wv_X8_ofRequest wn_X8 wc_X8_ofRequest hp_X8_ofRequest (by decide) (by decide) rfl (Nat.le_of_ble_eq_true rfl) ⟨Nat.zero_le _, Nat.zero_le _⟩ rfl kk0 (T_X8_ofRequest (G := G) hw kk0 q2) ?_
      refine x_istore_n (L' := [(0, .ref p_0), (2, .int r3)]) [1, 0] dX8_endsAt_65 rfl (by decide) rfl ?_
      refine x_aload_n 0 dX8_endsAt_66 rfl rfl ?_
      obtain ⟨g4, k5, n6⟩ := wt_X8_10 hw kk0
      refine x_getr dX8_endsAt_67 vc_X8 xin8 fb_X8_10 fl_X8_23 xr_X8_10 kk0 g4 ?_
      refine x_aload_n 0 dX8_endsAt_70 rfl rfl ?_
      obtain ⟨g7, k8, n9⟩ := wt_X8_8 hw kk0
      refine x_getr dX8_endsAt_71 vc_X8 xin8 fb_X8_8 fl_X8_17 xr_X8_8 kk0 g7 ?_
      refine x_sipush (v := 584) dX8_endsAt_74 rfl ?_
      obtain ⟨N11, q10, h⟩ := x_bd1 h
      refine x_cs (As := [.ref (gp Y p_0 10), .ref (gp Y p_0 8), .int 584]) (d' := 1) (zz := yX8_copy) dX8_endsAt_77 ml_X8_193 wt_X8_copy wn_X8 wc_X8_copy hp_X8_copy (by decide) (by decide) rfl (Nat.le_of_ble_eq_true rfl) ⟨Nat.zero_le _, Nat.zero_le _⟩ (T_X8_copy (G := G) hw k5 k8 q10) ?_
      refine x_iload_n 1 dX8_endsAt_80 rfl rfl ?_
      obtain ⟨rfl, rfl⟩ := Prod.mk.inj (x_so h)
      exact x_iret dX8_endsAt_81 rfl rfl rfl
    · refine x_icmp_ge_f (tgt := 58) dX8_endsAt_35 (by decide) c1 ?_
      refine x_aload_n 0 dX8_endsAt_38 rfl rfl ?_
      refine x_iload_n 1 dX8_endsAt_39 rfl rfl ?_
      refine x_iconst (v := 3) dX8_endsAt_40 rfl ?_
      obtain ⟨r13, q12, h⟩ := x_bd1 h
      refine x_cv (b := p_0) (As := [.int v_1, .int 3]) (ci := 8) (d' := 2) (zz := yX8_ofRequest) dX8_endsAt_41 ml_X8_206 wi_X8_ofRequest wv_X8_ofRequest wn_X8 wc_X8_ofRequest hp_X8_ofRequest (by decide) (by decide) rfl (Nat.le_of_ble_eq_true rfl) ⟨Nat.zero_le _, Nat.zero_le _⟩ rfl kk0 (T_X8_ofRequest (G := G) hw kk0 q12) ?_
      refine x_iconst (v := 2) dX8_endsAt_44 rfl ?_
      rcases x_if h with ⟨c14, h⟩ | ⟨c14, h⟩
      · refine x_icmp_ge_t (tgt := 58) dX8_endsAt_45 (by decide) c14 ?_
        refine x_aload_n 0 dX8_endsAt_58 rfl rfl ?_
        refine x_iload_n 1 dX8_endsAt_59 rfl rfl ?_
        refine x_bipush (v := 6) dX8_endsAt_60 rfl ?_
        obtain ⟨r16, q15, h⟩ := x_bd1 h
        refine x_cv (b := p_0) (As := [.int v_1, .int 6]) (ci := 8) (d' := 2) (zz := yX8_ofRequest) dX8_endsAt_62 ml_X8_206 wi_X8_ofRequest wv_X8_ofRequest wn_X8 wc_X8_ofRequest hp_X8_ofRequest (by decide) (by decide) rfl (Nat.le_of_ble_eq_true rfl) ⟨Nat.zero_le _, Nat.zero_le _⟩ rfl kk0 (T_X8_ofRequest (G := G) hw kk0 q15) ?_
        refine x_istore_n (L' := [(0, .ref p_0), (2, .int r16)]) [1, 0] dX8_endsAt_65 rfl (by decide) rfl ?_
        refine x_aload_n 0 dX8_endsAt_66 rfl rfl ?_
        obtain ⟨g17, k18, n19⟩ := wt_X8_10 hw kk0
        refine x_getr dX8_endsAt_67 vc_X8 xin8 fb_X8_10 fl_X8_23 xr_X8_10 kk0 g17 ?_
        refine x_aload_n 0 dX8_endsAt_70 rfl rfl ?_
        obtain ⟨g20, k21, n22⟩ := wt_X8_8 hw kk0
        refine x_getr dX8_endsAt_71 vc_X8 xin8 fb_X8_8 fl_X8_17 xr_X8_8 kk0 g20 ?_
        refine x_sipush (v := 584) dX8_endsAt_74 rfl ?_
        obtain ⟨N24, q23, h⟩ := x_bd1 h
        refine x_cs (As := [.ref (gp Y p_0 10), .ref (gp Y p_0 8), .int 584]) (d' := 1) (zz := yX8_copy) dX8_endsAt_77 ml_X8_193 wt_X8_copy wn_X8 wc_X8_copy hp_X8_copy (by decide) (by decide) rfl (Nat.le_of_ble_eq_true rfl) ⟨Nat.zero_le _, Nat.zero_le _⟩ (T_X8_copy (G := G) hw k18 k21 q23) ?_
        refine x_iload_n 1 dX8_endsAt_80 rfl rfl ?_
        obtain ⟨rfl, rfl⟩ := Prod.mk.inj (x_so h)
        exact x_iret dX8_endsAt_81 rfl rfl rfl
      · refine x_icmp_ge_f (tgt := 58) dX8_endsAt_45 (by decide) c14 ?_
        refine x_aload_n 0 dX8_endsAt_48 rfl rfl ?_
        obtain ⟨N26, q25, h⟩ := x_bd1 h
        refine x_cv (b := p_0) (As := []) (ci := 8) (d' := 9) (zz := yX8_tick) dX8_endsAt_49 ml_X8_305 wi_X8_tick wv_X8_tick wn_X8 wc_X8_tick hp_X8_tick (by decide) (by decide) rfl (Nat.le_of_ble_eq_true rfl) ⟨Nat.zero_le _, Nat.zero_le _⟩ rfl kk0 (T_X8_tick (G := G) hw kk0 q25) ?_
        refine x_iinc (L' := [(0, .ref p_0), (1, .int v_1), (2, .int (v_2 + 1))]) 2 [1, 2, 0] dX8_endsAt_52 rfl rfl (by decide) rfl ?_
        refine x_goto (tgt := 31) dX8_endsAt_55 (by decide) ?_
        exact ih p_0 v_1 (v_2 + 1) N26 kk0 h
set_option maxHeartbeats 4000000 in
set_option maxRecDepth 100000 in
theorem T_X8_endsAt {G : XG} {Y : XY} (hw : WT Y) {a0 : Nat} {a1 : Int32} {N : XN} (k100 : kc Y a0 = 18) {r9 : Int32} {N9 : XN} (h : f_X8_endsAt Y a0 a1 N = some (r9, N9)) : Cl G yX8_endsAt cX8_endsAt 3 (some .int) (xR 10 0 0) [.ref a0, .int a1] (.inl (some (.int r9))) Y N Y N9 := by
  refine x_entry (by decide) (Nat.le_of_ble_eq_true rfl) rfl ?_
  rw [f_X8_endsAt] at h
  refine x_aload_n 0 dX8_endsAt_0 rfl rfl ?_
  refine x_iconst (v := 0) dX8_endsAt_1 rfl ?_
  refine x_puti dX8_endsAt_2 vc_X8 xin8 tyX8_ok nmX8 fb_X8_0 fl_X8_45 ff_X8_0 xr_X8_0 (nf_X8_0 _) (ft_X8_0 _) k100 ?_
  obtain ⟨N1, eN1, h⟩ := x_lt h
  refine x_nmN eN1 ?_
  refine x_aload_n 0 dX8_endsAt_5 rfl rfl ?_
  refine x_iload_n 1 dX8_endsAt_6 rfl rfl ?_
  obtain ⟨r3, N4, q2, h⟩ := x_bd2 h
  refine x_cv (b := a0) (As := [.int a1]) (ci := 8) (d' := 2) (zz := yX8_noRequest) dX8_endsAt_7 ml_X8_302 wi_X8_noRequest wv_X8_noRequest wn_X8 wc_X8_noRequest hp_X8_noRequest (by decide) (by decide) rfl (Nat.le_of_ble_eq_true rfl) ⟨Nat.zero_le _, Nat.zero_le _⟩ rfl k100 (T_X8_noRequest (G := G) hw k100 q2) ?_
  rcases x_if h with ⟨c5, h⟩ | ⟨c5, h⟩
  · refine x_if_eq_t (tgt := 15) dX8_endsAt_10 (by decide) c5 ?_
    refine x_aload_n 0 dX8_endsAt_15 rfl rfl ?_
    obtain ⟨g6, k7, n8⟩ := wt_X8_8 hw k100
    refine x_getr dX8_endsAt_16 vc_X8 xin8 fb_X8_8 fl_X8_17 xr_X8_8 k100 g6 ?_
    refine x_aload_n 0 dX8_endsAt_19 rfl rfl ?_
    obtain ⟨g9, k10, n11⟩ := wt_X8_10 hw k100
    refine x_getr dX8_endsAt_20 vc_X8 xin8 fb_X8_10 fl_X8_23 xr_X8_10 k100 g9 ?_
    refine x_sipush (v := 584) dX8_endsAt_23 rfl ?_
    obtain ⟨N13, q12, h⟩ := x_bd1 h
    refine x_cs (As := [.ref (gp Y a0 8), .ref (gp Y a0 10), .int 584]) (d' := 1) (zz := yX8_copy) dX8_endsAt_26 ml_X8_193 wt_X8_copy wn_X8 wc_X8_copy hp_X8_copy (by decide) (by decide) rfl (Nat.le_of_ble_eq_true rfl) ⟨Nat.zero_le _, Nat.zero_le _⟩ (T_X8_copy (G := G) hw k7 k10 q12) ?_
    refine x_iconst (v := 0) dX8_endsAt_29 rfl ?_
    refine x_istore_n (L' := [(0, .ref a0), (1, .int a1), (2, .int 0)]) [1, 2, 0] dX8_endsAt_30 rfl (by decide) rfl ?_
    exact T_X8_endsAt_31 (G := G) hw FU a0 a1 0 N13 k100 h
  · refine x_if_eq_f (tgt := 15) dX8_endsAt_10 (by decide) c5 ?_
    refine x_iconst (v := 0) dX8_endsAt_13 rfl ?_
    obtain ⟨rfl, rfl⟩ := Prod.mk.inj (x_so h)
    exact x_iret dX8_endsAt_14 rfl rfl rfl
set_option maxHeartbeats 4000000 in
set_option maxRecDepth 100000 in
theorem T_X8_bankruptIn_31 {G : XG} {Y : XY} (hw : WT Y) {r9 : Int32} {N9 : XN}: ∀ (D9 : Nat) (p_0 : Nat) (v_1 : Int32) (v_2 : Int32) (N : XN), kc Y p_0 = 18 → f_X8_bankruptIn_31 Y D9 p_0 v_1 v_2 N = some (r9, N9) → Ex G yX8_bankruptIn cX8_bankruptIn 4 (some .int) (xR 10 0 0) (.inl (some (.int r9))) Y N9 0 0 31 [(0, .ref p_0), (1, .int v_1), (2, .int v_2)] [] Y N := by
  intro D9
  induction D9 with
  | zero => intro p_0 v_1 v_2 N kk0 h; exact nomatch (show none = some _ from h)
  | succ D9 ih =>
    intro p_0 v_1 v_2 N kk0 h
    rw [f_X8_bankruptIn_31] at h
    refine x_iload_n 2 dX8_bankruptIn_31 rfl rfl ?_
    refine x_sipush (v := 1100) dX8_bankruptIn_32 rfl ?_
    rcases x_if h with ⟨c1, h⟩ | ⟨c1, h⟩
    · refine x_icmp_ge_t (tgt := 57) dX8_bankruptIn_35 (by decide) c1 ?_
      refine x_aload_n 0 dX8_bankruptIn_57 rfl rfl ?_
      refine x_iload_n 1 dX8_bankruptIn_58 rfl rfl ?_
      refine x_iconst (v := 2) dX8_bankruptIn_59 rfl ?_
      obtain ⟨r3, q2, h⟩ := x_bd1 h
      refine x_cv (b := p_0) (As := [.int v_1, .int 2]) (ci := 8) (d' := 2) (zz := yX8_ofHandler) dX8_bankruptIn_60 ml_X8_245 wi_X8_ofHandler wv_X8_ofHandler wn_X8 wc_X8_ofHandler hp_X8_ofHandler (by decide) (by decide) rfl (Nat.le_of_ble_eq_true rfl) ⟨Nat.zero_le _, Nat.zero_le _⟩ rfl kk0 (T_X8_ofHandler (G := G) hw kk0 q2) ?_
      refine x_iconst (v := 1) dX8_bankruptIn_63 rfl ?_
      rcases x_if h with ⟨c4, h⟩ | ⟨c4, h⟩
      · refine x_icmp_ne_f (tgt := 71) dX8_bankruptIn_64 (by decide) c4 ?_
        refine x_iconst (v := 1) dX8_bankruptIn_67 rfl ?_
        refine x_goto (tgt := 72) dX8_bankruptIn_68 (by decide) ?_
        refine x_istore_n (L' := [(0, .ref p_0), (2, .int v_2), (3, .int 1)]) [1, 3, 0] dX8_bankruptIn_72 rfl (by decide) rfl ?_
        refine x_aload_n 0 dX8_bankruptIn_73 rfl rfl ?_
        obtain ⟨g5, k6, n7⟩ := wt_X8_10 hw kk0
        refine x_getr dX8_bankruptIn_74 vc_X8 xin8 fb_X8_10 fl_X8_23 xr_X8_10 kk0 g5 ?_
        refine x_aload_n 0 dX8_bankruptIn_77 rfl rfl ?_
        obtain ⟨g8, k9, n10⟩ := wt_X8_8 hw kk0
        refine x_getr dX8_bankruptIn_78 vc_X8 xin8 fb_X8_8 fl_X8_17 xr_X8_8 kk0 g8 ?_
        refine x_sipush (v := 584) dX8_bankruptIn_81 rfl ?_
        obtain ⟨N12, q11, h⟩ := x_bd1 h
        refine x_cs (As := [.ref (gp Y p_0 10), .ref (gp Y p_0 8), .int 584]) (d' := 1) (zz := yX8_copy) dX8_bankruptIn_84 ml_X8_193 wt_X8_copy wn_X8 wc_X8_copy hp_X8_copy (by decide) (by decide) rfl (Nat.le_of_ble_eq_true rfl) ⟨Nat.zero_le _, Nat.zero_le _⟩ (T_X8_copy (G := G) hw k6 k9 q11) ?_
        refine x_iload_n 2 dX8_bankruptIn_87 rfl rfl ?_
        refine x_if_eq_f (tgt := 95) dX8_bankruptIn_88 (by decide) (by decide) ?_
        refine x_iload_n 1 dX8_bankruptIn_91 rfl rfl ?_
        refine x_goto (tgt := 96) dX8_bankruptIn_92 (by decide) ?_
        obtain ⟨rfl, rfl⟩ := Prod.mk.inj (x_so h)
        exact x_iret dX8_bankruptIn_96 rfl rfl rfl
      · refine x_icmp_ne_t (tgt := 71) dX8_bankruptIn_64 (by decide) c4 ?_
        refine x_iconst (v := 0) dX8_bankruptIn_71 rfl ?_
        refine x_istore_n (L' := [(0, .ref p_0), (2, .int v_2), (3, .int 0)]) [1, 3, 0] dX8_bankruptIn_72 rfl (by decide) rfl ?_
        refine x_aload_n 0 dX8_bankruptIn_73 rfl rfl ?_
        obtain ⟨g13, k14, n15⟩ := wt_X8_10 hw kk0
        refine x_getr dX8_bankruptIn_74 vc_X8 xin8 fb_X8_10 fl_X8_23 xr_X8_10 kk0 g13 ?_
        refine x_aload_n 0 dX8_bankruptIn_77 rfl rfl ?_
        obtain ⟨g16, k17, n18⟩ := wt_X8_8 hw kk0
        refine x_getr dX8_bankruptIn_78 vc_X8 xin8 fb_X8_8 fl_X8_17 xr_X8_8 kk0 g16 ?_
        refine x_sipush (v := 584) dX8_bankruptIn_81 rfl ?_
        obtain ⟨N20, q19, h⟩ := x_bd1 h
        refine x_cs (As := [.ref (gp Y p_0 10), .ref (gp Y p_0 8), .int 584]) (d' := 1) (zz := yX8_copy) dX8_bankruptIn_84 ml_X8_193 wt_X8_copy wn_X8 wc_X8_copy hp_X8_copy (by decide) (by decide) rfl (Nat.le_of_ble_eq_true rfl) ⟨Nat.zero_le _, Nat.zero_le _⟩ (T_X8_copy (G := G) hw k14 k17 q19) ?_
        refine x_iload_n 2 dX8_bankruptIn_87 rfl rfl ?_
        refine x_if_eq_t (tgt := 95) dX8_bankruptIn_88 (by decide) (by decide) ?_
        refine x_iconst (v := (-1)) dX8_bankruptIn_95 rfl ?_
        obtain ⟨rfl, rfl⟩ := Prod.mk.inj (x_so h)
        exact x_iret dX8_bankruptIn_96 rfl rfl rfl
    · refine x_icmp_ge_f (tgt := 57) dX8_bankruptIn_35 (by decide) c1 ?_
      refine x_aload_n 0 dX8_bankruptIn_38 rfl rfl ?_
      refine x_iload_n 1 dX8_bankruptIn_39 rfl rfl ?_
      refine x_iconst (v := 2) dX8_bankruptIn_40 rfl ?_
      obtain ⟨r22, q21, h⟩ := x_bd1 h
      refine x_cv (b := p_0) (As := [.int v_1, .int 2]) (ci := 8) (d' := 2) (zz := yX8_ofHandler) dX8_bankruptIn_41 ml_X8_245 wi_X8_ofHandler wv_X8_ofHandler wn_X8 wc_X8_ofHandler hp_X8_ofHandler (by decide) (by decide) rfl (Nat.le_of_ble_eq_true rfl) ⟨Nat.zero_le _, Nat.zero_le _⟩ rfl kk0 (T_X8_ofHandler (G := G) hw kk0 q21) ?_
      rcases x_if h with ⟨c23, h⟩ | ⟨c23, h⟩
      · refine x_if_ne_f (tgt := 57) dX8_bankruptIn_44 (by decide) c23 ?_
        refine x_aload_n 0 dX8_bankruptIn_47 rfl rfl ?_
        obtain ⟨N25, q24, h⟩ := x_bd1 h
        refine x_cv (b := p_0) (As := []) (ci := 8) (d' := 9) (zz := yX8_tick) dX8_bankruptIn_48 ml_X8_305 wi_X8_tick wv_X8_tick wn_X8 wc_X8_tick hp_X8_tick (by decide) (by decide) rfl (Nat.le_of_ble_eq_true rfl) ⟨Nat.zero_le _, Nat.zero_le _⟩ rfl kk0 (T_X8_tick (G := G) hw kk0 q24) ?_
        refine x_iinc (L' := [(0, .ref p_0), (1, .int v_1), (2, .int (v_2 + 1))]) 2 [1, 2, 0] dX8_bankruptIn_51 rfl rfl (by decide) rfl ?_
        refine x_goto (tgt := 31) dX8_bankruptIn_54 (by decide) ?_
        exact ih p_0 v_1 (v_2 + 1) N25 kk0 h
      · refine x_if_ne_t (tgt := 57) dX8_bankruptIn_44 (by decide) c23 ?_
        refine x_aload_n 0 dX8_bankruptIn_57 rfl rfl ?_
        refine x_iload_n 1 dX8_bankruptIn_58 rfl rfl ?_
        refine x_iconst (v := 2) dX8_bankruptIn_59 rfl ?_
        obtain ⟨r27, q26, h⟩ := x_bd1 h
        refine x_cv (b := p_0) (As := [.int v_1, .int 2]) (ci := 8) (d' := 2) (zz := yX8_ofHandler) dX8_bankruptIn_60 ml_X8_245 wi_X8_ofHandler wv_X8_ofHandler wn_X8 wc_X8_ofHandler hp_X8_ofHandler (by decide) (by decide) rfl (Nat.le_of_ble_eq_true rfl) ⟨Nat.zero_le _, Nat.zero_le _⟩ rfl kk0 (T_X8_ofHandler (G := G) hw kk0 q26) ?_
        refine x_iconst (v := 1) dX8_bankruptIn_63 rfl ?_
        rcases x_if h with ⟨c28, h⟩ | ⟨c28, h⟩
        · refine x_icmp_ne_f (tgt := 71) dX8_bankruptIn_64 (by decide) c28 ?_
          refine x_iconst (v := 1) dX8_bankruptIn_67 rfl ?_
          refine x_goto (tgt := 72) dX8_bankruptIn_68 (by decide) ?_
          refine x_istore_n (L' := [(0, .ref p_0), (2, .int v_2), (3, .int 1)]) [1, 3, 0] dX8_bankruptIn_72 rfl (by decide) rfl ?_
          refine x_aload_n 0 dX8_bankruptIn_73 rfl rfl ?_
          obtain ⟨g29, k30, n31⟩ := wt_X8_10 hw kk0
          refine x_getr dX8_bankruptIn_74 vc_X8 xin8 fb_X8_10 fl_X8_23 xr_X8_10 kk0 g29 ?_
          refine x_aload_n 0 dX8_bankruptIn_77 rfl rfl ?_
          obtain ⟨g32, k33, n34⟩ := wt_X8_8 hw kk0
          refine x_getr dX8_bankruptIn_78 vc_X8 xin8 fb_X8_8 fl_X8_17 xr_X8_8 kk0 g32 ?_
          refine x_sipush (v := 584) dX8_bankruptIn_81 rfl ?_
          obtain ⟨N36, q35, h⟩ := x_bd1 h
          refine x_cs (As := [.ref (gp Y p_0 10), .ref (gp Y p_0 8), .int 584]) (d' := 1) (zz := yX8_copy) dX8_bankruptIn_84 ml_X8_193 wt_X8_copy wn_X8 wc_X8_copy hp_X8_copy (by decide) (by decide) rfl (Nat.le_of_ble_eq_true rfl) ⟨Nat.zero_le _, Nat.zero_le _⟩ (T_X8_copy (G := G) hw k30 k33 q35) ?_
          refine x_iload_n 2 dX8_bankruptIn_87 rfl rfl ?_
          refine x_if_eq_f (tgt := 95) dX8_bankruptIn_88 (by decide) (by decide) ?_
          refine x_iload_n 1 dX8_bankruptIn_91 rfl rfl ?_
          refine x_goto (tgt := 96) dX8_bankruptIn_92 (by decide) ?_
          obtain ⟨rfl, rfl⟩ := Prod.mk.inj (x_so h)
          exact x_iret dX8_bankruptIn_96 rfl rfl rfl
        · refine x_icmp_ne_t (tgt := 71) dX8_bankruptIn_64 (by decide) c28 ?_
          refine x_iconst (v := 0) dX8_bankruptIn_71 rfl ?_
          refine x_istore_n (L' := [(0, .ref p_0), (2, .int v_2), (3, .int 0)]) [1, 3, 0] dX8_bankruptIn_72 rfl (by decide) rfl ?_
          refine x_aload_n 0 dX8_bankruptIn_73 rfl rfl ?_
          obtain ⟨g37, k38, n39⟩ := wt_X8_10 hw kk0
          refine x_getr dX8_bankruptIn_74 vc_X8 xin8 fb_X8_10 fl_X8_23 xr_X8_10 kk0 g37 ?_
          refine x_aload_n 0 dX8_bankruptIn_77 rfl rfl ?_
          obtain ⟨g40, k41, n42⟩ := wt_X8_8 hw kk0
          refine x_getr dX8_bankruptIn_78 vc_X8 xin8 fb_X8_8 fl_X8_17 xr_X8_8 kk0 g40 ?_
          refine x_sipush (v := 584) dX8_bankruptIn_81 rfl ?_
          obtain ⟨N44, q43, h⟩ := x_bd1 h
          refine x_cs (As := [.ref (gp Y p_0 10), .ref (gp Y p_0 8), .int 584]) (d' := 1) (zz := yX8_copy) dX8_bankruptIn_84 ml_X8_193 wt_X8_copy wn_X8 wc_X8_copy hp_X8_copy (by decide) (by decide) rfl (Nat.le_of_ble_eq_true rfl) ⟨Nat.zero_le _, Nat.zero_le _⟩ (T_X8_copy (G := G) hw k38 k41 q43) ?_
          refine x_iload_n 2 dX8_bankruptIn_87 rfl rfl ?_
          refine x_if_eq_t (tgt := 95) dX8_bankruptIn_88 (by decide) (by decide) ?_
          refine x_iconst (v := (-1)) dX8_bankruptIn_95 rfl ?_
          obtain ⟨rfl, rfl⟩ := Prod.mk.inj (x_so h)
          exact x_iret dX8_bankruptIn_96 rfl rfl rfl
set_option maxHeartbeats 4000000 in
set_option maxRecDepth 100000 in
theorem T_X8_bankruptIn {G : XG} {Y : XY} (hw : WT Y) {a0 : Nat} {a1 : Int32} {N : XN} (k100 : kc Y a0 = 18) {r9 : Int32} {N9 : XN} (h : f_X8_bankruptIn Y a0 a1 N = some (r9, N9)) : Cl G yX8_bankruptIn cX8_bankruptIn 4 (some .int) (xR 10 0 0) [.ref a0, .int a1] (.inl (some (.int r9))) Y N Y N9 := by
  refine x_entry (by decide) (Nat.le_of_ble_eq_true rfl) rfl ?_
  rw [f_X8_bankruptIn] at h
  refine x_aload_n 0 dX8_bankruptIn_0 rfl rfl ?_
  refine x_iconst (v := 0) dX8_bankruptIn_1 rfl ?_
  refine x_puti dX8_bankruptIn_2 vc_X8 xin8 tyX8_ok nmX8 fb_X8_0 fl_X8_45 ff_X8_0 xr_X8_0 (nf_X8_0 _) (ft_X8_0 _) k100 ?_
  obtain ⟨N1, eN1, h⟩ := x_lt h
  refine x_nmN eN1 ?_
  refine x_aload_n 0 dX8_bankruptIn_5 rfl rfl ?_
  refine x_iload_n 1 dX8_bankruptIn_6 rfl rfl ?_
  obtain ⟨r3, N4, q2, h⟩ := x_bd2 h
  refine x_cv (b := a0) (As := [.int a1]) (ci := 8) (d' := 2) (zz := yX8_noHandler) dX8_bankruptIn_7 ml_X8_287 wi_X8_noHandler wv_X8_noHandler wn_X8 wc_X8_noHandler hp_X8_noHandler (by decide) (by decide) rfl (Nat.le_of_ble_eq_true rfl) ⟨Nat.zero_le _, Nat.zero_le _⟩ rfl k100 (T_X8_noHandler (G := G) hw k100 q2) ?_
  rcases x_if h with ⟨c5, h⟩ | ⟨c5, h⟩
  · refine x_if_eq_t (tgt := 15) dX8_bankruptIn_10 (by decide) c5 ?_
    refine x_aload_n 0 dX8_bankruptIn_15 rfl rfl ?_
    obtain ⟨g6, k7, n8⟩ := wt_X8_8 hw k100
    refine x_getr dX8_bankruptIn_16 vc_X8 xin8 fb_X8_8 fl_X8_17 xr_X8_8 k100 g6 ?_
    refine x_aload_n 0 dX8_bankruptIn_19 rfl rfl ?_
    obtain ⟨g9, k10, n11⟩ := wt_X8_10 hw k100
    refine x_getr dX8_bankruptIn_20 vc_X8 xin8 fb_X8_10 fl_X8_23 xr_X8_10 k100 g9 ?_
    refine x_sipush (v := 584) dX8_bankruptIn_23 rfl ?_
    obtain ⟨N13, q12, h⟩ := x_bd1 h
    refine x_cs (As := [.ref (gp Y a0 8), .ref (gp Y a0 10), .int 584]) (d' := 1) (zz := yX8_copy) dX8_bankruptIn_26 ml_X8_193 wt_X8_copy wn_X8 wc_X8_copy hp_X8_copy (by decide) (by decide) rfl (Nat.le_of_ble_eq_true rfl) ⟨Nat.zero_le _, Nat.zero_le _⟩ (T_X8_copy (G := G) hw k7 k10 q12) ?_
    refine x_iconst (v := 0) dX8_bankruptIn_29 rfl ?_
    refine x_istore_n (L' := [(0, .ref a0), (1, .int a1), (2, .int 0)]) [1, 2, 0] dX8_bankruptIn_30 rfl (by decide) rfl ?_
    exact T_X8_bankruptIn_31 (G := G) hw FU a0 a1 0 N13 k100 h
  · refine x_if_eq_f (tgt := 15) dX8_bankruptIn_10 (by decide) c5 ?_
    refine x_iconst (v := 0) dX8_bankruptIn_13 rfl ?_
    obtain ⟨rfl, rfl⟩ := Prod.mk.inj (x_so h)
    exact x_iret dX8_bankruptIn_14 rfl rfl rfl
set_option maxHeartbeats 4000000 in
set_option maxRecDepth 100000 in
theorem T_X8_finesPaid_4 {G : XG} {Y : XY} (hw : WT Y) {r9 : Int32}: ∀ (D9 : Nat) (p_0 : Nat) (v_1 : Int32) (v_2 : Int32) (N : XN), kc Y p_0 = 18 → f_X8_finesPaid_4 Y D9 p_0 v_1 v_2 N = some r9 → Ex G yX8_finesPaid cX8_finesPaid 3 (some .int) (xR 3 0 0) (.inl (some (.int r9))) Y N 0 0 4 [(0, .ref p_0), (1, .int v_1), (2, .int v_2)] [] Y N := by
  intro D9
  induction D9 with
  | zero => intro p_0 v_1 v_2 N kk0 h; exact nomatch (show none = some _ from h)
  | succ D9 ih =>
    intro p_0 v_1 v_2 N kk0 h
    rw [f_X8_finesPaid_4] at h
    refine x_iload_n 2 dX8_finesPaid_4 rfl rfl ?_
    refine x_aload_n 0 dX8_finesPaid_5 rfl rfl ?_
    obtain ⟨g1, k2, n3⟩ := wt_X8_8 hw kk0
    refine x_getr dX8_finesPaid_6 vc_X8 xin8 fb_X8_8 fl_X8_17 xr_X8_8 kk0 g1 ?_
    refine x_iconst (v := 1) dX8_finesPaid_9 rfl ?_
    refine x_iald dX8_finesPaid_10 k2 (xb_at n3 xbl_1_1784) xl_1 ?_
    rcases x_if h with ⟨c4, h⟩ | ⟨c4, h⟩
    · refine x_icmp_ge_t (tgt := 29) dX8_finesPaid_11 (by decide) c4 ?_
      refine x_iload_n 1 dX8_finesPaid_29 rfl rfl ?_
      obtain rfl := x_so h
      exact x_iret dX8_finesPaid_30 rfl rfl rfl
    · refine x_icmp_ge_f (tgt := 29) dX8_finesPaid_11 (by decide) c4 ?_
      refine x_iload_n 1 dX8_finesPaid_14 rfl rfl ?_
      refine x_aload_n 0 dX8_finesPaid_15 rfl rfl ?_
      refine x_iload_n 2 dX8_finesPaid_16 rfl rfl ?_
      refine x_iconst (v := 3) dX8_finesPaid_17 rfl ?_
      obtain ⟨r6, q5, h⟩ := x_bd1 h
      refine x_cv (b := p_0) (As := [.int v_2, .int 3]) (ci := 8) (d' := 2) (zz := yX8_ofHandler) dX8_finesPaid_18 ml_X8_245 wi_X8_ofHandler wv_X8_ofHandler wn_X8 wc_X8_ofHandler hp_X8_ofHandler (by decide) (by decide) rfl (Nat.le_of_ble_eq_true rfl) ⟨Nat.zero_le _, Nat.zero_le _⟩ rfl kk0 (T_X8_ofHandler (G := G) hw kk0 q5) ?_
      refine x_iadd dX8_finesPaid_21 ?_
      refine x_istore_n (L' := [(0, .ref p_0), (1, .int (v_1 + r6)), (2, .int v_2)]) [1, 0, 2] dX8_finesPaid_22 rfl (by decide) rfl ?_
      refine x_iinc (L' := [(0, .ref p_0), (1, .int (v_1 + r6)), (2, .int (v_2 + 1))]) 2 [1, 2, 0] dX8_finesPaid_23 rfl rfl (by decide) rfl ?_
      refine x_goto (tgt := 4) dX8_finesPaid_26 (by decide) ?_
      exact ih p_0 (v_1 + r6) (v_2 + 1) N kk0 h
set_option maxHeartbeats 4000000 in
set_option maxRecDepth 100000 in
theorem T_X8_finesPaid {G : XG} {Y : XY} (hw : WT Y) {a0 : Nat} {N : XN} (k100 : kc Y a0 = 18) {r9 : Int32} (h : f_X8_finesPaid Y a0 N = some r9) : Cl G yX8_finesPaid cX8_finesPaid 3 (some .int) (xR 3 0 0) [.ref a0] (.inl (some (.int r9))) Y N Y N := by
  refine x_entry (by decide) (Nat.le_of_ble_eq_true rfl) rfl ?_
  rw [f_X8_finesPaid] at h
  refine x_iconst (v := 0) dX8_finesPaid_0 rfl ?_
  refine x_istore_n (L' := [(0, .ref a0), (1, .int 0)]) [1, 0] dX8_finesPaid_1 rfl (by decide) rfl ?_
  refine x_iconst (v := 0) dX8_finesPaid_2 rfl ?_
  refine x_istore_n (L' := [(0, .ref a0), (1, .int 0), (2, .int 0)]) [1, 2, 0] dX8_finesPaid_3 rfl (by decide) rfl ?_
  exact T_X8_finesPaid_4 (G := G) hw FU a0 0 0 N k100 h
set_option maxHeartbeats 4000000 in
set_option maxRecDepth 100000 in
theorem T_X8_finesWithin_21 {G : XG} {Y : XY} (hw : WT Y) {r9 : Int32} {N9 : XN}: ∀ (D9 : Nat) (p_0 : Nat) (v_1 : Int32) (v_2 : Int32) (v_3 : Int32) (N : XN), kc Y p_0 = 18 → f_X8_finesWithin_21 Y D9 p_0 v_1 v_2 v_3 N = some (r9, N9) → Ex G yX8_finesWithin cX8_finesWithin 4 (some .int) (xR 10 0 0) (.inl (some (.int r9))) Y N9 0 0 21 [(0, .ref p_0), (1, .int v_1), (2, .int v_2), (3, .int v_3)] [] Y N := by
  intro D9
  induction D9 with
  | zero => intro p_0 v_1 v_2 v_3 N kk0 h; exact nomatch (show none = some _ from h)
  | succ D9 ih =>
    intro p_0 v_1 v_2 v_3 N kk0 h
    rw [f_X8_finesWithin_21] at h
    refine x_iload_n 3 dX8_finesWithin_21 rfl rfl ?_
    refine x_iload_n 1 dX8_finesWithin_22 rfl rfl ?_
    rcases x_if h with ⟨c1, h⟩ | ⟨c1, h⟩
    · refine x_icmp_ge_t (tgt := 36) dX8_finesWithin_23 (by decide) c1 ?_
      refine x_aload_n 0 dX8_finesWithin_36 rfl rfl ?_
      obtain ⟨r3, q2, h⟩ := x_bd1 h
      refine x_cv (b := p_0) (As := []) (ci := 8) (d' := 3) (zz := yX8_finesPaid) dX8_finesWithin_37 ml_X8_308 wi_X8_finesPaid wv_X8_finesPaid wn_X8 wc_X8_finesPaid hp_X8_finesPaid (by decide) (by decide) rfl (Nat.le_of_ble_eq_true rfl) ⟨Nat.zero_le _, Nat.zero_le _⟩ rfl kk0 (T_X8_finesPaid (G := G) hw kk0 q2) ?_
      refine x_iload_n 2 dX8_finesWithin_40 rfl rfl ?_
      refine x_isub dX8_finesWithin_41 ?_
      refine x_istore_n (L' := [(0, .ref p_0), (3, .int (r3 - v_2))]) [1, 0] dX8_finesWithin_42 rfl (by decide) rfl ?_
      refine x_aload_n 0 dX8_finesWithin_43 rfl rfl ?_
      obtain ⟨g4, k5, n6⟩ := wt_X8_11 hw kk0
      refine x_getr dX8_finesWithin_44 vc_X8 xin8 fb_X8_11 fl_X8_26 xr_X8_11 kk0 g4 ?_
      refine x_aload_n 0 dX8_finesWithin_47 rfl rfl ?_
      obtain ⟨g7, k8, n9⟩ := wt_X8_8 hw kk0
      refine x_getr dX8_finesWithin_48 vc_X8 xin8 fb_X8_8 fl_X8_17 xr_X8_8 kk0 g7 ?_
      refine x_sipush (v := 584) dX8_finesWithin_51 rfl ?_
      obtain ⟨N11, q10, h⟩ := x_bd1 h
      refine x_cs (As := [.ref (gp Y p_0 11), .ref (gp Y p_0 8), .int 584]) (d' := 1) (zz := yX8_copy) dX8_finesWithin_54 ml_X8_193 wt_X8_copy wn_X8 wc_X8_copy hp_X8_copy (by decide) (by decide) rfl (Nat.le_of_ble_eq_true rfl) ⟨Nat.zero_le _, Nat.zero_le _⟩ (T_X8_copy (G := G) hw k5 k8 q10) ?_
      refine x_iload_n 1 dX8_finesWithin_57 rfl rfl ?_
      obtain ⟨rfl, rfl⟩ := Prod.mk.inj (x_so h)
      exact x_iret dX8_finesWithin_58 rfl rfl rfl
    · refine x_icmp_ge_f (tgt := 36) dX8_finesWithin_23 (by decide) c1 ?_
      refine x_aload_n 0 dX8_finesWithin_26 rfl rfl ?_
      obtain ⟨N13, q12, h⟩ := x_bd1 h
      refine x_cv (b := p_0) (As := []) (ci := 8) (d' := 9) (zz := yX8_tick) dX8_finesWithin_27 ml_X8_305 wi_X8_tick wv_X8_tick wn_X8 wc_X8_tick hp_X8_tick (by decide) (by decide) rfl (Nat.le_of_ble_eq_true rfl) ⟨Nat.zero_le _, Nat.zero_le _⟩ rfl kk0 (T_X8_tick (G := G) hw kk0 q12) ?_
      refine x_iinc (L' := [(0, .ref p_0), (1, .int v_1), (2, .int v_2), (3, .int (v_3 + 1))]) 3 [1, 2, 3, 0] dX8_finesWithin_30 rfl rfl (by decide) rfl ?_
      refine x_goto (tgt := 21) dX8_finesWithin_33 (by decide) ?_
      exact ih p_0 v_1 v_2 (v_3 + 1) N13 kk0 h
set_option maxHeartbeats 4000000 in
set_option maxRecDepth 100000 in
theorem T_X8_finesWithin {G : XG} {Y : XY} (hw : WT Y) {a0 : Nat} {a1 : Int32} {N : XN} (k100 : kc Y a0 = 18) {r9 : Int32} {N9 : XN} (h : f_X8_finesWithin Y a0 a1 N = some (r9, N9)) : Cl G yX8_finesWithin cX8_finesWithin 4 (some .int) (xR 10 0 0) [.ref a0, .int a1] (.inl (some (.int r9))) Y N Y N9 := by
  refine x_entry (by decide) (Nat.le_of_ble_eq_true rfl) rfl ?_
  rw [f_X8_finesWithin] at h
  refine x_aload_n 0 dX8_finesWithin_0 rfl rfl ?_
  obtain ⟨g1, k2, n3⟩ := wt_X8_8 hw k100
  refine x_getr dX8_finesWithin_1 vc_X8 xin8 fb_X8_8 fl_X8_17 xr_X8_8 k100 g1 ?_
  refine x_aload_n 0 dX8_finesWithin_4 rfl rfl ?_
  obtain ⟨g4, k5, n6⟩ := wt_X8_11 hw k100
  refine x_getr dX8_finesWithin_5 vc_X8 xin8 fb_X8_11 fl_X8_26 xr_X8_11 k100 g4 ?_
  refine x_sipush (v := 584) dX8_finesWithin_8 rfl ?_
  obtain ⟨N8, q7, h⟩ := x_bd1 h
  refine x_cs (As := [.ref (gp Y a0 8), .ref (gp Y a0 11), .int 584]) (d' := 1) (zz := yX8_copy) dX8_finesWithin_11 ml_X8_193 wt_X8_copy wn_X8 wc_X8_copy hp_X8_copy (by decide) (by decide) rfl (Nat.le_of_ble_eq_true rfl) ⟨Nat.zero_le _, Nat.zero_le _⟩ (T_X8_copy (G := G) hw k2 k5 q7) ?_
  refine x_aload_n 0 dX8_finesWithin_14 rfl rfl ?_
  obtain ⟨r10, q9, h⟩ := x_bd1 h
  refine x_cv (b := a0) (As := []) (ci := 8) (d' := 3) (zz := yX8_finesPaid) dX8_finesWithin_15 ml_X8_308 wi_X8_finesPaid wv_X8_finesPaid wn_X8 wc_X8_finesPaid hp_X8_finesPaid (by decide) (by decide) rfl (Nat.le_of_ble_eq_true rfl) ⟨Nat.zero_le _, Nat.zero_le _⟩ rfl k100 (T_X8_finesPaid (G := G) hw k100 q9) ?_
  refine x_istore_n (L' := [(0, .ref a0), (1, .int a1), (2, .int r10)]) [1, 2, 0] dX8_finesWithin_18 rfl (by decide) rfl ?_
  refine x_iconst (v := 0) dX8_finesWithin_19 rfl ?_
  refine x_istore_n (L' := [(0, .ref a0), (1, .int a1), (2, .int r10), (3, .int 0)]) [1, 2, 3, 0] dX8_finesWithin_20 rfl (by decide) rfl ?_
  exact T_X8_finesWithin_21 (G := G) hw FU a0 a1 r10 0 N8 k100 h
set_option maxHeartbeats 4000000 in
set_option maxRecDepth 100000 in
theorem T_X8_finesIn {G : XG} {Y : XY} (hw : WT Y) {a0 : Nat} {a1 : Int32} {N : XN} (k100 : kc Y a0 = 18) {r9 : Int32} {N9 : XN} (h : f_X8_finesIn Y a0 a1 N = some (r9, N9)) : Cl G yX8_finesIn cX8_finesIn 2 (some .int) (xR 11 0 0) [.ref a0, .int a1] (.inl (some (.int r9))) Y N Y N9 := by
  refine x_entry (by decide) (Nat.le_of_ble_eq_true rfl) rfl ?_
  rw [f_X8_finesIn] at h
  refine x_aload_n 0 dX8_finesIn_0 rfl rfl ?_
  refine x_iconst (v := 0) dX8_finesIn_1 rfl ?_
  refine x_puti dX8_finesIn_2 vc_X8 xin8 tyX8_ok nmX8 fb_X8_0 fl_X8_45 ff_X8_0 xr_X8_0 (nf_X8_0 _) (ft_X8_0 _) k100 ?_
  obtain ⟨N1, eN1, h⟩ := x_lt h
  refine x_nmN eN1 ?_
  refine x_aload_n 0 dX8_finesIn_5 rfl rfl ?_
  refine x_iload_n 1 dX8_finesIn_6 rfl rfl ?_
  refine x_iconst (v := 0) dX8_finesIn_7 rfl ?_
  refine x_sipush (v := 1100) dX8_finesIn_8 rfl ?_
  refine x_cs (As := [.int a1, .int 0, .int 1100]) (d' := 1) (zz := yX8_in) dX8_finesIn_11 ml_X8_67 wt_X8_in wn_X8 wc_X8_in hp_X8_in (by decide) (by decide) rfl (Nat.le_of_ble_eq_true rfl) ⟨Nat.zero_le _, Nat.zero_le _⟩ (T_X8_in (G := G) hw  rfl) ?_
  rcases x_if h with ⟨c2, h⟩ | ⟨c2, h⟩
  · refine x_if_ne_f (tgt := 21) dX8_finesIn_14 (by decide) c2 ?_
    refine x_iconst (v := 1) dX8_finesIn_17 rfl ?_
    refine x_goto (tgt := 22) dX8_finesIn_18 (by decide) ?_
    refine x_iconst (v := 1) dX8_finesIn_22 rfl ?_
    obtain ⟨r4, N5, q3, h⟩ := x_bd2 h
    refine x_cv (b := a0) (As := [.int 1, .int 1]) (ci := 8) (d' := 1) (zz := yX8_fails) dX8_finesIn_23 ml_X8_181 wi_X8_fails wv_X8_fails wn_X8 wc_X8_fails hp_X8_fails (by decide) (by decide) rfl (Nat.le_of_ble_eq_true rfl) ⟨Nat.zero_le _, Nat.zero_le _⟩ rfl k100 (T_X8_fails (G := G) hw k100 q3) ?_
    rcases x_if h with ⟨c6, h⟩ | ⟨c6, h⟩
    · refine x_if_eq_t (tgt := 33) dX8_finesIn_26 (by decide) c6 ?_
      refine x_aload_n 0 dX8_finesIn_33 rfl rfl ?_
      refine x_iload_n 1 dX8_finesIn_34 rfl rfl ?_
      obtain ⟨r8, N9, q7, h⟩ := x_bd2 h
      refine x_cv (b := a0) (As := [.int a1]) (ci := 8) (d' := 10) (zz := yX8_finesWithin) dX8_finesIn_35 ml_X8_311 wi_X8_finesWithin wv_X8_finesWithin wn_X8 wc_X8_finesWithin hp_X8_finesWithin (by decide) (by decide) rfl (Nat.le_of_ble_eq_true rfl) ⟨Nat.zero_le _, Nat.zero_le _⟩ rfl k100 (T_X8_finesWithin (G := G) hw k100 q7) ?_
      obtain ⟨rfl, rfl⟩ := Prod.mk.inj (x_so h)
      exact x_iret dX8_finesIn_38 rfl rfl rfl
    · refine x_if_eq_f (tgt := 33) dX8_finesIn_26 (by decide) c6 ?_
      refine x_iconst (v := 0) dX8_finesIn_29 rfl ?_
      refine x_goto (tgt := 38) dX8_finesIn_30 (by decide) ?_
      obtain ⟨rfl, rfl⟩ := Prod.mk.inj (x_so h)
      exact x_iret dX8_finesIn_38 rfl rfl rfl
  · refine x_if_ne_t (tgt := 21) dX8_finesIn_14 (by decide) c2 ?_
    refine x_iconst (v := 0) dX8_finesIn_21 rfl ?_
    refine x_iconst (v := 1) dX8_finesIn_22 rfl ?_
    obtain ⟨r11, N12, q10, h⟩ := x_bd2 h
    refine x_cv (b := a0) (As := [.int 0, .int 1]) (ci := 8) (d' := 1) (zz := yX8_fails) dX8_finesIn_23 ml_X8_181 wi_X8_fails wv_X8_fails wn_X8 wc_X8_fails hp_X8_fails (by decide) (by decide) rfl (Nat.le_of_ble_eq_true rfl) ⟨Nat.zero_le _, Nat.zero_le _⟩ rfl k100 (T_X8_fails (G := G) hw k100 q10) ?_
    rcases x_if h with ⟨c13, h⟩ | ⟨c13, h⟩
    · refine x_if_eq_t (tgt := 33) dX8_finesIn_26 (by decide) c13 ?_
      refine x_aload_n 0 dX8_finesIn_33 rfl rfl ?_
      refine x_iload_n 1 dX8_finesIn_34 rfl rfl ?_
      obtain ⟨r15, N16, q14, h⟩ := x_bd2 h
      refine x_cv (b := a0) (As := [.int a1]) (ci := 8) (d' := 10) (zz := yX8_finesWithin) dX8_finesIn_35 ml_X8_311 wi_X8_finesWithin wv_X8_finesWithin wn_X8 wc_X8_finesWithin hp_X8_finesWithin (by decide) (by decide) rfl (Nat.le_of_ble_eq_true rfl) ⟨Nat.zero_le _, Nat.zero_le _⟩ rfl k100 (T_X8_finesWithin (G := G) hw k100 q14) ?_
      obtain ⟨rfl, rfl⟩ := Prod.mk.inj (x_so h)
      exact x_iret dX8_finesIn_38 rfl rfl rfl
    · refine x_if_eq_f (tgt := 33) dX8_finesIn_26 (by decide) c13 ?_
      refine x_iconst (v := 0) dX8_finesIn_29 rfl ?_
      refine x_goto (tgt := 38) dX8_finesIn_30 (by decide) ?_
      obtain ⟨rfl, rfl⟩ := Prod.mk.inj (x_so h)
      exact x_iret dX8_finesIn_38 rfl rfl rfl
set_option maxHeartbeats 4000000 in
set_option maxRecDepth 100000 in
theorem T_X8_mayLease {G : XG} {Y : XY} (hw : WT Y) {a0 : Nat} {a1 : Int32} {a2 : Int32} {N : XN} (k100 : kc Y a0 = 18) {r9 : Int32} (h : f_X8_mayLease Y a0 a1 a2 N = some r9) : Cl G yX8_mayLease cX8_mayLease 3 (some .boolean) (xR 3 0 0) [.ref a0, .int a1, .int a2] (.inl (some (.int r9))) Y N Y N := by
  refine x_entry (by decide) (Nat.le_of_ble_eq_true rfl) rfl ?_
  rw [f_X8_mayLease] at h
  refine x_aload_n 0 dX8_mayLease_0 rfl rfl ?_
  refine x_iload_n 1 dX8_mayLease_1 rfl rfl ?_
  refine x_iconst (v := 2) dX8_mayLease_2 rfl ?_
  obtain ⟨r2, q1, h⟩ := x_bd1 h
  refine x_cv (b := a0) (As := [.int a1, .int 2]) (ci := 8) (d' := 2) (zz := yX8_ofHandler) dX8_mayLease_3 ml_X8_245 wi_X8_ofHandler wv_X8_ofHandler wn_X8 wc_X8_ofHandler hp_X8_ofHandler (by decide) (by decide) rfl (Nat.le_of_ble_eq_true rfl) ⟨Nat.zero_le _, Nat.zero_le _⟩ rfl k100 (T_X8_ofHandler (G := G) hw k100 q1) ?_
  rcases x_if h with ⟨c3, h⟩ | ⟨c3, h⟩
  · refine x_if_ne_f (tgt := 32) dX8_mayLease_6 (by decide) c3 ?_
    refine x_aload_n 0 dX8_mayLease_9 rfl rfl ?_
    refine x_iload_n 1 dX8_mayLease_10 rfl rfl ?_
    refine x_iload_n 2 dX8_mayLease_11 rfl rfl ?_
    obtain ⟨r5, q4, h⟩ := x_bd1 h
    refine x_cv (b := a0) (As := [.int a1, .int a2]) (ci := 8) (d' := 2) (zz := yX8_isTenant) dX8_mayLease_12 ml_X8_258 wi_X8_isTenant wv_X8_isTenant wn_X8 wc_X8_isTenant hp_X8_isTenant (by decide) (by decide) rfl (Nat.le_of_ble_eq_true rfl) ⟨Nat.zero_le _, Nat.zero_le _⟩ rfl k100 (T_X8_isTenant (G := G) hw k100 q4) ?_
    rcases x_if h with ⟨c6, h⟩ | ⟨c6, h⟩
    · refine x_if_ne_f (tgt := 32) dX8_mayLease_15 (by decide) c6 ?_
      refine x_aload_n 0 dX8_mayLease_18 rfl rfl ?_
      refine x_iload_n 2 dX8_mayLease_19 rfl rfl ?_
      refine x_iconst (v := 3) dX8_mayLease_20 rfl ?_
      obtain ⟨r8, q7, h⟩ := x_bd1 h
      refine x_cv (b := a0) (As := [.int a2, .int 3]) (ci := 8) (d' := 2) (zz := yX8_ofLine) dX8_mayLease_21 ml_X8_222 wi_X8_ofLine wv_X8_ofLine wn_X8 wc_X8_ofLine hp_X8_ofLine (by decide) (by decide) rfl (Nat.le_of_ble_eq_true rfl) ⟨Nat.zero_le _, Nat.zero_le _⟩ rfl k100 (T_X8_ofLine (G := G) hw k100 q7) ?_
      refine x_iconst (v := 3) dX8_mayLease_24 rfl ?_
      rcases x_if h with ⟨c9, h⟩ | ⟨c9, h⟩
      · refine x_icmp_ge_t (tgt := 32) dX8_mayLease_25 (by decide) c9 ?_
        refine x_iconst (v := 0) dX8_mayLease_32 rfl ?_
        obtain rfl := x_so h
        exact x_zret dX8_mayLease_33 rfl (by decide) rfl rfl
      · refine x_icmp_ge_f (tgt := 32) dX8_mayLease_25 (by decide) c9 ?_
        refine x_iconst (v := 1) dX8_mayLease_28 rfl ?_
        refine x_goto (tgt := 33) dX8_mayLease_29 (by decide) ?_
        obtain rfl := x_so h
        exact x_zret dX8_mayLease_33 rfl (by decide) rfl rfl
    · refine x_if_ne_t (tgt := 32) dX8_mayLease_15 (by decide) c6 ?_
      refine x_iconst (v := 0) dX8_mayLease_32 rfl ?_
      obtain rfl := x_so h
      exact x_zret dX8_mayLease_33 rfl (by decide) rfl rfl
  · refine x_if_ne_t (tgt := 32) dX8_mayLease_6 (by decide) c3 ?_
    refine x_iconst (v := 0) dX8_mayLease_32 rfl ?_
    obtain rfl := x_so h
    exact x_zret dX8_mayLease_33 rfl (by decide) rfl rfl
set_option maxHeartbeats 4000000 in
set_option maxRecDepth 100000 in
theorem T_X8_leaseNow_41 {G : XG} {Y : XY} (hw : WT Y) {r9 : Int32} {N9 : XN}: ∀ (D9 : Nat) (p_0 : Nat) (v_2 : Int32) (v_4 : Int32) (v_5 : Int32) (N : XN), kc Y p_0 = 18 → f_X8_leaseNow_41 Y D9 p_0 v_2 v_4 v_5 N = some (r9, N9) → Ex G yX8_leaseNow cX8_leaseNow 6 (some .int) (xR 7 0 0) (.inl (some (.int r9))) Y N9 0 0 41 [(0, .ref p_0), (2, .int v_2), (4, .int v_4), (5, .int v_5)] [] Y N := by
  intro D9
  induction D9 with
  | zero => intro p_0 v_2 v_4 v_5 N kk0 h; exact nomatch (show none = some _ from h)
  | succ D9 ih =>
    intro p_0 v_2 v_4 v_5 N kk0 h
    rw [f_X8_leaseNow_41] at h
    refine x_iload 3 dX8_leaseNow_41 rfl ?_
    refine x_aload_n 0 dX8_leaseNow_43 rfl rfl ?_
    obtain ⟨g1, k2, n3⟩ := wt_X8_8 hw kk0
    refine x_getr dX8_leaseNow_44 vc_X8 xin8 fb_X8_8 fl_X8_17 xr_X8_8 kk0 g1 ?_
    refine x_iconst (v := 3) dX8_leaseNow_47 rfl ?_
    refine x_iald dX8_leaseNow_48 k2 (xb_at n3 xbl_3_1784) xl_3 ?_
    rcases x_if h with ⟨c4, h⟩ | ⟨c4, h⟩
    · refine x_icmp_ge_t (tgt := 101) dX8_leaseNow_49 (by decide) c4 ?_
      refine x_iload 2 dX8_leaseNow_101 rfl ?_
      obtain ⟨rfl, rfl⟩ := Prod.mk.inj (x_so h)
      exact x_iret dX8_leaseNow_103 rfl rfl rfl
    · refine x_icmp_ge_f (tgt := 101) dX8_leaseNow_49 (by decide) c4 ?_
      refine x_aload_n 0 dX8_leaseNow_52 rfl rfl ?_
      refine x_iload 3 dX8_leaseNow_53 rfl ?_
      obtain ⟨r6, q5, h⟩ := x_bd1 h
      refine x_cv (b := p_0) (As := [.int v_5]) (ci := 8) (d' := 3) (zz := yX8_isOpen) dX8_leaseNow_55 ml_X8_209 wi_X8_isOpen wv_X8_isOpen wn_X8 wc_X8_isOpen hp_X8_isOpen (by decide) (by decide) rfl (Nat.le_of_ble_eq_true rfl) ⟨Nat.zero_le _, Nat.zero_le _⟩ rfl kk0 (T_X8_isOpen (G := G) hw kk0 q5) ?_
      rcases x_if h with ⟨c7, h⟩ | ⟨c7, h⟩
      · refine x_if_eq_t (tgt := 95) dX8_leaseNow_58 (by decide) c7 ?_
        refine x_iinc (L' := [(0, .ref p_0), (2, .int v_2), (4, .int v_4), (5, .int (v_5 + 1))]) 3 [1, 2, 3, 0] dX8_leaseNow_95 rfl rfl (by decide) rfl ?_
        refine x_goto (tgt := 41) dX8_leaseNow_98 (by decide) ?_
        exact ih p_0 v_2 v_4 (v_5 + 1) N kk0 h
      · refine x_if_eq_f (tgt := 95) dX8_leaseNow_58 (by decide) c7 ?_
        refine x_aload_n 0 dX8_leaseNow_61 rfl rfl ?_
        refine x_iload 3 dX8_leaseNow_62 rfl ?_
        refine x_iconst (v := 0) dX8_leaseNow_64 rfl ?_
        obtain ⟨r9, q8, h⟩ := x_bd1 h
        refine x_cv (b := p_0) (As := [.int v_5, .int 0]) (ci := 8) (d' := 2) (zz := yX8_ofRequest) dX8_leaseNow_65 ml_X8_206 wi_X8_ofRequest wv_X8_ofRequest wn_X8 wc_X8_ofRequest hp_X8_ofRequest (by decide) (by decide) rfl (Nat.le_of_ble_eq_true rfl) ⟨Nat.zero_le _, Nat.zero_le _⟩ rfl kk0 (T_X8_ofRequest (G := G) hw kk0 q8) ?_
        refine x_iload_n 1 dX8_leaseNow_68 rfl rfl ?_
        rcases x_if h with ⟨c10, h⟩ | ⟨c10, h⟩
        · refine x_icmp_ne_f (tgt := 95) dX8_leaseNow_69 (by decide) c10 ?_
          refine x_aload_n 0 dX8_leaseNow_72 rfl rfl ?_
          refine x_iload 3 dX8_leaseNow_73 rfl ?_
          refine x_iconst (v := 4) dX8_leaseNow_75 rfl ?_
          obtain ⟨r12, q11, h⟩ := x_bd1 h
          refine x_cv (b := p_0) (As := [.int v_5, .int 4]) (ci := 8) (d' := 2) (zz := yX8_ofRequest) dX8_leaseNow_76 ml_X8_206 wi_X8_ofRequest wv_X8_ofRequest wn_X8 wc_X8_ofRequest hp_X8_ofRequest (by decide) (by decide) rfl (Nat.le_of_ble_eq_true rfl) ⟨Nat.zero_le _, Nat.zero_le _⟩ rfl kk0 (T_X8_ofRequest (G := G) hw kk0 q11) ?_
          refine x_iconst (v := (-1)) dX8_leaseNow_79 rfl ?_
          rcases x_if h with ⟨c13, h⟩ | ⟨c13, h⟩
          · refine x_icmp_eq_t (tgt := 86) dX8_leaseNow_80 (by decide) c13 ?_
            refine x_aload_n 0 dX8_leaseNow_86 rfl rfl ?_
            refine x_iload 3 dX8_leaseNow_87 rfl ?_
            obtain ⟨N15, q14, h⟩ := x_bd1 h
            refine x_cv (b := p_0) (As := [.int v_5]) (ci := 8) (d' := 6) (zz := yX8_assign) dX8_leaseNow_89 ml_X8_225 wi_X8_assign wv_X8_assign wn_X8 wc_X8_assign hp_X8_assign (by decide) (by decide) rfl (Nat.le_of_ble_eq_true rfl) ⟨Nat.zero_le _, Nat.zero_le _⟩ rfl kk0 (T_X8_assign (G := G) hw kk0 q14) ?_
            refine x_iinc (L' := [(0, .ref p_0), (2, .int v_2), (4, .int (v_4 + 1)), (5, .int v_5)]) 2 [1, 2, 0, 3] dX8_leaseNow_92 rfl rfl (by decide) rfl ?_
            refine x_iinc (L' := [(0, .ref p_0), (2, .int v_2), (4, .int (v_4 + 1)), (5, .int (v_5 + 1))]) 3 [1, 2, 3, 0] dX8_leaseNow_95 rfl rfl (by decide) rfl ?_
            refine x_goto (tgt := 41) dX8_leaseNow_98 (by decide) ?_
            exact ih p_0 v_2 (v_4 + 1) (v_5 + 1) N15 kk0 h
          · refine x_icmp_eq_f (tgt := 86) dX8_leaseNow_80 (by decide) c13 ?_
            refine x_goto (tgt := 95) dX8_leaseNow_83 (by decide) ?_
            refine x_iinc (L' := [(0, .ref p_0), (2, .int v_2), (4, .int v_4), (5, .int (v_5 + 1))]) 3 [1, 2, 3, 0] dX8_leaseNow_95 rfl rfl (by decide) rfl ?_
            refine x_goto (tgt := 41) dX8_leaseNow_98 (by decide) ?_
            exact ih p_0 v_2 v_4 (v_5 + 1) N kk0 h
        · refine x_icmp_ne_t (tgt := 95) dX8_leaseNow_69 (by decide) c10 ?_
          refine x_iinc (L' := [(0, .ref p_0), (2, .int v_2), (4, .int v_4), (5, .int (v_5 + 1))]) 3 [1, 2, 3, 0] dX8_leaseNow_95 rfl rfl (by decide) rfl ?_
          refine x_goto (tgt := 41) dX8_leaseNow_98 (by decide) ?_
          exact ih p_0 v_2 v_4 (v_5 + 1) N kk0 h
set_option maxHeartbeats 4000000 in
set_option maxRecDepth 100000 in
theorem T_X8_leaseNow {G : XG} {Y : XY} (hw : WT Y) {a0 : Nat} {a1 : Int32} {a2 : Int32} {N : XN} (k100 : kc Y a0 = 18) {r9 : Int32} {N9 : XN} (h : f_X8_leaseNow Y a0 a1 a2 N = some (r9, N9)) : Cl G yX8_leaseNow cX8_leaseNow 6 (some .int) (xR 7 0 0) [.ref a0, .int a1, .int a2] (.inl (some (.int r9))) Y N Y N9 := by
  refine x_entry (by decide) (Nat.le_of_ble_eq_true rfl) rfl ?_
  rw [f_X8_leaseNow] at h
  refine x_iload_n 2 dX8_leaseNow_0 rfl rfl ?_
  refine x_cs (As := [.int a2]) (d' := 1) (zz := yX8_lineAt) dX8_leaseNow_1 ml_X8_200 wt_X8_lineAt wn_X8 wc_X8_lineAt hp_X8_lineAt (by decide) (by decide) rfl (Nat.le_of_ble_eq_true rfl) ⟨Nat.zero_le _, Nat.zero_le _⟩ (T_X8_lineAt (G := G) hw  rfl) ?_
  refine x_istore_n (L' := [(0, .ref a0), (1, .int a1), (2, .int a2), (3, .int (f_X8_lineAt Y a2 N))]) [1, 2, 3, 0] dX8_leaseNow_4 rfl (by decide) rfl ?_
  refine x_iconst (v := 0) dX8_leaseNow_5 rfl ?_
  refine x_istore (L' := [(0, .ref a0), (1, .int a1), (2, .int a2), (3, .int (f_X8_lineAt Y a2 N)), (4, .int 0)]) [1, 2, 3, 4, 0] dX8_leaseNow_6 (by decide) rfl ?_
  refine x_aload_n 0 dX8_leaseNow_8 rfl rfl ?_
  obtain ⟨g1, k2, n3⟩ := wt_X8_8 hw k100
  refine x_getr dX8_leaseNow_9 vc_X8 xin8 fb_X8_8 fl_X8_17 xr_X8_8 k100 g1 ?_
  refine x_iload_n 3 dX8_leaseNow_12 rfl rfl ?_
  refine x_iconst (v := 4) dX8_leaseNow_13 rfl ?_
  refine x_iadd dX8_leaseNow_14 ?_
  refine x_aload_n 0 dX8_leaseNow_15 rfl rfl ?_
  refine x_getr dX8_leaseNow_16 vc_X8 xin8 fb_X8_8 fl_X8_17 xr_X8_8 k100 g1 ?_
  refine x_iload_n 3 dX8_leaseNow_19 rfl rfl ?_
  refine x_iconst (v := 3) dX8_leaseNow_20 rfl ?_
  refine x_iadd dX8_leaseNow_21 ?_
  obtain ⟨c4, h⟩ := x_ck h
  refine x_iald dX8_leaseNow_22 k2 (xb_at n3 c4) rfl ?_
  refine x_iadd dX8_leaseNow_23 ?_
  refine x_iload_n 1 dX8_leaseNow_24 rfl rfl ?_
  obtain ⟨c5, h⟩ := x_ck h
  refine x_iast dX8_leaseNow_25 k2 (xb_at n3 c5) rfl ?_
  obtain ⟨N6, eN6, h⟩ := x_lt h
  refine x_nmN eN6 ?_
  refine x_aload_n 0 dX8_leaseNow_26 rfl rfl ?_
  refine x_getr dX8_leaseNow_27 vc_X8 xin8 fb_X8_8 fl_X8_17 xr_X8_8 k100 g1 ?_
  refine x_iload_n 3 dX8_leaseNow_30 rfl rfl ?_
  refine x_iconst (v := 3) dX8_leaseNow_31 rfl ?_
  refine x_iadd dX8_leaseNow_32 ?_
  refine x_dup2 dX8_leaseNow_33 rfl rfl ?_
  obtain ⟨c7, h⟩ := x_ck h
  refine x_iald dX8_leaseNow_34 k2 (xb_at n3 c7) rfl ?_
  refine x_iconst (v := 1) dX8_leaseNow_35 rfl ?_
  refine x_iadd dX8_leaseNow_36 ?_
  obtain ⟨c8, h⟩ := x_ck h
  refine x_iast dX8_leaseNow_37 k2 (xb_at n3 c8) rfl ?_
  obtain ⟨N9, eN9, h⟩ := x_lt h
  refine x_nmN eN9 ?_
  refine x_iconst (v := 0) dX8_leaseNow_38 rfl ?_
  refine x_istore (L' := [(0, .ref a0), (2, .int a2), (4, .int 0), (5, .int 0)]) [1, 3, 5, 0] dX8_leaseNow_39 (by decide) rfl ?_
  exact T_X8_leaseNow_41 (G := G) hw FU a0 a2 0 0 N9 k100 h
set_option maxHeartbeats 4000000 in
set_option maxRecDepth 100000 in
theorem T_X8_advise_27 {G : XG} {Y : XY} (hw : WT Y) {r9 : Int32} {N9 : XN}: ∀ (D9 : Nat) (p_0 : Nat) (v_1 : Int32) (v_2 : Int32) (v_3 : Int32) (v_4 : Int32) (N : XN), kc Y p_0 = 18 → f_X8_advise_27 Y D9 p_0 v_1 v_2 v_3 v_4 N = some (r9, N9) → Ex G yX8_advise cX8_advise 7 (some .int) (xR 11 0 0) (.inl (some (.int r9))) Y N9 0 0 27 [(0, .ref p_0), (1, .int v_1), (2, .int v_2), (3, .int v_3), (4, .int v_4)] [] Y N := by
  intro D9
  induction D9 with
  | zero => intro p_0 v_1 v_2 v_3 v_4 N kk0 h; exact nomatch (show none = some _ from h)
  | succ D9 ih =>
    intro p_0 v_1 v_2 v_3 v_4 N kk0 h
    rw [f_X8_advise_27] at h
    refine x_iload 4 dX8_advise_27 rfl ?_
    refine x_aload_n 0 dX8_advise_29 rfl rfl ?_
    obtain ⟨g1, k2, n3⟩ := wt_X8_8 hw kk0
    refine x_getr dX8_advise_30 vc_X8 xin8 fb_X8_8 fl_X8_17 xr_X8_8 kk0 g1 ?_
    refine x_iconst (v := 1) dX8_advise_33 rfl ?_
    refine x_iald dX8_advise_34 k2 (xb_at n3 xbl_1_1784) xl_1 ?_
    rcases x_if h with ⟨c4, h⟩ | ⟨c4, h⟩
    · refine x_icmp_ge_t (tgt := 117) dX8_advise_35 (by decide) c4 ?_
      refine x_iload_n 2 dX8_advise_117 rfl rfl ?_
      obtain ⟨rfl, rfl⟩ := Prod.mk.inj (x_so h)
      exact x_iret dX8_advise_118 rfl rfl rfl
    · refine x_icmp_ge_f (tgt := 117) dX8_advise_35 (by decide) c4 ?_
      refine x_aload_n 0 dX8_advise_38 rfl rfl ?_
      refine x_iload 4 dX8_advise_39 rfl ?_
      refine x_iload_n 1 dX8_advise_41 rfl rfl ?_
      obtain ⟨r6, q5, h⟩ := x_bd1 h
      refine x_cv (b := p_0) (As := [.int v_4, .int v_1]) (ci := 8) (d' := 3) (zz := yX8_mayLease) dX8_advise_42 ml_X8_314 wi_X8_mayLease wv_X8_mayLease wn_X8 wc_X8_mayLease hp_X8_mayLease (by decide) (by decide) rfl (Nat.le_of_ble_eq_true rfl) ⟨Nat.zero_le _, Nat.zero_le _⟩ rfl kk0 (T_X8_mayLease (G := G) hw kk0 q5) ?_
      rcases x_if h with ⟨c7, h⟩ | ⟨c7, h⟩
      · refine x_if_ne_f (tgt := 51) dX8_advise_45 (by decide) c7 ?_
        refine x_goto (tgt := 111) dX8_advise_48 (by decide) ?_
        refine x_iinc (L' := [(0, .ref p_0), (1, .int v_1), (2, .int v_2), (3, .int v_3), (4, .int (v_4 + 1))]) 4 [1, 2, 3, 4, 0] dX8_advise_111 rfl rfl (by decide) rfl ?_
        refine x_goto (tgt := 27) dX8_advise_114 (by decide) ?_
        exact ih p_0 v_1 v_2 v_3 (v_4 + 1) N kk0 h
      · refine x_if_ne_t (tgt := 51) dX8_advise_45 (by decide) c7 ?_
        refine x_aload_n 0 dX8_advise_51 rfl rfl ?_
        refine x_getr dX8_advise_52 vc_X8 xin8 fb_X8_8 fl_X8_17 xr_X8_8 kk0 g1 ?_
        refine x_aload_n 0 dX8_advise_55 rfl rfl ?_
        obtain ⟨g8, k9, n10⟩ := wt_X8_10 hw kk0
        refine x_getr dX8_advise_56 vc_X8 xin8 fb_X8_10 fl_X8_23 xr_X8_10 kk0 g8 ?_
        refine x_sipush (v := 584) dX8_advise_59 rfl ?_
        obtain ⟨N12, q11, h⟩ := x_bd1 h
        refine x_cs (As := [.ref (gp Y p_0 8), .ref (gp Y p_0 10), .int 584]) (d' := 1) (zz := yX8_copy) dX8_advise_62 ml_X8_193 wt_X8_copy wn_X8 wc_X8_copy hp_X8_copy (by decide) (by decide) rfl (Nat.le_of_ble_eq_true rfl) ⟨Nat.zero_le _, Nat.zero_le _⟩ (T_X8_copy (G := G) hw k2 k9 q11) ?_
        refine x_aload_n 0 dX8_advise_65 rfl rfl ?_
        refine x_iload 4 dX8_advise_66 rfl ?_
        refine x_iload_n 1 dX8_advise_68 rfl rfl ?_
        obtain ⟨r14, N15, q13, h⟩ := x_bd2 h
        refine x_cv (b := p_0) (As := [.int v_4, .int v_1]) (ci := 8) (d' := 7) (zz := yX8_leaseNow) dX8_advise_69 ml_X8_317 wi_X8_leaseNow wv_X8_leaseNow wn_X8 wc_X8_leaseNow hp_X8_leaseNow (by decide) (by decide) rfl (Nat.le_of_ble_eq_true rfl) ⟨Nat.zero_le _, Nat.zero_le _⟩ rfl kk0 (T_X8_leaseNow (G := G) hw kk0 q13) ?_
        refine x_istore (L' := [(0, .ref p_0), (1, .int v_1), (2, .int v_2), (3, .int v_3), (4, .int v_4)]) [1, 2, 3, 4, 5] dX8_advise_72 (by decide) rfl ?_
        refine x_aload_n 0 dX8_advise_74 rfl rfl ?_
        refine x_bipush (v := 100) dX8_advise_75 rfl ?_
        obtain ⟨r17, N18, q16, h⟩ := x_bd2 h
        refine x_cv (b := p_0) (As := [.int 100]) (ci := 8) (d' := 10) (zz := yX8_finesWithin) dX8_advise_77 ml_X8_311 wi_X8_finesWithin wv_X8_finesWithin wn_X8 wc_X8_finesWithin hp_X8_finesWithin (by decide) (by decide) rfl (Nat.le_of_ble_eq_true rfl) ⟨Nat.zero_le _, Nat.zero_le _⟩ rfl kk0 (T_X8_finesWithin (G := G) hw kk0 q16) ?_
        refine x_istore (L' := [(0, .ref p_0), (1, .int v_1), (2, .int v_2), (3, .int v_3), (4, .int v_4), (6, .int r17)]) [1, 2, 3, 4, 5, 0] dX8_advise_80 (by decide) rfl ?_
        refine x_aload_n 0 dX8_advise_82 rfl rfl ?_
        refine x_getr dX8_advise_83 vc_X8 xin8 fb_X8_10 fl_X8_23 xr_X8_10 kk0 g8 ?_
        refine x_aload_n 0 dX8_advise_86 rfl rfl ?_
        refine x_getr dX8_advise_87 vc_X8 xin8 fb_X8_8 fl_X8_17 xr_X8_8 kk0 g1 ?_
        refine x_sipush (v := 584) dX8_advise_90 rfl ?_
        obtain ⟨N20, q19, h⟩ := x_bd1 h
        refine x_cs (As := [.ref (gp Y p_0 10), .ref (gp Y p_0 8), .int 584]) (d' := 1) (zz := yX8_copy) dX8_advise_93 ml_X8_193 wt_X8_copy wn_X8 wc_X8_copy hp_X8_copy (by decide) (by decide) rfl (Nat.le_of_ble_eq_true rfl) ⟨Nat.zero_le _, Nat.zero_le _⟩ (T_X8_copy (G := G) hw k9 k2 q19) ?_
        refine x_iload 5 dX8_advise_96 rfl ?_
        refine x_iload_n 3 dX8_advise_98 rfl rfl ?_
        rcases x_if h with ⟨c21, h⟩ | ⟨c21, h⟩
        · refine x_icmp_lt_t (tgt := 105) dX8_advise_99 (by decide) c21 ?_
          refine x_iload 4 dX8_advise_105 rfl ?_
          refine x_istore_n (L' := [(0, .ref p_0), (1, .int v_1), (2, .int v_4), (4, .int v_4), (6, .int r17)]) [1, 2, 0, 4, 5] dX8_advise_107 rfl (by decide) rfl ?_
          refine x_iload 4 dX8_advise_108 rfl ?_
          refine x_istore_n (L' := [(0, .ref p_0), (1, .int v_1), (2, .int v_4), (3, .int r17), (4, .int v_4)]) [1, 2, 3, 0, 4] dX8_advise_110 rfl (by decide) rfl ?_
          refine x_iinc (L' := [(0, .ref p_0), (1, .int v_1), (2, .int v_4), (3, .int r17), (4, .int (v_4 + 1))]) 4 [1, 2, 3, 4, 0] dX8_advise_111 rfl rfl (by decide) rfl ?_
          refine x_goto (tgt := 27) dX8_advise_114 (by decide) ?_
          exact ih p_0 v_1 v_4 r17 (v_4 + 1) N20 kk0 h
        · refine x_icmp_lt_f (tgt := 105) dX8_advise_99 (by decide) c21 ?_
          refine x_goto (tgt := 111) dX8_advise_102 (by decide) ?_
          refine x_iinc (L' := [(0, .ref p_0), (1, .int v_1), (2, .int v_2), (3, .int v_3), (4, .int (v_4 + 1))]) 4 [1, 2, 3, 4, 0] dX8_advise_111 rfl rfl (by decide) rfl ?_
          refine x_goto (tgt := 27) dX8_advise_114 (by decide) ?_
          exact ih p_0 v_1 v_2 v_3 (v_4 + 1) N20 kk0 h
set_option maxHeartbeats 4000000 in
set_option maxRecDepth 100000 in
theorem T_X8_advise {G : XG} {Y : XY} (hw : WT Y) {a0 : Nat} {a1 : Int32} {N : XN} (k100 : kc Y a0 = 18) {r9 : Int32} {N9 : XN} (h : f_X8_advise Y a0 a1 N = some (r9, N9)) : Cl G yX8_advise cX8_advise 7 (some .int) (xR 11 0 0) [.ref a0, .int a1] (.inl (some (.int r9))) Y N Y N9 := by
  refine x_entry (by decide) (Nat.le_of_ble_eq_true rfl) rfl ?_
  rw [f_X8_advise] at h
  refine x_aload_n 0 dX8_advise_0 rfl rfl ?_
  refine x_iconst (v := 0) dX8_advise_1 rfl ?_
  refine x_puti dX8_advise_2 vc_X8 xin8 tyX8_ok nmX8 fb_X8_0 fl_X8_45 ff_X8_0 xr_X8_0 (nf_X8_0 _) (ft_X8_0 _) k100 ?_
  obtain ⟨N1, eN1, h⟩ := x_lt h
  refine x_nmN eN1 ?_
  refine x_aload_n 0 dX8_advise_5 rfl rfl ?_
  refine x_iload_n 1 dX8_advise_6 rfl rfl ?_
  obtain ⟨r3, N4, q2, h⟩ := x_bd2 h
  refine x_cv (b := a0) (As := [.int a1]) (ci := 8) (d' := 2) (zz := yX8_noLine) dX8_advise_7 ml_X8_296 wi_X8_noLine wv_X8_noLine wn_X8 wc_X8_noLine hp_X8_noLine (by decide) (by decide) rfl (Nat.le_of_ble_eq_true rfl) ⟨Nat.zero_le _, Nat.zero_le _⟩ rfl k100 (T_X8_noLine (G := G) hw k100 q2) ?_
  rcases x_if h with ⟨c5, h⟩ | ⟨c5, h⟩
  · refine x_if_eq_t (tgt := 15) dX8_advise_10 (by decide) c5 ?_
    refine x_iconst (v := (-1)) dX8_advise_15 rfl ?_
    refine x_istore_n (L' := [(0, .ref a0), (1, .int a1), (2, .int (-1))]) [1, 2, 0] dX8_advise_16 rfl (by decide) rfl ?_
    refine x_aload_n 0 dX8_advise_17 rfl rfl ?_
    refine x_bipush (v := 100) dX8_advise_18 rfl ?_
    obtain ⟨r7, N8, q6, h⟩ := x_bd2 h
    refine x_cv (b := a0) (As := [.int 100]) (ci := 8) (d' := 10) (zz := yX8_finesWithin) dX8_advise_20 ml_X8_311 wi_X8_finesWithin wv_X8_finesWithin wn_X8 wc_X8_finesWithin hp_X8_finesWithin (by decide) (by decide) rfl (Nat.le_of_ble_eq_true rfl) ⟨Nat.zero_le _, Nat.zero_le _⟩ rfl k100 (T_X8_finesWithin (G := G) hw k100 q6) ?_
    refine x_istore_n (L' := [(0, .ref a0), (1, .int a1), (2, .int (-1)), (3, .int r7)]) [1, 2, 3, 0] dX8_advise_23 rfl (by decide) rfl ?_
    refine x_iconst (v := 0) dX8_advise_24 rfl ?_
    refine x_istore (L' := [(0, .ref a0), (1, .int a1), (2, .int (-1)), (3, .int r7), (4, .int 0)]) [1, 2, 3, 4, 0] dX8_advise_25 (by decide) rfl ?_
    exact T_X8_advise_27 (G := G) hw FU a0 a1 (-1) r7 0 N8 k100 h
  · refine x_if_eq_f (tgt := 15) dX8_advise_10 (by decide) c5 ?_
    refine x_iconst (v := 0) dX8_advise_13 rfl ?_
    obtain ⟨rfl, rfl⟩ := Prod.mk.inj (x_so h)
    exact x_iret dX8_advise_14 rfl rfl rfl
set_option maxHeartbeats 4000000 in
set_option maxRecDepth 100000 in
theorem T_X8_remember_11 {G : XG} {Y : XY} (hw : WT Y) {N9 : XN}: ∀ (D9 : Nat) (p_0 : Nat) (v_1 : Int32) (N : XN), kc Y p_0 = 18 → f_X8_remember_11 Y D9 p_0 v_1 N = some N9 → Ex G yX8_remember cX8_remember 2 none (xR 2 0 0) (.inl none) Y N9 0 0 11 [(0, .ref p_0), (1, .int v_1)] [] Y N := by
  intro D9
  induction D9 with
  | zero => intro p_0 v_1 N kk0 h; exact nomatch (show none = some _ from h)
  | succ D9 ih =>
    intro p_0 v_1 N kk0 h
    rw [f_X8_remember_11] at h
    refine x_iload_n 1 dX8_remember_11 rfl rfl ?_
    refine x_bipush (v := 8) dX8_remember_12 rfl ?_
    rcases x_if h with ⟨c1, h⟩ | ⟨c1, h⟩
    · refine x_icmp_ge_t (tgt := 43) dX8_remember_14 (by decide) c1 ?_
      refine x_aload_n 0 dX8_remember_43 rfl rfl ?_
      refine x_dup dX8_remember_44 rfl ?_
      refine x_geti dX8_remember_45 vc_X8 xin8 fb_X8_13 fl_X8_320 xr_X8_13 kk0 ?_
      refine x_iconst (v := 1) dX8_remember_48 rfl ?_
      refine x_isub dX8_remember_49 ?_
      refine x_puti dX8_remember_50 vc_X8 xin8 tyX8_ok nmX8 fb_X8_13 fl_X8_320 ff_X8_13 xr_X8_13 (nf_X8_13 _) (ft_X8_13 _) kk0 ?_
      obtain ⟨N2, eN2, h⟩ := x_lt h
      refine x_nmN eN2 ?_
      refine x_aload_n 0 dX8_remember_53 rfl rfl ?_
      obtain ⟨g3, k4, n5⟩ := wt_X8_8 hw kk0
      refine x_getr dX8_remember_54 vc_X8 xin8 fb_X8_8 fl_X8_17 xr_X8_8 kk0 g3 ?_
      refine x_aload_n 0 dX8_remember_57 rfl rfl ?_
      obtain ⟨g6, k7, n8⟩ := wt_X8_12 hw kk0
      refine x_getr dX8_remember_58 vc_X8 xin8 fb_X8_12 fl_X8_31 xr_X8_12 kk0 g6 ?_
      refine x_aload_n 0 dX8_remember_61 rfl rfl ?_
      refine x_geti dX8_remember_62 vc_X8 xin8 fb_X8_13 fl_X8_320 xr_X8_13 kk0 ?_
      obtain ⟨c9, h⟩ := x_ck h
      obtain ⟨g10, k11, n12⟩ := wt_8 hw k7 (xb_at n8 c9)
      refine x_aald (j := 4) dX8_remember_65 (by decide) k7 (xb_at n8 c9) g10 ?_
      refine x_sipush (v := 1784) dX8_remember_66 rfl ?_
      obtain ⟨N14, q13, h⟩ := x_bd1 h
      refine x_cs (As := [.ref (gp Y p_0 8), .ref (gp Y (gp Y p_0 12) (gi N2 p_0 13).toNatClampNeg), .int 1784]) (d' := 1) (zz := yX8_copy) dX8_remember_69 ml_X8_193 wt_X8_copy wn_X8 wc_X8_copy hp_X8_copy (by decide) (by decide) rfl (Nat.le_of_ble_eq_true rfl) ⟨Nat.zero_le _, Nat.zero_le _⟩ (T_X8_copy (G := G) hw k4 k11 q13) ?_
      refine x_aload_n 0 dX8_remember_72 rfl rfl ?_
      refine x_dup dX8_remember_73 rfl ?_
      refine x_geti dX8_remember_74 vc_X8 xin8 fb_X8_13 fl_X8_320 xr_X8_13 kk0 ?_
      refine x_iconst (v := 1) dX8_remember_77 rfl ?_
      refine x_iadd dX8_remember_78 ?_
      refine x_puti dX8_remember_79 vc_X8 xin8 tyX8_ok nmX8 fb_X8_13 fl_X8_320 ff_X8_13 xr_X8_13 (nf_X8_13 _) (ft_X8_13 _) kk0 ?_
      obtain ⟨N15, eN15, h⟩ := x_lt h
      refine x_nmN eN15 ?_
      obtain rfl := x_so h
      exact x_vret dX8_remember_82 rfl rfl rfl
    · refine x_icmp_ge_f (tgt := 43) dX8_remember_14 (by decide) c1 ?_
      refine x_aload_n 0 dX8_remember_17 rfl rfl ?_
      obtain ⟨g16, k17, n18⟩ := wt_X8_12 hw kk0
      refine x_getr dX8_remember_18 vc_X8 xin8 fb_X8_12 fl_X8_31 xr_X8_12 kk0 g16 ?_
      refine x_iload_n 1 dX8_remember_21 rfl rfl ?_
      obtain ⟨c19, h⟩ := x_ck h
      obtain ⟨g20, k21, n22⟩ := wt_8 hw k17 (xb_at n18 c19)
      refine x_aald (j := 4) dX8_remember_22 (by decide) k17 (xb_at n18 c19) g20 ?_
      refine x_aload_n 0 dX8_remember_23 rfl rfl ?_
      refine x_getr dX8_remember_24 vc_X8 xin8 fb_X8_12 fl_X8_31 xr_X8_12 kk0 g16 ?_
      refine x_iload_n 1 dX8_remember_27 rfl rfl ?_
      refine x_iconst (v := 1) dX8_remember_28 rfl ?_
      refine x_isub dX8_remember_29 ?_
      obtain ⟨c23, h⟩ := x_ck h
      obtain ⟨g24, k25, n26⟩ := wt_8 hw k17 (xb_at n18 c23)
      refine x_aald (j := 4) dX8_remember_30 (by decide) k17 (xb_at n18 c23) g24 ?_
      refine x_sipush (v := 1784) dX8_remember_31 rfl ?_
      obtain ⟨N28, q27, h⟩ := x_bd1 h
      refine x_cs (As := [.ref (gp Y (gp Y p_0 12) v_1.toNatClampNeg), .ref (gp Y (gp Y p_0 12) (v_1 - 1).toNatClampNeg), .int 1784]) (d' := 1) (zz := yX8_copy) dX8_remember_34 ml_X8_193 wt_X8_copy wn_X8 wc_X8_copy hp_X8_copy (by decide) (by decide) rfl (Nat.le_of_ble_eq_true rfl) ⟨Nat.zero_le _, Nat.zero_le _⟩ (T_X8_copy (G := G) hw k21 k25 q27) ?_
      refine x_iinc (L' := [(0, .ref p_0), (1, .int (v_1 + 1))]) 1 [1, 0] dX8_remember_37 rfl rfl (by decide) rfl ?_
      refine x_goto (tgt := 11) dX8_remember_40 (by decide) ?_
      exact ih p_0 (v_1 + 1) N28 kk0 h
set_option maxHeartbeats 4000000 in
set_option maxRecDepth 100000 in
theorem T_X8_remember {G : XG} {Y : XY} (hw : WT Y) {a0 : Nat} {N : XN} (k100 : kc Y a0 = 18) {N9 : XN} (h : f_X8_remember Y a0 N = some N9) : Cl G yX8_remember cX8_remember 2 none (xR 2 0 0) [.ref a0] (.inl none) Y N Y N9 := by
  refine x_entry (by decide) (Nat.le_of_ble_eq_true rfl) rfl ?_
  rw [f_X8_remember] at h
  refine x_aload_n 0 dX8_remember_0 rfl rfl ?_
  refine x_geti dX8_remember_1 vc_X8 xin8 fb_X8_13 fl_X8_320 xr_X8_13 k100 ?_
  refine x_bipush (v := 8) dX8_remember_4 rfl ?_
  rcases x_if h with ⟨c1, h⟩ | ⟨c1, h⟩
  · refine x_icmp_ne_f (tgt := 53) dX8_remember_6 (by decide) c1 ?_
    refine x_iconst (v := 1) dX8_remember_9 rfl ?_
    refine x_istore_n (L' := [(0, .ref a0), (1, .int 1)]) [1, 0] dX8_remember_10 rfl (by decide) rfl ?_
    exact T_X8_remember_11 (G := G) hw FU a0 1 N k100 h
  · refine x_icmp_ne_t (tgt := 53) dX8_remember_6 (by decide) c1 ?_
    refine x_aload_n 0 dX8_remember_53 rfl rfl ?_
    obtain ⟨g2, k3, n4⟩ := wt_X8_8 hw k100
    refine x_getr dX8_remember_54 vc_X8 xin8 fb_X8_8 fl_X8_17 xr_X8_8 k100 g2 ?_
    refine x_aload_n 0 dX8_remember_57 rfl rfl ?_
    obtain ⟨g5, k6, n7⟩ := wt_X8_12 hw k100
    refine x_getr dX8_remember_58 vc_X8 xin8 fb_X8_12 fl_X8_31 xr_X8_12 k100 g5 ?_
    refine x_aload_n 0 dX8_remember_61 rfl rfl ?_
    refine x_geti dX8_remember_62 vc_X8 xin8 fb_X8_13 fl_X8_320 xr_X8_13 k100 ?_
    obtain ⟨c8, h⟩ := x_ck h
    obtain ⟨g9, k10, n11⟩ := wt_8 hw k6 (xb_at n7 c8)
    refine x_aald (j := 4) dX8_remember_65 (by decide) k6 (xb_at n7 c8) g9 ?_
    refine x_sipush (v := 1784) dX8_remember_66 rfl ?_
    obtain ⟨N13, q12, h⟩ := x_bd1 h
    refine x_cs (As := [.ref (gp Y a0 8), .ref (gp Y (gp Y a0 12) (gi N a0 13).toNatClampNeg), .int 1784]) (d' := 1) (zz := yX8_copy) dX8_remember_69 ml_X8_193 wt_X8_copy wn_X8 wc_X8_copy hp_X8_copy (by decide) (by decide) rfl (Nat.le_of_ble_eq_true rfl) ⟨Nat.zero_le _, Nat.zero_le _⟩ (T_X8_copy (G := G) hw k3 k10 q12) ?_
    refine x_aload_n 0 dX8_remember_72 rfl rfl ?_
    refine x_dup dX8_remember_73 rfl ?_
    refine x_geti dX8_remember_74 vc_X8 xin8 fb_X8_13 fl_X8_320 xr_X8_13 k100 ?_
    refine x_iconst (v := 1) dX8_remember_77 rfl ?_
    refine x_iadd dX8_remember_78 ?_
    refine x_puti dX8_remember_79 vc_X8 xin8 tyX8_ok nmX8 fb_X8_13 fl_X8_320 ff_X8_13 xr_X8_13 (nf_X8_13 _) (ft_X8_13 _) k100 ?_
    obtain ⟨N14, eN14, h⟩ := x_lt h
    refine x_nmN eN14 ?_
    obtain rfl := x_so h
    exact x_vret dX8_remember_82 rfl rfl rfl
set_option maxHeartbeats 4000000 in
set_option maxRecDepth 100000 in
theorem T_X8_pass_57 {G : XG} {Y : XY} (hw : WT Y) {r9 : Int32} {N9 : XN}: ∀ (D9 : Nat) (p_0 : Nat) (v_1 : Int32) (v_2 : Int32) (v_3 : Int32) (N : XN), kc Y p_0 = 18 → f_X8_pass_57 Y D9 p_0 v_1 v_2 v_3 N = some (r9, N9) → Ex G yX8_pass cX8_pass 4 (some .int) (xR 10 0 0) (.inl (some (.int r9))) Y N9 0 0 57 [(0, .ref p_0), (1, .int v_1), (2, .int v_2), (3, .int v_3)] [] Y N := by
  intro D9
  induction D9 with
  | zero => intro p_0 v_1 v_2 v_3 N kk0 h; exact nomatch (show none = some _ from h)
  | succ D9 ih =>
    intro p_0 v_1 v_2 v_3 N kk0 h
    rw [f_X8_pass_57] at h
    refine x_iload_n 3 dX8_pass_57 rfl rfl ?_
    refine x_iload_n 1 dX8_pass_58 rfl rfl ?_
    rcases x_if h with ⟨c1, h⟩ | ⟨c1, h⟩
    · refine x_icmp_ge_t (tgt := 72) dX8_pass_59 (by decide) c1 ?_
      refine x_aload_n 0 dX8_pass_72 rfl rfl ?_
      refine x_iconst (v := 2) dX8_pass_73 rfl ?_
      obtain ⟨r3, q2, h⟩ := x_bd1 h
      refine x_cv (b := p_0) (As := [.int 2]) (ci := 8) (d' := 3) (zz := yX8_countOf) dX8_pass_74 ml_X8_272 wi_X8_countOf wv_X8_countOf wn_X8 wc_X8_countOf hp_X8_countOf (by decide) (by decide) rfl (Nat.le_of_ble_eq_true rfl) ⟨Nat.zero_le _, Nat.zero_le _⟩ rfl kk0 (T_X8_countOf (G := G) hw kk0 q2) ?_
      refine x_iload_n 2 dX8_pass_77 rfl rfl ?_
      refine x_isub dX8_pass_78 ?_
      obtain ⟨rfl, rfl⟩ := Prod.mk.inj (x_so h)
      exact x_iret dX8_pass_79 rfl rfl rfl
    · refine x_icmp_ge_f (tgt := 72) dX8_pass_59 (by decide) c1 ?_
      refine x_aload_n 0 dX8_pass_62 rfl rfl ?_
      obtain ⟨N5, q4, h⟩ := x_bd1 h
      refine x_cv (b := p_0) (As := []) (ci := 8) (d' := 9) (zz := yX8_tick) dX8_pass_63 ml_X8_305 wi_X8_tick wv_X8_tick wn_X8 wc_X8_tick hp_X8_tick (by decide) (by decide) rfl (Nat.le_of_ble_eq_true rfl) ⟨Nat.zero_le _, Nat.zero_le _⟩ rfl kk0 (T_X8_tick (G := G) hw kk0 q4) ?_
      refine x_iinc (L' := [(0, .ref p_0), (1, .int v_1), (2, .int v_2), (3, .int (v_3 + 1))]) 3 [1, 2, 3, 0] dX8_pass_66 rfl rfl (by decide) rfl ?_
      refine x_goto (tgt := 57) dX8_pass_69 (by decide) ?_
      exact ih p_0 v_1 v_2 (v_3 + 1) N5 kk0 h
set_option maxHeartbeats 4000000 in
set_option maxRecDepth 100000 in
theorem T_X8_pass {G : XG} {Y : XY} (hw : WT Y) {a0 : Nat} {a1 : Int32} {N : XN} (k100 : kc Y a0 = 18) {r9 : Int32} {N9 : XN} (h : f_X8_pass Y a0 a1 N = some (r9, N9)) : Cl G yX8_pass cX8_pass 4 (some .int) (xR 10 0 0) [.ref a0, .int a1] (.inl (some (.int r9))) Y N Y N9 := by
  refine x_entry (by decide) (Nat.le_of_ble_eq_true rfl) rfl ?_
  rw [f_X8_pass] at h
  refine x_aload_n 0 dX8_pass_0 rfl rfl ?_
  refine x_iconst (v := 0) dX8_pass_1 rfl ?_
  refine x_puti dX8_pass_2 vc_X8 xin8 tyX8_ok nmX8 fb_X8_0 fl_X8_45 ff_X8_0 xr_X8_0 (nf_X8_0 _) (ft_X8_0 _) k100 ?_
  obtain ⟨N1, eN1, h⟩ := x_lt h
  refine x_nmN eN1 ?_
  refine x_aload_n 0 dX8_pass_5 rfl rfl ?_
  refine x_iload_n 1 dX8_pass_6 rfl rfl ?_
  refine x_iconst (v := 1) dX8_pass_7 rfl ?_
  refine x_sipush (v := 200) dX8_pass_8 rfl ?_
  refine x_cs (As := [.int a1, .int 1, .int 200]) (d' := 1) (zz := yX8_in) dX8_pass_11 ml_X8_67 wt_X8_in wn_X8 wc_X8_in hp_X8_in (by decide) (by decide) rfl (Nat.le_of_ble_eq_true rfl) ⟨Nat.zero_le _, Nat.zero_le _⟩ (T_X8_in (G := G) hw  rfl) ?_
  rcases x_if h with ⟨c2, h⟩ | ⟨c2, h⟩
  · refine x_if_eq_t (tgt := 31) dX8_pass_14 (by decide) c2 ?_
    refine x_iconst (v := 1) dX8_pass_31 rfl ?_
    refine x_goto (tgt := 36) dX8_pass_32 (by decide) ?_
    refine x_iconst (v := 1) dX8_pass_36 rfl ?_
    obtain ⟨r4, N5, q3, h⟩ := x_bd2 h
    refine x_cv (b := a0) (As := [.int 1, .int 1]) (ci := 8) (d' := 1) (zz := yX8_fails) dX8_pass_37 ml_X8_181 wi_X8_fails wv_X8_fails wn_X8 wc_X8_fails hp_X8_fails (by decide) (by decide) rfl (Nat.le_of_ble_eq_true rfl) ⟨Nat.zero_le _, Nat.zero_le _⟩ rfl k100 (T_X8_fails (G := G) hw k100 q3) ?_
    rcases x_if h with ⟨c6, h⟩ | ⟨c6, h⟩
    · refine x_if_eq_t (tgt := 45) dX8_pass_40 (by decide) c6 ?_
      refine x_aload_n 0 dX8_pass_45 rfl rfl ?_
      obtain ⟨N8, q7, h⟩ := x_bd1 h
      refine x_cv (b := a0) (As := []) (ci := 8) (d' := 2) (zz := yX8_remember) dX8_pass_46 ml_X8_190 wi_X8_remember wv_X8_remember wn_X8 wc_X8_remember hp_X8_remember (by decide) (by decide) rfl (Nat.le_of_ble_eq_true rfl) ⟨Nat.zero_le _, Nat.zero_le _⟩ rfl k100 (T_X8_remember (G := G) hw k100 q7) ?_
      refine x_aload_n 0 dX8_pass_49 rfl rfl ?_
      refine x_iconst (v := 2) dX8_pass_50 rfl ?_
      obtain ⟨r10, q9, h⟩ := x_bd1 h
      refine x_cv (b := a0) (As := [.int 2]) (ci := 8) (d' := 3) (zz := yX8_countOf) dX8_pass_51 ml_X8_272 wi_X8_countOf wv_X8_countOf wn_X8 wc_X8_countOf hp_X8_countOf (by decide) (by decide) rfl (Nat.le_of_ble_eq_true rfl) ⟨Nat.zero_le _, Nat.zero_le _⟩ rfl k100 (T_X8_countOf (G := G) hw k100 q9) ?_
      refine x_istore_n (L' := [(0, .ref a0), (1, .int a1), (2, .int r10)]) [1, 2, 0] dX8_pass_54 rfl (by decide) rfl ?_
      refine x_iconst (v := 0) dX8_pass_55 rfl ?_
      refine x_istore_n (L' := [(0, .ref a0), (1, .int a1), (2, .int r10), (3, .int 0)]) [1, 2, 3, 0] dX8_pass_56 rfl (by decide) rfl ?_
      exact T_X8_pass_57 (G := G) hw FU a0 a1 r10 0 N8 k100 h
    · refine x_if_eq_f (tgt := 45) dX8_pass_40 (by decide) c6 ?_
      refine x_iconst (v := 0) dX8_pass_43 rfl ?_
      obtain ⟨rfl, rfl⟩ := Prod.mk.inj (x_so h)
      exact x_iret dX8_pass_44 rfl rfl rfl
  · refine x_if_eq_f (tgt := 31) dX8_pass_14 (by decide) c2 ?_
    refine x_aload_n 0 dX8_pass_17 rfl rfl ?_
    obtain ⟨g11, k12, n13⟩ := wt_X8_8 hw k100
    refine x_getr dX8_pass_18 vc_X8 xin8 fb_X8_8 fl_X8_17 xr_X8_8 k100 g11 ?_
    refine x_iconst (v := 0) dX8_pass_21 rfl ?_
    refine x_iald dX8_pass_22 k12 (xb_at n13 xbl_0_1784) xl_0 ?_
    refine x_iload_n 1 dX8_pass_23 rfl rfl ?_
    refine x_iadd dX8_pass_24 ?_
    refine x_sipush (v := 9999) dX8_pass_25 rfl ?_
    rcases x_if h with ⟨c14, h⟩ | ⟨c14, h⟩
    · refine x_icmp_le_t (tgt := 35) dX8_pass_28 (by decide) c14 ?_
      refine x_iconst (v := 0) dX8_pass_35 rfl ?_
      refine x_iconst (v := 1) dX8_pass_36 rfl ?_
      obtain ⟨r16, N17, q15, h⟩ := x_bd2 h
      refine x_cv (b := a0) (As := [.int 0, .int 1]) (ci := 8) (d' := 1) (zz := yX8_fails) dX8_pass_37 ml_X8_181 wi_X8_fails wv_X8_fails wn_X8 wc_X8_fails hp_X8_fails (by decide) (by decide) rfl (Nat.le_of_ble_eq_true rfl) ⟨Nat.zero_le _, Nat.zero_le _⟩ rfl k100 (T_X8_fails (G := G) hw k100 q15) ?_
      rcases x_if h with ⟨c18, h⟩ | ⟨c18, h⟩
      · refine x_if_eq_t (tgt := 45) dX8_pass_40 (by decide) c18 ?_
        refine x_aload_n 0 dX8_pass_45 rfl rfl ?_
        obtain ⟨N20, q19, h⟩ := x_bd1 h
        refine x_cv (b := a0) (As := []) (ci := 8) (d' := 2) (zz := yX8_remember) dX8_pass_46 ml_X8_190 wi_X8_remember wv_X8_remember wn_X8 wc_X8_remember hp_X8_remember (by decide) (by decide) rfl (Nat.le_of_ble_eq_true rfl) ⟨Nat.zero_le _, Nat.zero_le _⟩ rfl k100 (T_X8_remember (G := G) hw k100 q19) ?_
        refine x_aload_n 0 dX8_pass_49 rfl rfl ?_
        refine x_iconst (v := 2) dX8_pass_50 rfl ?_
        obtain ⟨r22, q21, h⟩ := x_bd1 h
        refine x_cv (b := a0) (As := [.int 2]) (ci := 8) (d' := 3) (zz := yX8_countOf) dX8_pass_51 ml_X8_272 wi_X8_countOf wv_X8_countOf wn_X8 wc_X8_countOf hp_X8_countOf (by decide) (by decide) rfl (Nat.le_of_ble_eq_true rfl) ⟨Nat.zero_le _, Nat.zero_le _⟩ rfl k100 (T_X8_countOf (G := G) hw k100 q21) ?_
        refine x_istore_n (L' := [(0, .ref a0), (1, .int a1), (2, .int r22)]) [1, 2, 0] dX8_pass_54 rfl (by decide) rfl ?_
        refine x_iconst (v := 0) dX8_pass_55 rfl ?_
        refine x_istore_n (L' := [(0, .ref a0), (1, .int a1), (2, .int r22), (3, .int 0)]) [1, 2, 3, 0] dX8_pass_56 rfl (by decide) rfl ?_
        exact T_X8_pass_57 (G := G) hw FU a0 a1 r22 0 N20 k100 h
      · refine x_if_eq_f (tgt := 45) dX8_pass_40 (by decide) c18 ?_
        refine x_iconst (v := 0) dX8_pass_43 rfl ?_
        obtain ⟨rfl, rfl⟩ := Prod.mk.inj (x_so h)
        exact x_iret dX8_pass_44 rfl rfl rfl
    · refine x_icmp_le_f (tgt := 35) dX8_pass_28 (by decide) c14 ?_
      refine x_iconst (v := 1) dX8_pass_31 rfl ?_
      refine x_goto (tgt := 36) dX8_pass_32 (by decide) ?_
      refine x_iconst (v := 1) dX8_pass_36 rfl ?_
      obtain ⟨r24, N25, q23, h⟩ := x_bd2 h
      refine x_cv (b := a0) (As := [.int 1, .int 1]) (ci := 8) (d' := 1) (zz := yX8_fails) dX8_pass_37 ml_X8_181 wi_X8_fails wv_X8_fails wn_X8 wc_X8_fails hp_X8_fails (by decide) (by decide) rfl (Nat.le_of_ble_eq_true rfl) ⟨Nat.zero_le _, Nat.zero_le _⟩ rfl k100 (T_X8_fails (G := G) hw k100 q23) ?_
      rcases x_if h with ⟨c26, h⟩ | ⟨c26, h⟩
      · refine x_if_eq_t (tgt := 45) dX8_pass_40 (by decide) c26 ?_
        refine x_aload_n 0 dX8_pass_45 rfl rfl ?_
        obtain ⟨N28, q27, h⟩ := x_bd1 h
        refine x_cv (b := a0) (As := []) (ci := 8) (d' := 2) (zz := yX8_remember) dX8_pass_46 ml_X8_190 wi_X8_remember wv_X8_remember wn_X8 wc_X8_remember hp_X8_remember (by decide) (by decide) rfl (Nat.le_of_ble_eq_true rfl) ⟨Nat.zero_le _, Nat.zero_le _⟩ rfl k100 (T_X8_remember (G := G) hw k100 q27) ?_
        refine x_aload_n 0 dX8_pass_49 rfl rfl ?_
        refine x_iconst (v := 2) dX8_pass_50 rfl ?_
        obtain ⟨r30, q29, h⟩ := x_bd1 h
        refine x_cv (b := a0) (As := [.int 2]) (ci := 8) (d' := 3) (zz := yX8_countOf) dX8_pass_51 ml_X8_272 wi_X8_countOf wv_X8_countOf wn_X8 wc_X8_countOf hp_X8_countOf (by decide) (by decide) rfl (Nat.le_of_ble_eq_true rfl) ⟨Nat.zero_le _, Nat.zero_le _⟩ rfl k100 (T_X8_countOf (G := G) hw k100 q29) ?_
        refine x_istore_n (L' := [(0, .ref a0), (1, .int a1), (2, .int r30)]) [1, 2, 0] dX8_pass_54 rfl (by decide) rfl ?_
        refine x_iconst (v := 0) dX8_pass_55 rfl ?_
        refine x_istore_n (L' := [(0, .ref a0), (1, .int a1), (2, .int r30), (3, .int 0)]) [1, 2, 3, 0] dX8_pass_56 rfl (by decide) rfl ?_
        exact T_X8_pass_57 (G := G) hw FU a0 a1 r30 0 N28 k100 h
      · refine x_if_eq_f (tgt := 45) dX8_pass_40 (by decide) c26 ?_
        refine x_iconst (v := 0) dX8_pass_43 rfl ?_
        obtain ⟨rfl, rfl⟩ := Prod.mk.inj (x_so h)
        exact x_iret dX8_pass_44 rfl rfl rfl
set_option maxHeartbeats 4000000 in
set_option maxRecDepth 100000 in
theorem T_X8_raise {G : XG} {Y : XY} (hw : WT Y) {a0 : Nat} {a1 : Int32} {a2 : Int32} {N : XN} (k100 : kc Y a0 = 18) {r9 : Int32} {N9 : XN} (h : f_X8_raise Y a0 a1 a2 N = some (r9, N9)) : Cl G yX8_raise cX8_raise 3 (some .int) (xR 8 0 0) [.ref a0, .int a1, .int a2] (.inl (some (.int r9))) Y N Y N9 := by
  refine x_entry (by decide) (Nat.le_of_ble_eq_true rfl) rfl ?_
  rw [f_X8_raise] at h
  refine x_aload_n 0 dX8_raise_0 rfl rfl ?_
  refine x_iconst (v := 0) dX8_raise_1 rfl ?_
  refine x_puti dX8_raise_2 vc_X8 xin8 tyX8_ok nmX8 fb_X8_0 fl_X8_45 ff_X8_0 xr_X8_0 (nf_X8_0 _) (ft_X8_0 _) k100 ?_
  obtain ⟨N1, eN1, h⟩ := x_lt h
  refine x_nmN eN1 ?_
  refine x_aload_n 0 dX8_raise_5 rfl rfl ?_
  refine x_iload_n 1 dX8_raise_6 rfl rfl ?_
  obtain ⟨r3, N4, q2, h⟩ := x_bd2 h
  refine x_cv (b := a0) (As := [.int a1]) (ci := 8) (d' := 2) (zz := yX8_noLine) dX8_raise_7 ml_X8_296 wi_X8_noLine wv_X8_noLine wn_X8 wc_X8_noLine hp_X8_noLine (by decide) (by decide) rfl (Nat.le_of_ble_eq_true rfl) ⟨Nat.zero_le _, Nat.zero_le _⟩ rfl k100 (T_X8_noLine (G := G) hw k100 q2) ?_
  rcases x_if h with ⟨c5, h⟩ | ⟨c5, h⟩
  · refine x_if_ne_f (tgt := 48) dX8_raise_10 (by decide) c5 ?_
    refine x_aload_n 0 dX8_raise_13 rfl rfl ?_
    refine x_iload_n 2 dX8_raise_14 rfl rfl ?_
    refine x_iconst (v := 1) dX8_raise_15 rfl ?_
    refine x_bipush (v := 99) dX8_raise_16 rfl ?_
    obtain ⟨r7, N8, q6, h⟩ := x_bd2 h
    refine x_cv (b := a0) (As := [.int a2, .int 1, .int 99]) (ci := 8) (d' := 2) (zz := yX8_noNumber) dX8_raise_18 ml_X8_290 wi_X8_noNumber wv_X8_noNumber wn_X8 wc_X8_noNumber hp_X8_noNumber (by decide) (by decide) rfl (Nat.le_of_ble_eq_true rfl) ⟨Nat.zero_le _, Nat.zero_le _⟩ rfl k100 (T_X8_noNumber (G := G) hw k100 q6) ?_
    rcases x_if h with ⟨c9, h⟩ | ⟨c9, h⟩
    · refine x_if_ne_f (tgt := 48) dX8_raise_21 (by decide) c9 ?_
      refine x_aload_n 0 dX8_raise_24 rfl rfl ?_
      refine x_aload_n 0 dX8_raise_25 rfl rfl ?_
      obtain ⟨g10, k11, n12⟩ := wt_X8_8 hw k100
      refine x_getr dX8_raise_26 vc_X8 xin8 fb_X8_8 fl_X8_17 xr_X8_8 k100 g10 ?_
      refine x_iconst (v := 3) dX8_raise_29 rfl ?_
      refine x_iald dX8_raise_30 k11 (xb_at n12 xbl_3_1784) xl_3 ?_
      refine x_bipush (v := 60) dX8_raise_31 rfl ?_
      rcases x_if h with ⟨c13, h⟩ | ⟨c13, h⟩
      · refine x_icmp_ne_f (tgt := 40) dX8_raise_33 (by decide) c13 ?_
        refine x_iconst (v := 1) dX8_raise_36 rfl ?_
        refine x_goto (tgt := 41) dX8_raise_37 (by decide) ?_
        refine x_iconst (v := 3) dX8_raise_41 rfl ?_
        obtain ⟨r15, N16, q14, h⟩ := x_bd2 h
        refine x_cv (b := a0) (As := [.int 1, .int 3]) (ci := 8) (d' := 1) (zz := yX8_fails) dX8_raise_42 ml_X8_181 wi_X8_fails wv_X8_fails wn_X8 wc_X8_fails hp_X8_fails (by decide) (by decide) rfl (Nat.le_of_ble_eq_true rfl) ⟨Nat.zero_le _, Nat.zero_le _⟩ rfl k100 (T_X8_fails (G := G) hw k100 q14) ?_
        rcases x_if h with ⟨c17, h⟩ | ⟨c17, h⟩
        · refine x_if_eq_t (tgt := 50) dX8_raise_45 (by decide) c17 ?_
          refine x_aload_n 0 dX8_raise_50 rfl rfl ?_
          obtain ⟨N19, q18, h⟩ := x_bd1 h
          refine x_cv (b := a0) (As := []) (ci := 8) (d' := 2) (zz := yX8_remember) dX8_raise_51 ml_X8_190 wi_X8_remember wv_X8_remember wn_X8 wc_X8_remember hp_X8_remember (by decide) (by decide) rfl (Nat.le_of_ble_eq_true rfl) ⟨Nat.zero_le _, Nat.zero_le _⟩ rfl k100 (T_X8_remember (G := G) hw k100 q18) ?_
          refine x_aload_n 0 dX8_raise_54 rfl rfl ?_
          refine x_getr dX8_raise_55 vc_X8 xin8 fb_X8_8 fl_X8_17 xr_X8_8 k100 g10 ?_
          refine x_iload_n 1 dX8_raise_58 rfl rfl ?_
          refine x_aload_n 0 dX8_raise_59 rfl rfl ?_
          refine x_getr dX8_raise_60 vc_X8 xin8 fb_X8_8 fl_X8_17 xr_X8_8 k100 g10 ?_
          refine x_iconst (v := 0) dX8_raise_63 rfl ?_
          refine x_iald dX8_raise_64 k11 (xb_at n12 xbl_0_1784) xl_0 ?_
          refine x_iload_n 2 dX8_raise_65 rfl rfl ?_
          obtain ⟨N21, q20, h⟩ := x_bd1 h
          refine x_cs (As := [.ref (gp Y a0 8), .int a1, .int (gi N19 (gp Y a0 8) 0), .int a2]) (d' := 1) (zz := yX8_putRequest) dX8_raise_66 ml_X8_145 wt_X8_putRequest wn_X8 wc_X8_putRequest hp_X8_putRequest (by decide) (by decide) rfl (Nat.le_of_ble_eq_true rfl) ⟨Nat.zero_le _, Nat.zero_le _⟩ (T_X8_putRequest (G := G) hw k11 q20) ?_
          refine x_aload_n 0 dX8_raise_69 rfl rfl ?_
          refine x_aload_n 0 dX8_raise_70 rfl rfl ?_
          refine x_getr dX8_raise_71 vc_X8 xin8 fb_X8_8 fl_X8_17 xr_X8_8 k100 g10 ?_
          refine x_iconst (v := 3) dX8_raise_74 rfl ?_
          refine x_iald dX8_raise_75 k11 (xb_at n12 xbl_3_1784) xl_3 ?_
          refine x_iconst (v := 1) dX8_raise_76 rfl ?_
          refine x_isub dX8_raise_77 ?_
          obtain ⟨N23, q22, h⟩ := x_bd1 h
          refine x_cv (b := a0) (As := [.int ((gi N21 (gp Y a0 8) 3) - 1)]) (ci := 8) (d' := 7) (zz := yX8_raiseNow) dX8_raise_78 ml_X8_261 wi_X8_raiseNow wv_X8_raiseNow wn_X8 wc_X8_raiseNow hp_X8_raiseNow (by decide) (by decide) rfl (Nat.le_of_ble_eq_true rfl) ⟨Nat.zero_le _, Nat.zero_le _⟩ rfl k100 (T_X8_raiseNow (G := G) hw k100 q22) ?_
          refine x_aload_n 0 dX8_raise_81 rfl rfl ?_
          refine x_getr dX8_raise_82 vc_X8 xin8 fb_X8_8 fl_X8_17 xr_X8_8 k100 g10 ?_
          refine x_iconst (v := 3) dX8_raise_85 rfl ?_
          refine x_iald dX8_raise_86 k11 (xb_at n12 xbl_3_1784) xl_3 ?_
          refine x_iconst (v := 1) dX8_raise_87 rfl ?_
          refine x_isub dX8_raise_88 ?_
          obtain ⟨rfl, rfl⟩ := Prod.mk.inj (x_so h)
          exact x_iret dX8_raise_89 rfl rfl rfl
        · refine x_if_eq_f (tgt := 50) dX8_raise_45 (by decide) c17 ?_
          refine x_iconst (v := 0) dX8_raise_48 rfl ?_
          obtain ⟨rfl, rfl⟩ := Prod.mk.inj (x_so h)
          exact x_iret dX8_raise_49 rfl rfl rfl
      · refine x_icmp_ne_t (tgt := 40) dX8_raise_33 (by decide) c13 ?_
        refine x_iconst (v := 0) dX8_raise_40 rfl ?_
        refine x_iconst (v := 3) dX8_raise_41 rfl ?_
        obtain ⟨r25, N26, q24, h⟩ := x_bd2 h
        refine x_cv (b := a0) (As := [.int 0, .int 3]) (ci := 8) (d' := 1) (zz := yX8_fails) dX8_raise_42 ml_X8_181 wi_X8_fails wv_X8_fails wn_X8 wc_X8_fails hp_X8_fails (by decide) (by decide) rfl (Nat.le_of_ble_eq_true rfl) ⟨Nat.zero_le _, Nat.zero_le _⟩ rfl k100 (T_X8_fails (G := G) hw k100 q24) ?_
        rcases x_if h with ⟨c27, h⟩ | ⟨c27, h⟩
        · refine x_if_eq_t (tgt := 50) dX8_raise_45 (by decide) c27 ?_
          refine x_aload_n 0 dX8_raise_50 rfl rfl ?_
          obtain ⟨N29, q28, h⟩ := x_bd1 h
          refine x_cv (b := a0) (As := []) (ci := 8) (d' := 2) (zz := yX8_remember) dX8_raise_51 ml_X8_190 wi_X8_remember wv_X8_remember wn_X8 wc_X8_remember hp_X8_remember (by decide) (by decide) rfl (Nat.le_of_ble_eq_true rfl) ⟨Nat.zero_le _, Nat.zero_le _⟩ rfl k100 (T_X8_remember (G := G) hw k100 q28) ?_
          refine x_aload_n 0 dX8_raise_54 rfl rfl ?_
          refine x_getr dX8_raise_55 vc_X8 xin8 fb_X8_8 fl_X8_17 xr_X8_8 k100 g10 ?_
          refine x_iload_n 1 dX8_raise_58 rfl rfl ?_
          refine x_aload_n 0 dX8_raise_59 rfl rfl ?_
          refine x_getr dX8_raise_60 vc_X8 xin8 fb_X8_8 fl_X8_17 xr_X8_8 k100 g10 ?_
          refine x_iconst (v := 0) dX8_raise_63 rfl ?_
          refine x_iald dX8_raise_64 k11 (xb_at n12 xbl_0_1784) xl_0 ?_
          refine x_iload_n 2 dX8_raise_65 rfl rfl ?_
          obtain ⟨N31, q30, h⟩ := x_bd1 h
          refine x_cs (As := [.ref (gp Y a0 8), .int a1, .int (gi N29 (gp Y a0 8) 0), .int a2]) (d' := 1) (zz := yX8_putRequest) dX8_raise_66 ml_X8_145 wt_X8_putRequest wn_X8 wc_X8_putRequest hp_X8_putRequest (by decide) (by decide) rfl (Nat.le_of_ble_eq_true rfl) ⟨Nat.zero_le _, Nat.zero_le _⟩ (T_X8_putRequest (G := G) hw k11 q30) ?_
          refine x_aload_n 0 dX8_raise_69 rfl rfl ?_
          refine x_aload_n 0 dX8_raise_70 rfl rfl ?_
          refine x_getr dX8_raise_71 vc_X8 xin8 fb_X8_8 fl_X8_17 xr_X8_8 k100 g10 ?_
          refine x_iconst (v := 3) dX8_raise_74 rfl ?_
          refine x_iald dX8_raise_75 k11 (xb_at n12 xbl_3_1784) xl_3 ?_
          refine x_iconst (v := 1) dX8_raise_76 rfl ?_
          refine x_isub dX8_raise_77 ?_
          obtain ⟨N33, q32, h⟩ := x_bd1 h
          refine x_cv (b := a0) (As := [.int ((gi N31 (gp Y a0 8) 3) - 1)]) (ci := 8) (d' := 7) (zz := yX8_raiseNow) dX8_raise_78 ml_X8_261 wi_X8_raiseNow wv_X8_raiseNow wn_X8 wc_X8_raiseNow hp_X8_raiseNow (by decide) (by decide) rfl (Nat.le_of_ble_eq_true rfl) ⟨Nat.zero_le _, Nat.zero_le _⟩ rfl k100 (T_X8_raiseNow (G := G) hw k100 q32) ?_
          refine x_aload_n 0 dX8_raise_81 rfl rfl ?_
          refine x_getr dX8_raise_82 vc_X8 xin8 fb_X8_8 fl_X8_17 xr_X8_8 k100 g10 ?_
          refine x_iconst (v := 3) dX8_raise_85 rfl ?_
          refine x_iald dX8_raise_86 k11 (xb_at n12 xbl_3_1784) xl_3 ?_
          refine x_iconst (v := 1) dX8_raise_87 rfl ?_
          refine x_isub dX8_raise_88 ?_
          obtain ⟨rfl, rfl⟩ := Prod.mk.inj (x_so h)
          exact x_iret dX8_raise_89 rfl rfl rfl
        · refine x_if_eq_f (tgt := 50) dX8_raise_45 (by decide) c27 ?_
          refine x_iconst (v := 0) dX8_raise_48 rfl ?_
          obtain ⟨rfl, rfl⟩ := Prod.mk.inj (x_so h)
          exact x_iret dX8_raise_49 rfl rfl rfl
    · refine x_if_ne_t (tgt := 48) dX8_raise_21 (by decide) c9 ?_
      refine x_iconst (v := 0) dX8_raise_48 rfl ?_
      obtain ⟨rfl, rfl⟩ := Prod.mk.inj (x_so h)
      exact x_iret dX8_raise_49 rfl rfl rfl
  · refine x_if_ne_t (tgt := 48) dX8_raise_10 (by decide) c5 ?_
    refine x_iconst (v := 0) dX8_raise_48 rfl ?_
    obtain ⟨rfl, rfl⟩ := Prod.mk.inj (x_so h)
    exact x_iret dX8_raise_49 rfl rfl rfl
set_option maxHeartbeats 4000000 in
set_option maxRecDepth 100000 in
theorem T_X8_lease {G : XG} {Y : XY} (hw : WT Y) {a0 : Nat} {a1 : Int32} {a2 : Int32} {N : XN} (k100 : kc Y a0 = 18) {r9 : Int32} {N9 : XN} (h : f_X8_lease Y a0 a1 a2 N = some (r9, N9)) : Cl G yX8_lease cX8_lease 3 (some .int) (xR 8 0 0) [.ref a0, .int a1, .int a2] (.inl (some (.int r9))) Y N Y N9 := by
  refine x_entry (by decide) (Nat.le_of_ble_eq_true rfl) rfl ?_
  rw [f_X8_lease] at h
  refine x_aload_n 0 dX8_lease_0 rfl rfl ?_
  refine x_iconst (v := 0) dX8_lease_1 rfl ?_
  refine x_puti dX8_lease_2 vc_X8 xin8 tyX8_ok nmX8 fb_X8_0 fl_X8_45 ff_X8_0 xr_X8_0 (nf_X8_0 _) (ft_X8_0 _) k100 ?_
  obtain ⟨N1, eN1, h⟩ := x_lt h
  refine x_nmN eN1 ?_
  refine x_aload_n 0 dX8_lease_5 rfl rfl ?_
  refine x_iload_n 1 dX8_lease_6 rfl rfl ?_
  obtain ⟨r3, N4, q2, h⟩ := x_bd2 h
  refine x_cv (b := a0) (As := [.int a1]) (ci := 8) (d' := 2) (zz := yX8_noHandler) dX8_lease_7 ml_X8_287 wi_X8_noHandler wv_X8_noHandler wn_X8 wc_X8_noHandler hp_X8_noHandler (by decide) (by decide) rfl (Nat.le_of_ble_eq_true rfl) ⟨Nat.zero_le _, Nat.zero_le _⟩ rfl k100 (T_X8_noHandler (G := G) hw k100 q2) ?_
  rcases x_if h with ⟨c5, h⟩ | ⟨c5, h⟩
  · refine x_if_ne_f (tgt := 21) dX8_lease_10 (by decide) c5 ?_
    refine x_aload_n 0 dX8_lease_13 rfl rfl ?_
    refine x_iload_n 2 dX8_lease_14 rfl rfl ?_
    obtain ⟨r7, N8, q6, h⟩ := x_bd2 h
    refine x_cv (b := a0) (As := [.int a2]) (ci := 8) (d' := 2) (zz := yX8_noLine) dX8_lease_15 ml_X8_296 wi_X8_noLine wv_X8_noLine wn_X8 wc_X8_noLine hp_X8_noLine (by decide) (by decide) rfl (Nat.le_of_ble_eq_true rfl) ⟨Nat.zero_le _, Nat.zero_le _⟩ rfl k100 (T_X8_noLine (G := G) hw k100 q6) ?_
    rcases x_if h with ⟨c9, h⟩ | ⟨c9, h⟩
    · refine x_if_eq_t (tgt := 23) dX8_lease_18 (by decide) c9 ?_
      refine x_aload_n 0 dX8_lease_23 rfl rfl ?_
      obtain ⟨N11, q10, h⟩ := x_bd1 h
      refine x_cv (b := a0) (As := []) (ci := 8) (d' := 2) (zz := yX8_remember) dX8_lease_24 ml_X8_190 wi_X8_remember wv_X8_remember wn_X8 wc_X8_remember hp_X8_remember (by decide) (by decide) rfl (Nat.le_of_ble_eq_true rfl) ⟨Nat.zero_le _, Nat.zero_le _⟩ rfl k100 (T_X8_remember (G := G) hw k100 q10) ?_
      refine x_aload_n 0 dX8_lease_27 rfl rfl ?_
      refine x_iload_n 1 dX8_lease_28 rfl rfl ?_
      refine x_iload_n 2 dX8_lease_29 rfl rfl ?_
      obtain ⟨r13, q12, h⟩ := x_bd1 h
      refine x_cv (b := a0) (As := [.int a1, .int a2]) (ci := 8) (d' := 3) (zz := yX8_mayLease) dX8_lease_30 ml_X8_314 wi_X8_mayLease wv_X8_mayLease wn_X8 wc_X8_mayLease hp_X8_mayLease (by decide) (by decide) rfl (Nat.le_of_ble_eq_true rfl) ⟨Nat.zero_le _, Nat.zero_le _⟩ rfl k100 (T_X8_mayLease (G := G) hw k100 q12) ?_
      rcases x_if h with ⟨c14, h⟩ | ⟨c14, h⟩
      · refine x_if_eq_t (tgt := 45) dX8_lease_33 (by decide) c14 ?_
        refine x_iconst (v := (-1)) dX8_lease_45 rfl ?_
        obtain ⟨rfl, rfl⟩ := Prod.mk.inj (x_so h)
        exact x_iret dX8_lease_46 rfl rfl rfl
      · refine x_if_eq_f (tgt := 45) dX8_lease_33 (by decide) c14 ?_
        refine x_aload_n 0 dX8_lease_36 rfl rfl ?_
        refine x_iload_n 1 dX8_lease_37 rfl rfl ?_
        refine x_iload_n 2 dX8_lease_38 rfl rfl ?_
        obtain ⟨r16, N17, q15, h⟩ := x_bd2 h
        refine x_cv (b := a0) (As := [.int a1, .int a2]) (ci := 8) (d' := 7) (zz := yX8_leaseNow) dX8_lease_39 ml_X8_317 wi_X8_leaseNow wv_X8_leaseNow wn_X8 wc_X8_leaseNow hp_X8_leaseNow (by decide) (by decide) rfl (Nat.le_of_ble_eq_true rfl) ⟨Nat.zero_le _, Nat.zero_le _⟩ rfl k100 (T_X8_leaseNow (G := G) hw k100 q15) ?_
        refine x_goto (tgt := 46) dX8_lease_42 (by decide) ?_
        obtain ⟨rfl, rfl⟩ := Prod.mk.inj (x_so h)
        exact x_iret dX8_lease_46 rfl rfl rfl
    · refine x_if_eq_f (tgt := 23) dX8_lease_18 (by decide) c9 ?_
      refine x_iconst (v := 0) dX8_lease_21 rfl ?_
      obtain ⟨rfl, rfl⟩ := Prod.mk.inj (x_so h)
      exact x_iret dX8_lease_22 rfl rfl rfl
  · refine x_if_ne_t (tgt := 21) dX8_lease_10 (by decide) c5 ?_
    refine x_iconst (v := 0) dX8_lease_21 rfl ?_
    obtain ⟨rfl, rfl⟩ := Prod.mk.inj (x_so h)
    exact x_iret dX8_lease_22 rfl rfl rfl
set_option maxHeartbeats 4000000 in
set_option maxRecDepth 100000 in
theorem T_X8_release_49 {G : XG} {Y : XY} (hw : WT Y) {r9 : Int32} {N9 : XN}: ∀ (D9 : Nat) (p_0 : Nat) (v_1 : Int32) (v_2 : Int32) (v_3 : Int32) (v_4 : Int32) (N : XN), kc Y p_0 = 18 → f_X8_release_49 Y D9 p_0 v_1 v_2 v_3 v_4 N = some (r9, N9) → Ex G yX8_release cX8_release 5 (some .int) (xR 7 0 0) (.inl (some (.int r9))) Y N9 0 0 49 [(0, .ref p_0), (1, .int v_1), (2, .int v_2), (3, .int v_3), (4, .int v_4)] [] Y N := by
  intro D9
  induction D9 with
  | zero => intro p_0 v_1 v_2 v_3 v_4 N kk0 h; exact nomatch (show none = some _ from h)
  | succ D9 ih =>
    intro p_0 v_1 v_2 v_3 v_4 N kk0 h
    rw [f_X8_release_49] at h
    refine x_iload 4 dX8_release_49 rfl ?_
    refine x_aload_n 0 dX8_release_51 rfl rfl ?_
    obtain ⟨g1, k2, n3⟩ := wt_X8_8 hw kk0
    refine x_getr dX8_release_52 vc_X8 xin8 fb_X8_8 fl_X8_17 xr_X8_8 kk0 g1 ?_
    refine x_iconst (v := 3) dX8_release_55 rfl ?_
    refine x_iald dX8_release_56 k2 (xb_at n3 xbl_3_1784) xl_3 ?_
    rcases x_if h with ⟨c4, h⟩ | ⟨c4, h⟩
    · refine x_icmp_ge_t (tgt := 99) dX8_release_57 (by decide) c4 ?_
      refine x_iload_n 3 dX8_release_99 rfl rfl ?_
      obtain ⟨rfl, rfl⟩ := Prod.mk.inj (x_so h)
      exact x_iret dX8_release_100 rfl rfl rfl
    · refine x_icmp_ge_f (tgt := 99) dX8_release_57 (by decide) c4 ?_
      refine x_aload_n 0 dX8_release_60 rfl rfl ?_
      refine x_iload_n 1 dX8_release_61 rfl rfl ?_
      refine x_iload 4 dX8_release_62 rfl ?_
      obtain ⟨r6, q5, h⟩ := x_bd1 h
      refine x_cv (b := p_0) (As := [.int v_1, .int v_4]) (ci := 8) (d' := 4) (zz := yX8_holds) dX8_release_64 ml_X8_212 wi_X8_holds wv_X8_holds wn_X8 wc_X8_holds hp_X8_holds (by decide) (by decide) rfl (Nat.le_of_ble_eq_true rfl) ⟨Nat.zero_le _, Nat.zero_le _⟩ rfl kk0 (T_X8_holds (G := G) hw kk0 q5) ?_
      rcases x_if h with ⟨c7, h⟩ | ⟨c7, h⟩
      · refine x_if_eq_t (tgt := 93) dX8_release_67 (by decide) c7 ?_
        refine x_iinc (L' := [(0, .ref p_0), (1, .int v_1), (2, .int v_2), (3, .int v_3), (4, .int (v_4 + 1))]) 4 [1, 2, 3, 4, 0] dX8_release_93 rfl rfl (by decide) rfl ?_
        refine x_goto (tgt := 49) dX8_release_96 (by decide) ?_
        exact ih p_0 v_1 v_2 v_3 (v_4 + 1) N kk0 h
      · refine x_if_eq_f (tgt := 93) dX8_release_67 (by decide) c7 ?_
        refine x_aload_n 0 dX8_release_70 rfl rfl ?_
        refine x_iload 4 dX8_release_71 rfl ?_
        refine x_iconst (v := 0) dX8_release_73 rfl ?_
        obtain ⟨r9, q8, h⟩ := x_bd1 h
        refine x_cv (b := p_0) (As := [.int v_4, .int 0]) (ci := 8) (d' := 2) (zz := yX8_ofRequest) dX8_release_74 ml_X8_206 wi_X8_ofRequest wv_X8_ofRequest wn_X8 wc_X8_ofRequest hp_X8_ofRequest (by decide) (by decide) rfl (Nat.le_of_ble_eq_true rfl) ⟨Nat.zero_le _, Nat.zero_le _⟩ rfl kk0 (T_X8_ofRequest (G := G) hw kk0 q8) ?_
        refine x_iload_n 2 dX8_release_77 rfl rfl ?_
        rcases x_if h with ⟨c10, h⟩ | ⟨c10, h⟩
        · refine x_icmp_eq_t (tgt := 84) dX8_release_78 (by decide) c10 ?_
          refine x_aload_n 0 dX8_release_84 rfl rfl ?_
          refine x_iload 4 dX8_release_85 rfl ?_
          obtain ⟨N12, q11, h⟩ := x_bd1 h
          refine x_cv (b := p_0) (As := [.int v_4]) (ci := 8) (d' := 6) (zz := yX8_assign) dX8_release_87 ml_X8_225 wi_X8_assign wv_X8_assign wn_X8 wc_X8_assign hp_X8_assign (by decide) (by decide) rfl (Nat.le_of_ble_eq_true rfl) ⟨Nat.zero_le _, Nat.zero_le _⟩ rfl kk0 (T_X8_assign (G := G) hw kk0 q11) ?_
          refine x_iinc (L' := [(0, .ref p_0), (1, .int v_1), (2, .int v_2), (3, .int (v_3 + 1)), (4, .int v_4)]) 3 [1, 2, 3, 0, 4] dX8_release_90 rfl rfl (by decide) rfl ?_
          refine x_iinc (L' := [(0, .ref p_0), (1, .int v_1), (2, .int v_2), (3, .int (v_3 + 1)), (4, .int (v_4 + 1))]) 4 [1, 2, 3, 4, 0] dX8_release_93 rfl rfl (by decide) rfl ?_
          refine x_goto (tgt := 49) dX8_release_96 (by decide) ?_
          exact ih p_0 v_1 v_2 (v_3 + 1) (v_4 + 1) N12 kk0 h
        · refine x_icmp_eq_f (tgt := 84) dX8_release_78 (by decide) c10 ?_
          refine x_goto (tgt := 93) dX8_release_81 (by decide) ?_
          refine x_iinc (L' := [(0, .ref p_0), (1, .int v_1), (2, .int v_2), (3, .int v_3), (4, .int (v_4 + 1))]) 4 [1, 2, 3, 4, 0] dX8_release_93 rfl rfl (by decide) rfl ?_
          refine x_goto (tgt := 49) dX8_release_96 (by decide) ?_
          exact ih p_0 v_1 v_2 v_3 (v_4 + 1) N kk0 h
set_option maxHeartbeats 4000000 in
set_option maxRecDepth 100000 in
theorem T_X8_release {G : XG} {Y : XY} (hw : WT Y) {a0 : Nat} {a1 : Int32} {a2 : Int32} {N : XN} (k100 : kc Y a0 = 18) {r9 : Int32} {N9 : XN} (h : f_X8_release Y a0 a1 a2 N = some (r9, N9)) : Cl G yX8_release cX8_release 5 (some .int) (xR 7 0 0) [.ref a0, .int a1, .int a2] (.inl (some (.int r9))) Y N Y N9 := by
  refine x_entry (by decide) (Nat.le_of_ble_eq_true rfl) rfl ?_
  rw [f_X8_release] at h
  refine x_aload_n 0 dX8_release_0 rfl rfl ?_
  refine x_iconst (v := 0) dX8_release_1 rfl ?_
  refine x_puti dX8_release_2 vc_X8 xin8 tyX8_ok nmX8 fb_X8_0 fl_X8_45 ff_X8_0 xr_X8_0 (nf_X8_0 _) (ft_X8_0 _) k100 ?_
  obtain ⟨N1, eN1, h⟩ := x_lt h
  refine x_nmN eN1 ?_
  refine x_aload_n 0 dX8_release_5 rfl rfl ?_
  refine x_iload_n 1 dX8_release_6 rfl rfl ?_
  obtain ⟨r3, N4, q2, h⟩ := x_bd2 h
  refine x_cv (b := a0) (As := [.int a1]) (ci := 8) (d' := 2) (zz := yX8_noHandler) dX8_release_7 ml_X8_287 wi_X8_noHandler wv_X8_noHandler wn_X8 wc_X8_noHandler hp_X8_noHandler (by decide) (by decide) rfl (Nat.le_of_ble_eq_true rfl) ⟨Nat.zero_le _, Nat.zero_le _⟩ rfl k100 (T_X8_noHandler (G := G) hw k100 q2) ?_
  rcases x_if h with ⟨c5, h⟩ | ⟨c5, h⟩
  · refine x_if_ne_f (tgt := 21) dX8_release_10 (by decide) c5 ?_
    refine x_aload_n 0 dX8_release_13 rfl rfl ?_
    refine x_iload_n 2 dX8_release_14 rfl rfl ?_
    obtain ⟨r7, N8, q6, h⟩ := x_bd2 h
    refine x_cv (b := a0) (As := [.int a2]) (ci := 8) (d' := 2) (zz := yX8_noLine) dX8_release_15 ml_X8_296 wi_X8_noLine wv_X8_noLine wn_X8 wc_X8_noLine hp_X8_noLine (by decide) (by decide) rfl (Nat.le_of_ble_eq_true rfl) ⟨Nat.zero_le _, Nat.zero_le _⟩ rfl k100 (T_X8_noLine (G := G) hw k100 q6) ?_
    rcases x_if h with ⟨c9, h⟩ | ⟨c9, h⟩
    · refine x_if_eq_t (tgt := 23) dX8_release_18 (by decide) c9 ?_
      refine x_aload_n 0 dX8_release_23 rfl rfl ?_
      obtain ⟨N11, q10, h⟩ := x_bd1 h
      refine x_cv (b := a0) (As := []) (ci := 8) (d' := 2) (zz := yX8_remember) dX8_release_24 ml_X8_190 wi_X8_remember wv_X8_remember wn_X8 wc_X8_remember hp_X8_remember (by decide) (by decide) rfl (Nat.le_of_ble_eq_true rfl) ⟨Nat.zero_le _, Nat.zero_le _⟩ rfl k100 (T_X8_remember (G := G) hw k100 q10) ?_
      refine x_aload_n 0 dX8_release_27 rfl rfl ?_
      refine x_iload_n 1 dX8_release_28 rfl rfl ?_
      refine x_iload_n 2 dX8_release_29 rfl rfl ?_
      obtain ⟨r13, q12, h⟩ := x_bd1 h
      refine x_cv (b := a0) (As := [.int a1, .int a2]) (ci := 8) (d' := 2) (zz := yX8_isTenant) dX8_release_30 ml_X8_258 wi_X8_isTenant wv_X8_isTenant wn_X8 wc_X8_isTenant hp_X8_isTenant (by decide) (by decide) rfl (Nat.le_of_ble_eq_true rfl) ⟨Nat.zero_le _, Nat.zero_le _⟩ rfl k100 (T_X8_isTenant (G := G) hw k100 q12) ?_
      rcases x_if h with ⟨c14, h⟩ | ⟨c14, h⟩
      · refine x_if_ne_f (tgt := 38) dX8_release_33 (by decide) c14 ?_
        refine x_iconst (v := (-1)) dX8_release_36 rfl ?_
        obtain ⟨rfl, rfl⟩ := Prod.mk.inj (x_so h)
        exact x_iret dX8_release_37 rfl rfl rfl
      · refine x_if_ne_t (tgt := 38) dX8_release_33 (by decide) c14 ?_
        refine x_aload_n 0 dX8_release_38 rfl rfl ?_
        refine x_iload_n 1 dX8_release_39 rfl rfl ?_
        refine x_iload_n 2 dX8_release_40 rfl rfl ?_
        obtain ⟨N16, q15, h⟩ := x_bd1 h
        refine x_cv (b := a0) (As := [.int a1, .int a2]) (ci := 8) (d' := 2) (zz := yX8_leave) dX8_release_41 ml_X8_228 wi_X8_leave wv_X8_leave wn_X8 wc_X8_leave hp_X8_leave (by decide) (by decide) rfl (Nat.le_of_ble_eq_true rfl) ⟨Nat.zero_le _, Nat.zero_le _⟩ rfl k100 (T_X8_leave (G := G) hw k100 q15) ?_
        refine x_iconst (v := 0) dX8_release_44 rfl ?_
        refine x_istore_n (L' := [(0, .ref a0), (1, .int a1), (2, .int a2), (3, .int 0)]) [1, 2, 3, 0] dX8_release_45 rfl (by decide) rfl ?_
        refine x_iconst (v := 0) dX8_release_46 rfl ?_
        refine x_istore (L' := [(0, .ref a0), (1, .int a1), (2, .int a2), (3, .int 0), (4, .int 0)]) [1, 2, 3, 4, 0] dX8_release_47 (by decide) rfl ?_
        exact T_X8_release_49 (G := G) hw FU a0 a1 a2 0 0 N16 k100 h
    · refine x_if_eq_f (tgt := 23) dX8_release_18 (by decide) c9 ?_
      refine x_iconst (v := 0) dX8_release_21 rfl ?_
      obtain ⟨rfl, rfl⟩ := Prod.mk.inj (x_so h)
      exact x_iret dX8_release_22 rfl rfl rfl
  · refine x_if_ne_t (tgt := 21) dX8_release_10 (by decide) c5 ?_
    refine x_iconst (v := 0) dX8_release_21 rfl ?_
    obtain ⟨rfl, rfl⟩ := Prod.mk.inj (x_so h)
    exact x_iret dX8_release_22 rfl rfl rfl
set_option maxHeartbeats 4000000 in
set_option maxRecDepth 100000 in
theorem T_X8_fund {G : XG} {Y : XY} (hw : WT Y) {a0 : Nat} {a1 : Int32} {a2 : Int32} {N : XN} (k100 : kc Y a0 = 18) {r9 : Int32} {N9 : XN} (h : f_X8_fund Y a0 a1 a2 N = some (r9, N9)) : Cl G yX8_fund cX8_fund 3 (some .int) (xR 3 0 0) [.ref a0, .int a1, .int a2] (.inl (some (.int r9))) Y N Y N9 := by
  refine x_entry (by decide) (Nat.le_of_ble_eq_true rfl) rfl ?_
  rw [f_X8_fund] at h
  refine x_aload_n 0 dX8_fund_0 rfl rfl ?_
  refine x_iconst (v := 0) dX8_fund_1 rfl ?_
  refine x_puti dX8_fund_2 vc_X8 xin8 tyX8_ok nmX8 fb_X8_0 fl_X8_45 ff_X8_0 xr_X8_0 (nf_X8_0 _) (ft_X8_0 _) k100 ?_
  obtain ⟨N1, eN1, h⟩ := x_lt h
  refine x_nmN eN1 ?_
  refine x_aload_n 0 dX8_fund_5 rfl rfl ?_
  refine x_iload_n 1 dX8_fund_6 rfl rfl ?_
  obtain ⟨r3, N4, q2, h⟩ := x_bd2 h
  refine x_cv (b := a0) (As := [.int a1]) (ci := 8) (d' := 2) (zz := yX8_noHandler) dX8_fund_7 ml_X8_287 wi_X8_noHandler wv_X8_noHandler wn_X8 wc_X8_noHandler hp_X8_noHandler (by decide) (by decide) rfl (Nat.le_of_ble_eq_true rfl) ⟨Nat.zero_le _, Nat.zero_le _⟩ rfl k100 (T_X8_noHandler (G := G) hw k100 q2) ?_
  rcases x_if h with ⟨c5, h⟩ | ⟨c5, h⟩
  · refine x_if_ne_f (tgt := 25) dX8_fund_10 (by decide) c5 ?_
    refine x_aload_n 0 dX8_fund_13 rfl rfl ?_
    refine x_iload_n 2 dX8_fund_14 rfl rfl ?_
    refine x_iconst (v := 1) dX8_fund_15 rfl ?_
    refine x_sipush (v := 9999) dX8_fund_16 rfl ?_
    obtain ⟨r7, N8, q6, h⟩ := x_bd2 h
    refine x_cv (b := a0) (As := [.int a2, .int 1, .int 9999]) (ci := 8) (d' := 2) (zz := yX8_noNumber) dX8_fund_19 ml_X8_290 wi_X8_noNumber wv_X8_noNumber wn_X8 wc_X8_noNumber hp_X8_noNumber (by decide) (by decide) rfl (Nat.le_of_ble_eq_true rfl) ⟨Nat.zero_le _, Nat.zero_le _⟩ rfl k100 (T_X8_noNumber (G := G) hw k100 q6) ?_
    rcases x_if h with ⟨c9, h⟩ | ⟨c9, h⟩
    · refine x_if_eq_t (tgt := 27) dX8_fund_22 (by decide) c9 ?_
      refine x_aload_n 0 dX8_fund_27 rfl rfl ?_
      obtain ⟨N11, q10, h⟩ := x_bd1 h
      refine x_cv (b := a0) (As := []) (ci := 8) (d' := 2) (zz := yX8_remember) dX8_fund_28 ml_X8_190 wi_X8_remember wv_X8_remember wn_X8 wc_X8_remember hp_X8_remember (by decide) (by decide) rfl (Nat.le_of_ble_eq_true rfl) ⟨Nat.zero_le _, Nat.zero_le _⟩ rfl k100 (T_X8_remember (G := G) hw k100 q10) ?_
      refine x_aload_n 0 dX8_fund_31 rfl rfl ?_
      obtain ⟨g12, k13, n14⟩ := wt_X8_8 hw k100
      refine x_getr dX8_fund_32 vc_X8 xin8 fb_X8_8 fl_X8_17 xr_X8_8 k100 g12 ?_
      refine x_iload_n 1 dX8_fund_35 rfl rfl ?_
      refine x_cs (As := [.int a1]) (d' := 1) (zz := yX8_handlerAt) dX8_fund_36 ml_X8_197 wt_X8_handlerAt wn_X8 wc_X8_handlerAt hp_X8_handlerAt (by decide) (by decide) rfl (Nat.le_of_ble_eq_true rfl) ⟨Nat.zero_le _, Nat.zero_le _⟩ (T_X8_handlerAt (G := G) hw  rfl) ?_
      refine x_iconst (v := 0) dX8_fund_39 rfl ?_
      refine x_iadd dX8_fund_40 ?_
      refine x_dup2 dX8_fund_41 rfl rfl ?_
      obtain ⟨c15, h⟩ := x_ck h
      refine x_iald dX8_fund_42 k13 (xb_at n14 c15) rfl ?_
      refine x_iload_n 2 dX8_fund_43 rfl rfl ?_
      refine x_iadd dX8_fund_44 ?_
      obtain ⟨c16, h⟩ := x_ck h
      refine x_iast dX8_fund_45 k13 (xb_at n14 c16) rfl ?_
      obtain ⟨N17, eN17, h⟩ := x_lt h
      refine x_nmN eN17 ?_
      refine x_aload_n 0 dX8_fund_46 rfl rfl ?_
      refine x_getr dX8_fund_47 vc_X8 xin8 fb_X8_8 fl_X8_17 xr_X8_8 k100 g12 ?_
      refine x_iload_n 1 dX8_fund_50 rfl rfl ?_
      refine x_cs (As := [.int a1]) (d' := 1) (zz := yX8_handlerAt) dX8_fund_51 ml_X8_197 wt_X8_handlerAt wn_X8 wc_X8_handlerAt hp_X8_handlerAt (by decide) (by decide) rfl (Nat.le_of_ble_eq_true rfl) ⟨Nat.zero_le _, Nat.zero_le _⟩ (T_X8_handlerAt (G := G) hw  rfl) ?_
      refine x_iconst (v := 2) dX8_fund_54 rfl ?_
      refine x_iadd dX8_fund_55 ?_
      refine x_iconst (v := 0) dX8_fund_56 rfl ?_
      obtain ⟨c18, h⟩ := x_ck h
      refine x_iast dX8_fund_57 k13 (xb_at n14 c18) rfl ?_
      obtain ⟨N19, eN19, h⟩ := x_lt h
      refine x_nmN eN19 ?_
      refine x_aload_n 0 dX8_fund_58 rfl rfl ?_
      refine x_iload_n 1 dX8_fund_59 rfl rfl ?_
      refine x_iconst (v := 0) dX8_fund_60 rfl ?_
      obtain ⟨r21, q20, h⟩ := x_bd1 h
      refine x_cv (b := a0) (As := [.int a1, .int 0]) (ci := 8) (d' := 2) (zz := yX8_ofHandler) dX8_fund_61 ml_X8_245 wi_X8_ofHandler wv_X8_ofHandler wn_X8 wc_X8_ofHandler hp_X8_ofHandler (by decide) (by decide) rfl (Nat.le_of_ble_eq_true rfl) ⟨Nat.zero_le _, Nat.zero_le _⟩ rfl k100 (T_X8_ofHandler (G := G) hw k100 q20) ?_
      obtain ⟨rfl, rfl⟩ := Prod.mk.inj (x_so h)
      exact x_iret dX8_fund_64 rfl rfl rfl
    · refine x_if_eq_f (tgt := 27) dX8_fund_22 (by decide) c9 ?_
      refine x_iconst (v := 0) dX8_fund_25 rfl ?_
      obtain ⟨rfl, rfl⟩ := Prod.mk.inj (x_so h)
      exact x_iret dX8_fund_26 rfl rfl rfl
  · refine x_if_ne_t (tgt := 25) dX8_fund_10 (by decide) c5 ?_
    refine x_iconst (v := 0) dX8_fund_25 rfl ?_
    obtain ⟨rfl, rfl⟩ := Prod.mk.inj (x_so h)
    exact x_iret dX8_fund_26 rfl rfl rfl
