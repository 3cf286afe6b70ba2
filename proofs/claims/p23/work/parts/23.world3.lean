set_option maxHeartbeats 4000000 in
set_option maxRecDepth 100000 in
theorem T_X6_chargeRent {G : XG} {Y : XY} (hw : WT Y) {a0 : Nat} {a1 : Nat} {N : XN} (k100 : kc Y a0 = 16) (k101 : kc Y a1 = 12) {N9 : XN} (h : f_X6_chargeRent Y a0 a1 N = some N9) : Cl G yX6_chargeRent cX6_chargeRent 8 none (xR 5 0 0) [.ref a0, .ref a1] (.inl none) Y N Y N9 := by
  refine x_entry (by decide) (Nat.le_of_ble_eq_true rfl) rfl ?_
  rw [f_X6_chargeRent] at h
  refine x_aload_n 1 dX6_chargeRent_0 rfl rfl ?_
  refine x_geti dX6_chargeRent_1 vc_X2 xin2 fb_X2_4 fl_X6_150 xr_X2_4 k101 ?_
  refine x_istore_n (L' := [(0, .ref a0), (1, .ref a1), (2, .int (gi N a1 4))]) [1, 2, 0] dX6_chargeRent_4 rfl (by decide) rfl ?_
  refine x_iload_n 2 dX6_chargeRent_5 rfl rfl ?_
  rcases x_if h with ⟨c1, h⟩ | ⟨c1, h⟩
  · refine x_if_ne_f (tgt := 10) dX6_chargeRent_6 (by decide) c1 ?_
    obtain rfl := x_so h
    exact x_vret dX6_chargeRent_9 rfl rfl rfl
  · refine x_if_ne_t (tgt := 10) dX6_chargeRent_6 (by decide) c1 ?_
    refine x_aload_n 1 dX6_chargeRent_10 rfl rfl ?_
    refine x_geti dX6_chargeRent_11 vc_X2 xin2 fb_X2_0 fl_X6_211 xr_X2_0 k101 ?_
    refine x_iload_n 2 dX6_chargeRent_14 rfl rfl ?_
    obtain ⟨c2, h⟩ := x_cn h
    refine x_idiv dX6_chargeRent_15 c2 ?_
    obtain ⟨v3, ev3, h⟩ := x_lt h
    refine x_nmi ev3 ?_
    refine x_istore_n (L' := [(0, .ref a0), (1, .ref a1), (2, .int (gi N a1 4)), (3, .int v3)]) [1, 2, 3, 0] dX6_chargeRent_16 rfl (by decide) rfl ?_
    refine x_aload_n 1 dX6_chargeRent_17 rfl rfl ?_
    refine x_geti dX6_chargeRent_18 vc_X2 xin2 fb_X2_0 fl_X6_211 xr_X2_0 k101 ?_
    refine x_iload_n 2 dX6_chargeRent_21 rfl rfl ?_
    obtain ⟨c4, h⟩ := x_cn h
    refine x_irem dX6_chargeRent_22 c4 ?_
    obtain ⟨v5, ev5, h⟩ := x_lt h
    refine x_nmi ev5 ?_
    refine x_istore (L' := [(0, .ref a0), (1, .ref a1), (2, .int (gi N a1 4)), (3, .int v3), (4, .int v5)]) [1, 2, 3, 4, 0] dX6_chargeRent_23 (by decide) rfl ?_
    refine x_iconst (v := 0) dX6_chargeRent_25 rfl ?_
    refine x_istore (L' := [(0, .ref a0), (1, .ref a1), (2, .int (gi N a1 4)), (3, .int v3), (4, .int v5), (5, .int 0)]) [1, 2, 3, 4, 5, 0] dX6_chargeRent_26 (by decide) rfl ?_
    exact T_X6_chargeRent_28 (G := G) hw FU a0 a1 (gi N a1 4) v3 v5 0 N k100 k101 h
set_option maxHeartbeats 4000000 in
set_option maxRecDepth 100000 in
theorem T_X6_passTick_181 {G : XG} {Y : XY} (hw : WT Y) {N9 : XN}: ∀ (D9 : Nat) (p_0 : Nat) (v_1 : Int32) (N : XN), kc Y p_0 = 16 → f_X6_passTick_181 Y D9 p_0 v_1 N = some N9 → Ex G yX6_passTick cX6_passTick 3 none (xR 6 0 0) (.inl none) Y N9 0 0 181 [(0, .ref p_0), (1, .int v_1)] [] Y N := by
  intro D9
  induction D9 with
  | zero => intro p_0 v_1 N kk0 h; exact nomatch (show none = some _ from h)
  | succ D9 ih =>
    intro p_0 v_1 N kk0 h
    rw [f_X6_passTick_181] at h
    refine x_iload_n 1 dX6_passTick_181 rfl rfl ?_
    refine x_aload_n 0 dX6_passTick_182 rfl rfl ?_
    refine x_geti dX6_passTick_183 vc_X6 xin6 fb_X6_3 fl_X6_50 xr_X6_3 kk0 ?_
    rcases x_if h with ⟨c1, h⟩ | ⟨c1, h⟩
    · refine x_icmp_ge_t (tgt := 205) dX6_passTick_186 (by decide) c1 ?_
      refine x_aload_n 0 dX6_passTick_205 rfl rfl ?_
      refine x_dup dX6_passTick_206 rfl ?_
      refine x_geti dX6_passTick_207 vc_X6 xin6 fb_X6_6 fl_X6_56 xr_X6_6 kk0 ?_
      refine x_iconst (v := 1) dX6_passTick_210 rfl ?_
      refine x_iadd dX6_passTick_211 ?_
      refine x_puti dX6_passTick_212 vc_X6 xin6 tyX6_ok nmX6 fb_X6_6 fl_X6_56 ff_X6_6 xr_X6_6 (nf_X6_6 _) (ft_X6_6 _) kk0 ?_
      obtain ⟨N2, eN2, h⟩ := x_lt h
      refine x_nmN eN2 ?_
      obtain rfl := x_so h
      exact x_vret dX6_passTick_215 rfl rfl rfl
    · refine x_icmp_ge_f (tgt := 205) dX6_passTick_186 (by decide) c1 ?_
      refine x_aload_n 0 dX6_passTick_189 rfl rfl ?_
      refine x_aload_n 0 dX6_passTick_190 rfl rfl ?_
      obtain ⟨g3, k4, n5⟩ := wt_X6_2 hw kk0
      refine x_getr dX6_passTick_191 vc_X6 xin6 fb_X6_2 fl_X6_19 xr_X6_2 kk0 g3 ?_
      refine x_iload_n 1 dX6_passTick_194 rfl rfl ?_
      obtain ⟨c6, h⟩ := x_ck h
      obtain ⟨g7, k8⟩ := wt_5 hw k4 (xb_at n5 c6)
      refine x_aald (j := 1) dX6_passTick_195 (by decide) k4 (xb_at n5 c6) g7 ?_
      obtain ⟨N10, q9, h⟩ := x_bd1 h
      refine x_cv (b := p_0) (As := [.ref (gp Y (gp Y p_0 2) v_1.toNatClampNeg)]) (ci := 6) (d' := 5) (zz := yX6_chargeRent) dX6_passTick_196 ml_X6_192 wi_X6_chargeRent wv_X6_chargeRent wn_X6 wc_X6_chargeRent hp_X6_chargeRent (by decide) (by decide) rfl (Nat.le_of_ble_eq_true rfl) ⟨Nat.zero_le _, Nat.zero_le _⟩ rfl kk0 (T_X6_chargeRent (G := G) hw kk0 k8 q9) ?_
      refine x_iinc (L' := [(0, .ref p_0), (1, .int (v_1 + 1))]) 1 [1, 0] dX6_passTick_199 rfl rfl (by decide) rfl ?_
      refine x_goto (tgt := 181) dX6_passTick_202 (by decide) ?_
      exact ih p_0 (v_1 + 1) N10 kk0 h
set_option maxHeartbeats 4000000 in
set_option maxRecDepth 100000 in
theorem T_X6_passTick_101 {G : XG} {Y : XY} (hw : WT Y) {N9 : XN}: ∀ (D9 : Nat) (p_0 : Nat) (v_1 : Int32) (N : XN), kc Y p_0 = 16 → f_X6_passTick_101 Y D9 p_0 v_1 N = some N9 → Ex G yX6_passTick cX6_passTick 3 none (xR 6 0 0) (.inl none) Y N9 0 0 101 [(0, .ref p_0), (1, .int v_1)] [] Y N := by
  intro D9
  induction D9 with
  | zero => intro p_0 v_1 N kk0 h; exact nomatch (show none = some _ from h)
  | succ D9 ih =>
    intro p_0 v_1 N kk0 h
    rw [f_X6_passTick_101] at h
    refine x_iload_n 1 dX6_passTick_101 rfl rfl ?_
    refine x_aload_n 0 dX6_passTick_102 rfl rfl ?_
    refine x_geti dX6_passTick_103 vc_X6 xin6 fb_X6_5 fl_X6_53 xr_X6_5 kk0 ?_
    rcases x_if h with ⟨c1, h⟩ | ⟨c1, h⟩
    · refine x_icmp_ge_t (tgt := 158) dX6_passTick_106 (by decide) c1 ?_
      refine x_aload_n 0 dX6_passTick_158 rfl rfl ?_
      refine x_geti dX6_passTick_159 vc_X6 xin6 fb_X6_11 fl_X6_71 xr_X6_11 kk0 ?_
      rcases x_if h with ⟨c2, h⟩ | ⟨c2, h⟩
      · refine x_if_le_t (tgt := 205) dX6_passTick_162 (by decide) c2 ?_
        refine x_aload_n 0 dX6_passTick_205 rfl rfl ?_
        refine x_dup dX6_passTick_206 rfl ?_
        refine x_geti dX6_passTick_207 vc_X6 xin6 fb_X6_6 fl_X6_56 xr_X6_6 kk0 ?_
        refine x_iconst (v := 1) dX6_passTick_210 rfl ?_
        refine x_iadd dX6_passTick_211 ?_
        refine x_puti dX6_passTick_212 vc_X6 xin6 tyX6_ok nmX6 fb_X6_6 fl_X6_56 ff_X6_6 xr_X6_6 (nf_X6_6 _) (ft_X6_6 _) kk0 ?_
        obtain ⟨N3, eN3, h⟩ := x_lt h
        refine x_nmN eN3 ?_
        obtain rfl := x_so h
        exact x_vret dX6_passTick_215 rfl rfl rfl
      · refine x_if_le_f (tgt := 205) dX6_passTick_162 (by decide) c2 ?_
        refine x_aload_n 0 dX6_passTick_165 rfl rfl ?_
        refine x_geti dX6_passTick_166 vc_X6 xin6 fb_X6_6 fl_X6_56 xr_X6_6 kk0 ?_
        refine x_iconst (v := 1) dX6_passTick_169 rfl ?_
        refine x_iadd dX6_passTick_170 ?_
        refine x_aload_n 0 dX6_passTick_171 rfl rfl ?_
        refine x_geti dX6_passTick_172 vc_X6 xin6 fb_X6_11 fl_X6_71 xr_X6_11 kk0 ?_
        obtain ⟨c4, h⟩ := x_cn h
        refine x_irem dX6_passTick_175 c4 ?_
        rcases x_if h with ⟨c5, h⟩ | ⟨c5, h⟩
        · refine x_if_ne_f (tgt := 205) dX6_passTick_176 (by decide) c5 ?_
          refine x_iconst (v := 0) dX6_passTick_179 rfl ?_
          refine x_istore_n (L' := [(0, .ref p_0), (1, .int 0)]) [1, 0] dX6_passTick_180 rfl (by decide) rfl ?_
          exact T_X6_passTick_181 (G := G) hw FU p_0 0 N kk0 h
        · refine x_if_ne_t (tgt := 205) dX6_passTick_176 (by decide) c5 ?_
          refine x_aload_n 0 dX6_passTick_205 rfl rfl ?_
          refine x_dup dX6_passTick_206 rfl ?_
          refine x_geti dX6_passTick_207 vc_X6 xin6 fb_X6_6 fl_X6_56 xr_X6_6 kk0 ?_
          refine x_iconst (v := 1) dX6_passTick_210 rfl ?_
          refine x_iadd dX6_passTick_211 ?_
          refine x_puti dX6_passTick_212 vc_X6 xin6 tyX6_ok nmX6 fb_X6_6 fl_X6_56 ff_X6_6 xr_X6_6 (nf_X6_6 _) (ft_X6_6 _) kk0 ?_
          obtain ⟨N6, eN6, h⟩ := x_lt h
          refine x_nmN eN6 ?_
          obtain rfl := x_so h
          exact x_vret dX6_passTick_215 rfl rfl rfl
    · refine x_icmp_ge_f (tgt := 158) dX6_passTick_106 (by decide) c1 ?_
      refine x_aload_n 0 dX6_passTick_109 rfl rfl ?_
      obtain ⟨g7, k8, n9⟩ := wt_X6_4 hw kk0
      refine x_getr dX6_passTick_110 vc_X6 xin6 fb_X6_4 fl_X6_25 xr_X6_4 kk0 g7 ?_
      refine x_iload_n 1 dX6_passTick_113 rfl rfl ?_
      obtain ⟨c10, h⟩ := x_ck h
      obtain ⟨g11, k12⟩ := wt_6 hw k8 (xb_at n9 c10)
      refine x_aald (j := 2) dX6_passTick_114 (by decide) k8 (xb_at n9 c10) g11 ?_
      obtain ⟨p13, ep13, h⟩ := x_lt h
      refine x_nmr ep13 ?_
      have k14 := k12; rw [← ep13] at k14
      refine x_astore_n (L' := [(0, .ref p_0), (1, .int v_1), (2, .ref p13)]) [1, 2, 0] dX6_passTick_115 rfl (by decide) rfl ?_
      refine x_aload_n 2 dX6_passTick_116 rfl rfl ?_
      refine x_geti dX6_passTick_117 vc_X3 xin3 fb_X3_3 fl_X6_100 xr_X3_3 k14 ?_
      refine x_iconst (v := 1) dX6_passTick_120 rfl ?_
      rcases x_if h with ⟨c15, h⟩ | ⟨c15, h⟩
      · refine x_icmp_ne_f (tgt := 152) dX6_passTick_121 (by decide) c15 ?_
        refine x_aload_n 2 dX6_passTick_124 rfl rfl ?_
        refine x_geti dX6_passTick_125 vc_X3 xin3 fb_X3_4 fl_X6_121 xr_X3_4 k14 ?_
        rcases x_if h with ⟨c16, h⟩ | ⟨c16, h⟩
        · refine x_if_lt_t (tgt := 152) dX6_passTick_128 (by decide) c16 ?_
          refine x_iinc (L' := [(0, .ref p_0), (1, .int (v_1 + 1))]) 1 [1, 0] dX6_passTick_152 rfl rfl (by decide) rfl ?_
          refine x_goto (tgt := 101) dX6_passTick_155 (by decide) ?_
          exact ih p_0 (v_1 + 1) N kk0 h
        · refine x_if_lt_f (tgt := 152) dX6_passTick_128 (by decide) c16 ?_
          refine x_aload_n 0 dX6_passTick_131 rfl rfl ?_
          refine x_geti dX6_passTick_132 vc_X6 xin6 fb_X6_6 fl_X6_56 xr_X6_6 kk0 ?_
          refine x_aload_n 2 dX6_passTick_135 rfl rfl ?_
          refine x_geti dX6_passTick_136 vc_X3 xin3 fb_X3_6 fl_X6_162 xr_X3_6 k14 ?_
          refine x_isub dX6_passTick_139 ?_
          refine x_aload_n 0 dX6_passTick_140 rfl rfl ?_
          refine x_geti dX6_passTick_141 vc_X6 xin6 fb_X6_8 fl_X6_62 xr_X6_8 kk0 ?_
          rcases x_if h with ⟨c17, h⟩ | ⟨c17, h⟩
          · refine x_icmp_lt_t (tgt := 152) dX6_passTick_144 (by decide) c17 ?_
            refine x_iinc (L' := [(0, .ref p_0), (1, .int (v_1 + 1))]) 1 [1, 0] dX6_passTick_152 rfl rfl (by decide) rfl ?_
            refine x_goto (tgt := 101) dX6_passTick_155 (by decide) ?_
            exact ih p_0 (v_1 + 1) N kk0 h
          · refine x_icmp_lt_f (tgt := 152) dX6_passTick_144 (by decide) c17 ?_
            refine x_aload_n 0 dX6_passTick_147 rfl rfl ?_
            refine x_aload_n 2 dX6_passTick_148 rfl rfl ?_
            obtain ⟨N19, q18, h⟩ := x_bd1 h
            refine x_cv (b := p_0) (As := [.ref p13]) (ci := 6) (d' := 5) (zz := yX6_chargeFine) dX6_passTick_149 ml_X6_189 wi_X6_chargeFine wv_X6_chargeFine wn_X6 wc_X6_chargeFine hp_X6_chargeFine (by decide) (by decide) rfl (Nat.le_of_ble_eq_true rfl) ⟨Nat.zero_le _, Nat.zero_le _⟩ rfl kk0 (T_X6_chargeFine (G := G) hw kk0 k14 q18) ?_
            refine x_iinc (L' := [(0, .ref p_0), (1, .int (v_1 + 1))]) 1 [1, 0] dX6_passTick_152 rfl rfl (by decide) rfl ?_
            refine x_goto (tgt := 101) dX6_passTick_155 (by decide) ?_
            exact ih p_0 (v_1 + 1) N19 kk0 h
      · refine x_icmp_ne_t (tgt := 152) dX6_passTick_121 (by decide) c15 ?_
        refine x_iinc (L' := [(0, .ref p_0), (1, .int (v_1 + 1))]) 1 [1, 0] dX6_passTick_152 rfl rfl (by decide) rfl ?_
        refine x_goto (tgt := 101) dX6_passTick_155 (by decide) ?_
        exact ih p_0 (v_1 + 1) N kk0 h
set_option maxHeartbeats 4000000 in
set_option maxRecDepth 100000 in
theorem T_X6_passTick_56 {G : XG} {Y : XY} (hw : WT Y) {N9 : XN}: ∀ (D9 : Nat) (p_0 : Nat) (v_1 : Int32) (N : XN), kc Y p_0 = 16 → f_X6_passTick_56 Y D9 p_0 v_1 N = some N9 → Ex G yX6_passTick cX6_passTick 3 none (xR 6 0 0) (.inl none) Y N9 0 0 56 [(0, .ref p_0), (1, .int v_1)] [] Y N := by
  intro D9
  induction D9 with
  | zero => intro p_0 v_1 N kk0 h; exact nomatch (show none = some _ from h)
  | succ D9 ih =>
    intro p_0 v_1 N kk0 h
    rw [f_X6_passTick_56] at h
    refine x_iload_n 1 dX6_passTick_56 rfl rfl ?_
    refine x_aload_n 0 dX6_passTick_57 rfl rfl ?_
    refine x_geti dX6_passTick_58 vc_X6 xin6 fb_X6_1 fl_X6_46 xr_X6_1 kk0 ?_
    rcases x_if h with ⟨c1, h⟩ | ⟨c1, h⟩
    · refine x_icmp_ge_t (tgt := 99) dX6_passTick_61 (by decide) c1 ?_
      refine x_iconst (v := 0) dX6_passTick_99 rfl ?_
      refine x_istore_n (L' := [(0, .ref p_0), (1, .int 0)]) [1, 0] dX6_passTick_100 rfl (by decide) rfl ?_
      exact T_X6_passTick_101 (G := G) hw FU p_0 0 N kk0 h
    · refine x_icmp_ge_f (tgt := 99) dX6_passTick_61 (by decide) c1 ?_
      refine x_aload_n 0 dX6_passTick_64 rfl rfl ?_
      obtain ⟨g2, k3, n4⟩ := wt_X6_0 hw kk0
      refine x_getr dX6_passTick_65 vc_X6 xin6 fb_X6_0 fl_X6_11 xr_X6_0 kk0 g2 ?_
      refine x_iload_n 1 dX6_passTick_68 rfl rfl ?_
      obtain ⟨c5, h⟩ := x_ck h
      obtain ⟨g6, k7⟩ := wt_4 hw k3 (xb_at n4 c5)
      refine x_aald (j := 0) dX6_passTick_69 (by decide) k3 (xb_at n4 c5) g6 ?_
      refine x_geti dX6_passTick_70 vc_X1 xin1 fb_X1_2 fl_X6_103 xr_X1_2 k7 ?_
      rcases x_if h with ⟨c8, h⟩ | ⟨c8, h⟩
      · refine x_if_ne_f (tgt := 93) dX6_passTick_73 (by decide) c8 ?_
        refine x_aload_n 0 dX6_passTick_76 rfl rfl ?_
        refine x_getr dX6_passTick_77 vc_X6 xin6 fb_X6_0 fl_X6_11 xr_X6_0 kk0 g2 ?_
        refine x_iload_n 1 dX6_passTick_80 rfl rfl ?_
        obtain ⟨c9, h⟩ := x_ck h
        refine x_aald (j := 0) dX6_passTick_81 (by decide) k3 (xb_at n4 c9) g6 ?_
        refine x_geti dX6_passTick_82 vc_X1 xin1 fb_X1_3 fl_X6_159 xr_X1_3 k7 ?_
        rcases x_if h with ⟨c10, h⟩ | ⟨c10, h⟩
        · refine x_if_le_t (tgt := 93) dX6_passTick_85 (by decide) c10 ?_
          refine x_iinc (L' := [(0, .ref p_0), (1, .int (v_1 + 1))]) 1 [1, 0] dX6_passTick_93 rfl rfl (by decide) rfl ?_
          refine x_goto (tgt := 56) dX6_passTick_96 (by decide) ?_
          exact ih p_0 (v_1 + 1) N kk0 h
        · refine x_if_le_f (tgt := 93) dX6_passTick_85 (by decide) c10 ?_
          refine x_aload_n 0 dX6_passTick_88 rfl rfl ?_
          refine x_iload_n 1 dX6_passTick_89 rfl rfl ?_
          obtain ⟨N12, q11, h⟩ := x_bd1 h
          refine x_cv (b := p_0) (As := [.int v_1]) (ci := 6) (d' := 3) (zz := yX6_doWork) dX6_passTick_90 ml_X6_186 wi_X6_doWork wv_X6_doWork wn_X6 wc_X6_doWork hp_X6_doWork (by decide) (by decide) rfl (Nat.le_of_ble_eq_true rfl) ⟨Nat.zero_le _, Nat.zero_le _⟩ rfl kk0 (T_X6_doWork (G := G) hw kk0 q11) ?_
          refine x_iinc (L' := [(0, .ref p_0), (1, .int (v_1 + 1))]) 1 [1, 0] dX6_passTick_93 rfl rfl (by decide) rfl ?_
          refine x_goto (tgt := 56) dX6_passTick_96 (by decide) ?_
          exact ih p_0 (v_1 + 1) N12 kk0 h
      · refine x_if_ne_t (tgt := 93) dX6_passTick_73 (by decide) c8 ?_
        refine x_iinc (L' := [(0, .ref p_0), (1, .int (v_1 + 1))]) 1 [1, 0] dX6_passTick_93 rfl rfl (by decide) rfl ?_
        refine x_goto (tgt := 56) dX6_passTick_96 (by decide) ?_
        exact ih p_0 (v_1 + 1) N kk0 h
set_option maxHeartbeats 4000000 in
set_option maxRecDepth 100000 in
theorem T_X6_passTick_2 {G : XG} {Y : XY} (hw : WT Y) {N9 : XN}: ∀ (D9 : Nat) (p_0 : Nat) (v_1 : Int32) (N : XN), kc Y p_0 = 16 → f_X6_passTick_2 Y D9 p_0 v_1 N = some N9 → Ex G yX6_passTick cX6_passTick 3 none (xR 6 0 0) (.inl none) Y N9 0 0 2 [(0, .ref p_0), (1, .int v_1)] [] Y N := by
  intro D9
  induction D9 with
  | zero => intro p_0 v_1 N kk0 h; exact nomatch (show none = some _ from h)
  | succ D9 ih =>
    intro p_0 v_1 N kk0 h
    rw [f_X6_passTick_2] at h
    refine x_iload_n 1 dX6_passTick_2 rfl rfl ?_
    refine x_aload_n 0 dX6_passTick_3 rfl rfl ?_
    refine x_geti dX6_passTick_4 vc_X6 xin6 fb_X6_5 fl_X6_53 xr_X6_5 kk0 ?_
    rcases x_if h with ⟨c1, h⟩ | ⟨c1, h⟩
    · refine x_icmp_ge_t (tgt := 54) dX6_passTick_7 (by decide) c1 ?_
      refine x_iconst (v := 0) dX6_passTick_54 rfl ?_
      refine x_istore_n (L' := [(0, .ref p_0), (1, .int 0)]) [1, 0] dX6_passTick_55 rfl (by decide) rfl ?_
      exact T_X6_passTick_56 (G := G) hw FU p_0 0 N kk0 h
    · refine x_icmp_ge_f (tgt := 54) dX6_passTick_7 (by decide) c1 ?_
      refine x_aload_n 0 dX6_passTick_10 rfl rfl ?_
      obtain ⟨g2, k3, n4⟩ := wt_X6_4 hw kk0
      refine x_getr dX6_passTick_11 vc_X6 xin6 fb_X6_4 fl_X6_25 xr_X6_4 kk0 g2 ?_
      refine x_iload_n 1 dX6_passTick_14 rfl rfl ?_
      obtain ⟨c5, h⟩ := x_ck h
      obtain ⟨g6, k7⟩ := wt_6 hw k3 (xb_at n4 c5)
      refine x_aald (j := 2) dX6_passTick_15 (by decide) k3 (xb_at n4 c5) g6 ?_
      refine x_geti dX6_passTick_16 vc_X3 xin3 fb_X3_3 fl_X6_100 xr_X3_3 k7 ?_
      rcases x_if h with ⟨c8, h⟩ | ⟨c8, h⟩
      · refine x_if_ne_f (tgt := 48) dX6_passTick_19 (by decide) c8 ?_
        refine x_aload_n 0 dX6_passTick_22 rfl rfl ?_
        refine x_getr dX6_passTick_23 vc_X6 xin6 fb_X6_4 fl_X6_25 xr_X6_4 kk0 g2 ?_
        refine x_iload_n 1 dX6_passTick_26 rfl rfl ?_
        obtain ⟨c9, h⟩ := x_ck h
        refine x_aald (j := 2) dX6_passTick_27 (by decide) k3 (xb_at n4 c9) g6 ?_
        refine x_geti dX6_passTick_28 vc_X3 xin3 fb_X3_1 fl_X6_124 xr_X3_1 k7 ?_
        refine x_aload_n 0 dX6_passTick_31 rfl rfl ?_
        refine x_geti dX6_passTick_32 vc_X6 xin6 fb_X6_6 fl_X6_56 xr_X6_6 kk0 ?_
        rcases x_if h with ⟨c10, h⟩ | ⟨c10, h⟩
        · refine x_icmp_ne_f (tgt := 48) dX6_passTick_35 (by decide) c10 ?_
          refine x_aload_n 0 dX6_passTick_38 rfl rfl ?_
          refine x_aload_n 0 dX6_passTick_39 rfl rfl ?_
          refine x_getr dX6_passTick_40 vc_X6 xin6 fb_X6_4 fl_X6_25 xr_X6_4 kk0 g2 ?_
          refine x_iload_n 1 dX6_passTick_43 rfl rfl ?_
          obtain ⟨c11, h⟩ := x_ck h
          refine x_aald (j := 2) dX6_passTick_44 (by decide) k3 (xb_at n4 c11) g6 ?_
          obtain ⟨N13, q12, h⟩ := x_bd1 h
          refine x_cv (b := p_0) (As := [.ref (gp Y (gp Y p_0 4) v_1.toNatClampNeg)]) (ci := 6) (d' := 3) (zz := yX6_openOrRefuse) dX6_passTick_45 ml_X6_183 wi_X6_openOrRefuse wv_X6_openOrRefuse wn_X6 wc_X6_openOrRefuse hp_X6_openOrRefuse (by decide) (by decide) rfl (Nat.le_of_ble_eq_true rfl) ⟨Nat.zero_le _, Nat.zero_le _⟩ rfl kk0 (T_X6_openOrRefuse (G := G) hw kk0 k7 q12) ?_
          refine x_iinc (L' := [(0, .ref p_0), (1, .int (v_1 + 1))]) 1 [1, 0] dX6_passTick_48 rfl rfl (by decide) rfl ?_
          refine x_goto (tgt := 2) dX6_passTick_51 (by decide) ?_
          exact ih p_0 (v_1 + 1) N13 kk0 h
        · refine x_icmp_ne_t (tgt := 48) dX6_passTick_35 (by decide) c10 ?_
          refine x_iinc (L' := [(0, .ref p_0), (1, .int (v_1 + 1))]) 1 [1, 0] dX6_passTick_48 rfl rfl (by decide) rfl ?_
          refine x_goto (tgt := 2) dX6_passTick_51 (by decide) ?_
          exact ih p_0 (v_1 + 1) N kk0 h
      · refine x_if_ne_t (tgt := 48) dX6_passTick_19 (by decide) c8 ?_
        refine x_iinc (L' := [(0, .ref p_0), (1, .int (v_1 + 1))]) 1 [1, 0] dX6_passTick_48 rfl rfl (by decide) rfl ?_
        refine x_goto (tgt := 2) dX6_passTick_51 (by decide) ?_
        exact ih p_0 (v_1 + 1) N kk0 h
set_option maxHeartbeats 4000000 in
set_option maxRecDepth 100000 in
theorem T_X6_passTick {G : XG} {Y : XY} (hw : WT Y) {a0 : Nat} {N : XN} (k100 : kc Y a0 = 16) {N9 : XN} (h : f_X6_passTick Y a0 N = some N9) : Cl G yX6_passTick cX6_passTick 3 none (xR 6 0 0) [.ref a0] (.inl none) Y N Y N9 := by
  refine x_entry (by decide) (Nat.le_of_ble_eq_true rfl) rfl ?_
  rw [f_X6_passTick] at h
  refine x_iconst (v := 0) dX6_passTick_0 rfl ?_
  refine x_istore_n (L' := [(0, .ref a0), (1, .int 0)]) [1, 0] dX6_passTick_1 rfl (by decide) rfl ?_
  exact T_X6_passTick_2 (G := G) hw FU a0 0 N k100 h
set_option maxHeartbeats 4000000 in
set_option maxRecDepth 100000 in
theorem T_X6_finesWithin_7 {G : XG} {Y : XY} (hw : WT Y) {r9 : Int32} {N9 : XN}: ∀ (D9 : Nat) (p_0 : Nat) (v_1 : Int32) (v_2 : Int32) (v_3 : Int32) (N : XN), kc Y p_0 = 16 → f_X6_finesWithin_7 Y D9 p_0 v_1 v_2 v_3 N = some (r9, N9) → Ex G yX6_finesWithin cX6_finesWithin 4 (some .int) (xR 7 0 0) (.inl (some (.int r9))) Y N9 0 0 7 [(0, .ref p_0), (1, .int v_1), (2, .int v_2), (3, .int v_3)] [] Y N := by
  intro D9
  induction D9 with
  | zero => intro p_0 v_1 v_2 v_3 N kk0 h; exact nomatch (show none = some _ from h)
  | succ D9 ih =>
    intro p_0 v_1 v_2 v_3 N kk0 h
    rw [f_X6_finesWithin_7] at h
    refine x_iload_n 3 dX6_finesWithin_7 rfl rfl ?_
    refine x_iload_n 1 dX6_finesWithin_8 rfl rfl ?_
    rcases x_if h with ⟨c1, h⟩ | ⟨c1, h⟩
    · refine x_icmp_ge_t (tgt := 22) dX6_finesWithin_9 (by decide) c1 ?_
      refine x_aload_n 0 dX6_finesWithin_22 rfl rfl ?_
      obtain ⟨r3, q2, h⟩ := x_bd1 h
      refine x_cv (b := p_0) (As := []) (ci := 6) (d' := 1) (zz := yX6_allFines) dX6_finesWithin_23 ml_X6_176 wi_X6_allFines wv_X6_allFines wn_X6 wc_X6_allFines hp_X6_allFines (by decide) (by decide) rfl (Nat.le_of_ble_eq_true rfl) ⟨Nat.zero_le _, Nat.zero_le _⟩ rfl kk0 (T_X6_allFines (G := G) hw kk0 q2) ?_
      refine x_iload_n 2 dX6_finesWithin_26 rfl rfl ?_
      refine x_isub dX6_finesWithin_27 ?_
      obtain ⟨rfl, rfl⟩ := Prod.mk.inj (x_so h)
      exact x_iret dX6_finesWithin_28 rfl rfl rfl
    · refine x_icmp_ge_f (tgt := 22) dX6_finesWithin_9 (by decide) c1 ?_
      refine x_aload_n 0 dX6_finesWithin_12 rfl rfl ?_
      obtain ⟨N5, q4, h⟩ := x_bd1 h
      refine x_cv (b := p_0) (As := []) (ci := 6) (d' := 6) (zz := yX6_passTick) dX6_finesWithin_13 ml_X6_180 wi_X6_passTick wv_X6_passTick wn_X6 wc_X6_passTick hp_X6_passTick (by decide) (by decide) rfl (Nat.le_of_ble_eq_true rfl) ⟨Nat.zero_le _, Nat.zero_le _⟩ rfl kk0 (T_X6_passTick (G := G) hw kk0 q4) ?_
      refine x_iinc (L' := [(0, .ref p_0), (1, .int v_1), (2, .int v_2), (3, .int (v_3 + 1))]) 3 [1, 2, 3, 0] dX6_finesWithin_16 rfl rfl (by decide) rfl ?_
      refine x_goto (tgt := 7) dX6_finesWithin_19 (by decide) ?_
      exact ih p_0 v_1 v_2 (v_3 + 1) N5 kk0 h
set_option maxHeartbeats 4000000 in
set_option maxRecDepth 100000 in
theorem T_X6_finesWithin {G : XG} {Y : XY} (hw : WT Y) {a0 : Nat} {a1 : Int32} {N : XN} (k100 : kc Y a0 = 16) {r9 : Int32} {N9 : XN} (h : f_X6_finesWithin Y a0 a1 N = some (r9, N9)) : Cl G yX6_finesWithin cX6_finesWithin 4 (some .int) (xR 7 0 0) [.ref a0, .int a1] (.inl (some (.int r9))) Y N Y N9 := by
  refine x_entry (by decide) (Nat.le_of_ble_eq_true rfl) rfl ?_
  rw [f_X6_finesWithin] at h
  refine x_aload_n 0 dX6_finesWithin_0 rfl rfl ?_
  obtain ⟨r2, q1, h⟩ := x_bd1 h
  refine x_cv (b := a0) (As := []) (ci := 6) (d' := 1) (zz := yX6_allFines) dX6_finesWithin_1 ml_X6_176 wi_X6_allFines wv_X6_allFines wn_X6 wc_X6_allFines hp_X6_allFines (by decide) (by decide) rfl (Nat.le_of_ble_eq_true rfl) ⟨Nat.zero_le _, Nat.zero_le _⟩ rfl k100 (T_X6_allFines (G := G) hw k100 q1) ?_
  refine x_istore_n (L' := [(0, .ref a0), (1, .int a1), (2, .int r2)]) [1, 2, 0] dX6_finesWithin_4 rfl (by decide) rfl ?_
  refine x_iconst (v := 0) dX6_finesWithin_5 rfl ?_
  refine x_istore_n (L' := [(0, .ref a0), (1, .int a1), (2, .int r2), (3, .int 0)]) [1, 2, 3, 0] dX6_finesWithin_6 rfl (by decide) rfl ?_
  exact T_X6_finesWithin_7 (G := G) hw FU a0 a1 r2 0 N k100 h

