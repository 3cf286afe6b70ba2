set_option maxHeartbeats 4000000 in
set_option maxRecDepth 100000 in
theorem T_X8_readLine_101 {G : XG} {Y : XY} (hw : WT Y) {N9 : XN}: ∀ (D9 : Nat) (p_0 : Nat) (v_5 : Int32) (v_6 : Int32) (N : XN), kc Y p_0 = 18 → f_X8_readLine_101 Y D9 p_0 v_5 v_6 N = some N9 → Ex G yX8_readLine cX8_readLine 8 none (xR 4 0 0) (.inl none) Y N9 0 0 101 [(0, .ref p_0), (5, .int v_5), (6, .int v_6)] [] Y N := by
  intro D9
  induction D9 with
  | zero => intro p_0 v_5 v_6 N kk0 h; exact nomatch (show none = some _ from h)
  | succ D9 ih =>
    intro p_0 v_5 v_6 N kk0 h
    rw [f_X8_readLine_101] at h
    refine x_aload_n 0 dX8_readLine_101 rfl rfl ?_
    refine x_cv (b := p_0) (As := []) (ci := 8) (d' := 1) (zz := yX8_isGood) dX8_readLine_102 ml_X8_71 wi_X8_isGood wv_X8_isGood wn_X8 wc_X8_isGood hp_X8_isGood (by decide) (by decide) rfl (Nat.le_of_ble_eq_true rfl) ⟨Nat.zero_le _, Nat.zero_le _⟩ rfl kk0 (T_X8_isGood (G := G) hw kk0 rfl) ?_
    rcases x_if h with ⟨c1, h⟩ | ⟨c1, h⟩
    · refine x_if_eq_t (tgt := 240) dX8_readLine_105 (by decide) c1 ?_
      refine x_aload_n 0 dX8_readLine_240 rfl rfl ?_
      obtain ⟨g2, k3, n4⟩ := wt_X8_9 hw kk0
      refine x_getr dX8_readLine_241 vc_X8 xin8 fb_X8_9 fl_X8_20 xr_X8_9 kk0 g2 ?_
      refine x_iconst (v := 2) dX8_readLine_244 rfl ?_
      refine x_dup2 dX8_readLine_245 rfl rfl ?_
      refine x_iald dX8_readLine_246 k3 (xb_at n4 xbl_2_1784) xl_2 ?_
      refine x_iconst (v := 1) dX8_readLine_247 rfl ?_
      refine x_iadd dX8_readLine_248 ?_
      refine x_iast dX8_readLine_249 k3 (xb_at n4 xbl_2_1784) xl_2 ?_
      obtain ⟨N5, eN5, h⟩ := x_lt h
      refine x_nmN eN5 ?_
      obtain rfl := x_so h
      exact x_vret dX8_readLine_250 rfl rfl rfl
    · refine x_if_eq_f (tgt := 240) dX8_readLine_105 (by decide) c1 ?_
      refine x_aload_n 0 dX8_readLine_108 rfl rfl ?_
      obtain ⟨r7, N8, q6, h⟩ := x_bd2 h
      refine x_cv (b := p_0) (As := []) (ci := 8) (d' := 2) (zz := yX8_next) dX8_readLine_109 ml_X8_75 wi_X8_next wv_X8_next wn_X8 wc_X8_next hp_X8_next (by decide) (by decide) rfl (Nat.le_of_ble_eq_true rfl) ⟨Nat.zero_le _, Nat.zero_le _⟩ rfl kk0 (T_X8_next (G := G) hw kk0 q6) ?_
      obtain ⟨r10, q9, h⟩ := x_bd1 h
      refine x_cs (As := [.int r7]) (d' := 2) (zz := yX8_isDigit) dX8_readLine_112 ml_X8_92 wt_X8_isDigit wn_X8 wc_X8_isDigit hp_X8_isDigit (by decide) (by decide) rfl (Nat.le_of_ble_eq_true rfl) ⟨Nat.zero_le _, Nat.zero_le _⟩ (T_X8_isDigit (G := G) hw  q9) ?_
      rcases x_if h with ⟨c11, h⟩ | ⟨c11, h⟩
      · refine x_if_eq_t (tgt := 240) dX8_readLine_115 (by decide) c11 ?_
        refine x_aload_n 0 dX8_readLine_240 rfl rfl ?_
        obtain ⟨g12, k13, n14⟩ := wt_X8_9 hw kk0
        refine x_getr dX8_readLine_241 vc_X8 xin8 fb_X8_9 fl_X8_20 xr_X8_9 kk0 g12 ?_
        refine x_iconst (v := 2) dX8_readLine_244 rfl ?_
        refine x_dup2 dX8_readLine_245 rfl rfl ?_
        refine x_iald dX8_readLine_246 k13 (xb_at n14 xbl_2_1784) xl_2 ?_
        refine x_iconst (v := 1) dX8_readLine_247 rfl ?_
        refine x_iadd dX8_readLine_248 ?_
        refine x_iast dX8_readLine_249 k13 (xb_at n14 xbl_2_1784) xl_2 ?_
        obtain ⟨N15, eN15, h⟩ := x_lt h
        refine x_nmN eN15 ?_
        obtain rfl := x_so h
        exact x_vret dX8_readLine_250 rfl rfl rfl
      · refine x_if_eq_f (tgt := 240) dX8_readLine_115 (by decide) c11 ?_
        refine x_aload_n 0 dX8_readLine_118 rfl rfl ?_
        refine x_iconst (v := 0) dX8_readLine_119 rfl ?_
        refine x_aload_n 0 dX8_readLine_120 rfl rfl ?_
        obtain ⟨g16, k17, n18⟩ := wt_X8_9 hw kk0
        refine x_getr dX8_readLine_121 vc_X8 xin8 fb_X8_9 fl_X8_20 xr_X8_9 kk0 g16 ?_
        refine x_iconst (v := 1) dX8_readLine_124 rfl ?_
        refine x_iald dX8_readLine_125 k17 (xb_at n18 xbl_1_1784) xl_1 ?_
        refine x_iconst (v := 1) dX8_readLine_126 rfl ?_
        refine x_isub dX8_readLine_127 ?_
        obtain ⟨r20, N21, q19, h⟩ := x_bd2 h
        refine x_cv (b := p_0) (As := [.int 0, .int ((gi N8 (gp Y p_0 9) 1) - 1)]) (ci := 8) (d' := 3) (zz := yX8_number) dX8_readLine_128 ml_X8_126 wi_X8_number wv_X8_number wn_X8 wc_X8_number hp_X8_number (by decide) (by decide) rfl (Nat.le_of_ble_eq_true rfl) ⟨Nat.zero_le _, Nat.zero_le _⟩ rfl kk0 (T_X8_number (G := G) hw kk0 q19) ?_
        refine x_istore (L' := [(0, .ref p_0), (5, .int v_5), (6, .int v_6), (7, .int r20)]) [1, 2, 3, 0] dX8_readLine_131 (by decide) rfl ?_
        refine x_aload_n 0 dX8_readLine_133 rfl rfl ?_
        refine x_cv (b := p_0) (As := []) (ci := 8) (d' := 1) (zz := yX8_isGood) dX8_readLine_134 ml_X8_71 wi_X8_isGood wv_X8_isGood wn_X8 wc_X8_isGood hp_X8_isGood (by decide) (by decide) rfl (Nat.le_of_ble_eq_true rfl) ⟨Nat.zero_le _, Nat.zero_le _⟩ rfl kk0 (T_X8_isGood (G := G) hw kk0 rfl) ?_
        rcases x_if h with ⟨c22, h⟩ | ⟨c22, h⟩
        · refine x_if_eq_t (tgt := 165) dX8_readLine_137 (by decide) c22 ?_
          refine x_aload_n 0 dX8_readLine_165 rfl rfl ?_
          refine x_cv (b := p_0) (As := []) (ci := 8) (d' := 1) (zz := yX8_isGood) dX8_readLine_166 ml_X8_71 wi_X8_isGood wv_X8_isGood wn_X8 wc_X8_isGood hp_X8_isGood (by decide) (by decide) rfl (Nat.le_of_ble_eq_true rfl) ⟨Nat.zero_le _, Nat.zero_le _⟩ rfl kk0 (T_X8_isGood (G := G) hw kk0 rfl) ?_
          rcases x_if h with ⟨c23, h⟩ | ⟨c23, h⟩
          · refine x_if_eq_t (tgt := 195) dX8_readLine_169 (by decide) c23 ?_
            refine x_aload_n 0 dX8_readLine_195 rfl rfl ?_
            refine x_cv (b := p_0) (As := []) (ci := 8) (d' := 1) (zz := yX8_isGood) dX8_readLine_196 ml_X8_71 wi_X8_isGood wv_X8_isGood wn_X8 wc_X8_isGood hp_X8_isGood (by decide) (by decide) rfl (Nat.le_of_ble_eq_true rfl) ⟨Nat.zero_le _, Nat.zero_le _⟩ rfl kk0 (T_X8_isGood (G := G) hw kk0 rfl) ?_
            rcases x_if h with ⟨c24, h⟩ | ⟨c24, h⟩
            · refine x_if_ne_f (tgt := 203) dX8_readLine_199 (by decide) c24 ?_
              obtain rfl := x_so h
              exact x_vret dX8_readLine_202 rfl rfl rfl
            · refine x_if_ne_t (tgt := 203) dX8_readLine_199 (by decide) c24 ?_
              refine x_aload_n 0 dX8_readLine_203 rfl rfl ?_
              refine x_getr dX8_readLine_204 vc_X8 xin8 fb_X8_9 fl_X8_20 xr_X8_9 kk0 g16 ?_
              refine x_iload 2 dX8_readLine_207 rfl ?_
              refine x_iconst (v := 4) dX8_readLine_209 rfl ?_
              refine x_iadd dX8_readLine_210 ?_
              refine x_aload_n 0 dX8_readLine_211 rfl rfl ?_
              refine x_getr dX8_readLine_212 vc_X8 xin8 fb_X8_9 fl_X8_20 xr_X8_9 kk0 g16 ?_
              refine x_iload 2 dX8_readLine_215 rfl ?_
              refine x_iconst (v := 3) dX8_readLine_217 rfl ?_
              refine x_iadd dX8_readLine_218 ?_
              obtain ⟨c25, h⟩ := x_ck h
              refine x_iald dX8_readLine_219 k17 (xb_at n18 c25) rfl ?_
              refine x_iadd dX8_readLine_220 ?_
              refine x_iload 3 dX8_readLine_221 rfl ?_
              obtain ⟨c26, h⟩ := x_ck h
              refine x_iast dX8_readLine_223 k17 (xb_at n18 c26) rfl ?_
              obtain ⟨N27, eN27, h⟩ := x_lt h
              refine x_nmN eN27 ?_
              refine x_aload_n 0 dX8_readLine_224 rfl rfl ?_
              refine x_getr dX8_readLine_225 vc_X8 xin8 fb_X8_9 fl_X8_20 xr_X8_9 kk0 g16 ?_
              refine x_iload 2 dX8_readLine_228 rfl ?_
              refine x_iconst (v := 3) dX8_readLine_230 rfl ?_
              refine x_iadd dX8_readLine_231 ?_
              refine x_dup2 dX8_readLine_232 rfl rfl ?_
              obtain ⟨c28, h⟩ := x_ck h
              refine x_iald dX8_readLine_233 k17 (xb_at n18 c28) rfl ?_
              refine x_iconst (v := 1) dX8_readLine_234 rfl ?_
              refine x_iadd dX8_readLine_235 ?_
              obtain ⟨c29, h⟩ := x_ck h
              refine x_iast dX8_readLine_236 k17 (xb_at n18 c29) rfl ?_
              obtain ⟨N30, eN30, h⟩ := x_lt h
              refine x_nmN eN30 ?_
              refine x_goto (tgt := 101) dX8_readLine_237 (by decide) ?_
              refine x_sub (L' := [(0, .ref p_0), (5, .int v_5), (6, .int v_6)]) [0, 1, 2] rfl ?_
              exact ih p_0 v_5 v_6 N30 kk0 h
          · refine x_if_eq_f (tgt := 195) dX8_readLine_169 (by decide) c23 ?_
            refine x_aload_n 0 dX8_readLine_172 rfl rfl ?_
            refine x_getr dX8_readLine_173 vc_X8 xin8 fb_X8_9 fl_X8_20 xr_X8_9 kk0 g16 ?_
            refine x_iload 2 dX8_readLine_176 rfl ?_
            refine x_iconst (v := 3) dX8_readLine_178 rfl ?_
            refine x_iadd dX8_readLine_179 ?_
            obtain ⟨c31, h⟩ := x_ck h
            refine x_iald dX8_readLine_180 k17 (xb_at n18 c31) rfl ?_
            refine x_iconst (v := 3) dX8_readLine_181 rfl ?_
            rcases x_if h with ⟨c32, h⟩ | ⟨c32, h⟩
            · refine x_icmp_ne_f (tgt := 195) dX8_readLine_182 (by decide) c32 ?_
              refine x_aload_n 0 dX8_readLine_185 rfl rfl ?_
              refine x_bipush (v := (-5)) dX8_readLine_186 rfl ?_
              refine x_aload_n 0 dX8_readLine_188 rfl rfl ?_
              refine x_geti dX8_readLine_189 vc_X8 xin8 fb_X8_14 fl_X8_96 xr_X8_14 kk0 ?_
              obtain ⟨N34, q33, h⟩ := x_bd1 h
              refine x_cv (b := p_0) (As := [.int (-5), .int (gi N21 p_0 14)]) (ci := 8) (d' := 1) (zz := yX8_report) dX8_readLine_192 ml_X8_88 wi_X8_report wv_X8_report wn_X8 wc_X8_report hp_X8_report (by decide) (by decide) rfl (Nat.le_of_ble_eq_true rfl) ⟨Nat.zero_le _, Nat.zero_le _⟩ rfl kk0 (T_X8_report (G := G) hw kk0 q33) ?_
              refine x_aload_n 0 dX8_readLine_195 rfl rfl ?_
              refine x_cv (b := p_0) (As := []) (ci := 8) (d' := 1) (zz := yX8_isGood) dX8_readLine_196 ml_X8_71 wi_X8_isGood wv_X8_isGood wn_X8 wc_X8_isGood hp_X8_isGood (by decide) (by decide) rfl (Nat.le_of_ble_eq_true rfl) ⟨Nat.zero_le _, Nat.zero_le _⟩ rfl kk0 (T_X8_isGood (G := G) hw kk0 rfl) ?_
              rcases x_if h with ⟨c35, h⟩ | ⟨c35, h⟩
              · refine x_if_ne_f (tgt := 203) dX8_readLine_199 (by decide) c35 ?_
                obtain rfl := x_so h
                exact x_vret dX8_readLine_202 rfl rfl rfl
              · refine x_if_ne_t (tgt := 203) dX8_readLine_199 (by decide) c35 ?_
                refine x_aload_n 0 dX8_readLine_203 rfl rfl ?_
                refine x_getr dX8_readLine_204 vc_X8 xin8 fb_X8_9 fl_X8_20 xr_X8_9 kk0 g16 ?_
                refine x_iload 2 dX8_readLine_207 rfl ?_
                refine x_iconst (v := 4) dX8_readLine_209 rfl ?_
                refine x_iadd dX8_readLine_210 ?_
                refine x_aload_n 0 dX8_readLine_211 rfl rfl ?_
                refine x_getr dX8_readLine_212 vc_X8 xin8 fb_X8_9 fl_X8_20 xr_X8_9 kk0 g16 ?_
                refine x_iload 2 dX8_readLine_215 rfl ?_
                refine x_iconst (v := 3) dX8_readLine_217 rfl ?_
                refine x_iadd dX8_readLine_218 ?_
                obtain ⟨c36, h⟩ := x_ck h
                refine x_iald dX8_readLine_219 k17 (xb_at n18 c36) rfl ?_
                refine x_iadd dX8_readLine_220 ?_
                refine x_iload 3 dX8_readLine_221 rfl ?_
                obtain ⟨c37, h⟩ := x_ck h
                refine x_iast dX8_readLine_223 k17 (xb_at n18 c37) rfl ?_
                obtain ⟨N38, eN38, h⟩ := x_lt h
                refine x_nmN eN38 ?_
                refine x_aload_n 0 dX8_readLine_224 rfl rfl ?_
                refine x_getr dX8_readLine_225 vc_X8 xin8 fb_X8_9 fl_X8_20 xr_X8_9 kk0 g16 ?_
                refine x_iload 2 dX8_readLine_228 rfl ?_
                refine x_iconst (v := 3) dX8_readLine_230 rfl ?_
                refine x_iadd dX8_readLine_231 ?_
                refine x_dup2 dX8_readLine_232 rfl rfl ?_
                obtain ⟨c39, h⟩ := x_ck h
                refine x_iald dX8_readLine_233 k17 (xb_at n18 c39) rfl ?_
                refine x_iconst (v := 1) dX8_readLine_234 rfl ?_
                refine x_iadd dX8_readLine_235 ?_
                obtain ⟨c40, h⟩ := x_ck h
                refine x_iast dX8_readLine_236 k17 (xb_at n18 c40) rfl ?_
                obtain ⟨N41, eN41, h⟩ := x_lt h
                refine x_nmN eN41 ?_
                refine x_goto (tgt := 101) dX8_readLine_237 (by decide) ?_
                refine x_sub (L' := [(0, .ref p_0), (5, .int v_5), (6, .int v_6)]) [0, 1, 2] rfl ?_
                exact ih p_0 v_5 v_6 N41 kk0 h
            · refine x_icmp_ne_t (tgt := 195) dX8_readLine_182 (by decide) c32 ?_
              refine x_aload_n 0 dX8_readLine_195 rfl rfl ?_
              refine x_cv (b := p_0) (As := []) (ci := 8) (d' := 1) (zz := yX8_isGood) dX8_readLine_196 ml_X8_71 wi_X8_isGood wv_X8_isGood wn_X8 wc_X8_isGood hp_X8_isGood (by decide) (by decide) rfl (Nat.le_of_ble_eq_true rfl) ⟨Nat.zero_le _, Nat.zero_le _⟩ rfl kk0 (T_X8_isGood (G := G) hw kk0 rfl) ?_
              rcases x_if h with ⟨c42, h⟩ | ⟨c42, h⟩
              · refine x_if_ne_f (tgt := 203) dX8_readLine_199 (by decide) c42 ?_
                obtain rfl := x_so h
                exact x_vret dX8_readLine_202 rfl rfl rfl
              · refine x_if_ne_t (tgt := 203) dX8_readLine_199 (by decide) c42 ?_
                refine x_aload_n 0 dX8_readLine_203 rfl rfl ?_
                refine x_getr dX8_readLine_204 vc_X8 xin8 fb_X8_9 fl_X8_20 xr_X8_9 kk0 g16 ?_
                refine x_iload 2 dX8_readLine_207 rfl ?_
                refine x_iconst (v := 4) dX8_readLine_209 rfl ?_
                refine x_iadd dX8_readLine_210 ?_
                refine x_aload_n 0 dX8_readLine_211 rfl rfl ?_
                refine x_getr dX8_readLine_212 vc_X8 xin8 fb_X8_9 fl_X8_20 xr_X8_9 kk0 g16 ?_
                refine x_iload 2 dX8_readLine_215 rfl ?_
                refine x_iconst (v := 3) dX8_readLine_217 rfl ?_
                refine x_iadd dX8_readLine_218 ?_
                obtain ⟨c43, h⟩ := x_ck h
                refine x_iald dX8_readLine_219 k17 (xb_at n18 c43) rfl ?_
                refine x_iadd dX8_readLine_220 ?_
                refine x_iload 3 dX8_readLine_221 rfl ?_
                obtain ⟨c44, h⟩ := x_ck h
                refine x_iast dX8_readLine_223 k17 (xb_at n18 c44) rfl ?_
                obtain ⟨N45, eN45, h⟩ := x_lt h
                refine x_nmN eN45 ?_
                refine x_aload_n 0 dX8_readLine_224 rfl rfl ?_
                refine x_getr dX8_readLine_225 vc_X8 xin8 fb_X8_9 fl_X8_20 xr_X8_9 kk0 g16 ?_
                refine x_iload 2 dX8_readLine_228 rfl ?_
                refine x_iconst (v := 3) dX8_readLine_230 rfl ?_
                refine x_iadd dX8_readLine_231 ?_
                refine x_dup2 dX8_readLine_232 rfl rfl ?_
                obtain ⟨c46, h⟩ := x_ck h
                refine x_iald dX8_readLine_233 k17 (xb_at n18 c46) rfl ?_
                refine x_iconst (v := 1) dX8_readLine_234 rfl ?_
                refine x_iadd dX8_readLine_235 ?_
                obtain ⟨c47, h⟩ := x_ck h
                refine x_iast dX8_readLine_236 k17 (xb_at n18 c47) rfl ?_
                obtain ⟨N48, eN48, h⟩ := x_lt h
                refine x_nmN eN48 ?_
                refine x_goto (tgt := 101) dX8_readLine_237 (by decide) ?_
                refine x_sub (L' := [(0, .ref p_0), (5, .int v_5), (6, .int v_6)]) [0, 1, 2] rfl ?_
                exact ih p_0 v_5 v_6 N48 kk0 h
        · refine x_if_eq_f (tgt := 165) dX8_readLine_137 (by decide) c22 ?_
          refine x_aload_n 0 dX8_readLine_140 rfl rfl ?_
          refine x_getr dX8_readLine_141 vc_X8 xin8 fb_X8_9 fl_X8_20 xr_X8_9 kk0 g16 ?_
          refine x_iload 1 dX8_readLine_144 rfl ?_
          refine x_iload 3 dX8_readLine_146 rfl ?_
          obtain ⟨r50, q49, h⟩ := x_bd1 h
          refine x_cs (As := [.ref (gp Y p_0 9), .int v_5, .int r20]) (d' := 1) (zz := yX8_tenantPlace) dX8_readLine_148 ml_X8_141 wt_X8_tenantPlace wn_X8 wc_X8_tenantPlace hp_X8_tenantPlace (by decide) (by decide) rfl (Nat.le_of_ble_eq_true rfl) ⟨Nat.zero_le _, Nat.zero_le _⟩ (T_X8_tenantPlace (G := G) hw k17 q49) ?_
          refine x_iconst (v := (-1)) dX8_readLine_151 rfl ?_
          rcases x_if h with ⟨c51, h⟩ | ⟨c51, h⟩
          · refine x_icmp_eq_t (tgt := 165) dX8_readLine_152 (by decide) c51 ?_
            refine x_aload_n 0 dX8_readLine_165 rfl rfl ?_
            refine x_cv (b := p_0) (As := []) (ci := 8) (d' := 1) (zz := yX8_isGood) dX8_readLine_166 ml_X8_71 wi_X8_isGood wv_X8_isGood wn_X8 wc_X8_isGood hp_X8_isGood (by decide) (by decide) rfl (Nat.le_of_ble_eq_true rfl) ⟨Nat.zero_le _, Nat.zero_le _⟩ rfl kk0 (T_X8_isGood (G := G) hw kk0 rfl) ?_
            rcases x_if h with ⟨c52, h⟩ | ⟨c52, h⟩
            · refine x_if_eq_t (tgt := 195) dX8_readLine_169 (by decide) c52 ?_
              refine x_aload_n 0 dX8_readLine_195 rfl rfl ?_
              refine x_cv (b := p_0) (As := []) (ci := 8) (d' := 1) (zz := yX8_isGood) dX8_readLine_196 ml_X8_71 wi_X8_isGood wv_X8_isGood wn_X8 wc_X8_isGood hp_X8_isGood (by decide) (by decide) rfl (Nat.le_of_ble_eq_true rfl) ⟨Nat.zero_le _, Nat.zero_le _⟩ rfl kk0 (T_X8_isGood (G := G) hw kk0 rfl) ?_
              rcases x_if h with ⟨c53, h⟩ | ⟨c53, h⟩
              · refine x_if_ne_f (tgt := 203) dX8_readLine_199 (by decide) c53 ?_
                obtain rfl := x_so h
                exact x_vret dX8_readLine_202 rfl rfl rfl
              · refine x_if_ne_t (tgt := 203) dX8_readLine_199 (by decide) c53 ?_
                refine x_aload_n 0 dX8_readLine_203 rfl rfl ?_
                refine x_getr dX8_readLine_204 vc_X8 xin8 fb_X8_9 fl_X8_20 xr_X8_9 kk0 g16 ?_
                refine x_iload 2 dX8_readLine_207 rfl ?_
                refine x_iconst (v := 4) dX8_readLine_209 rfl ?_
                refine x_iadd dX8_readLine_210 ?_
                refine x_aload_n 0 dX8_readLine_211 rfl rfl ?_
                refine x_getr dX8_readLine_212 vc_X8 xin8 fb_X8_9 fl_X8_20 xr_X8_9 kk0 g16 ?_
                refine x_iload 2 dX8_readLine_215 rfl ?_
                refine x_iconst (v := 3) dX8_readLine_217 rfl ?_
                refine x_iadd dX8_readLine_218 ?_
                obtain ⟨c54, h⟩ := x_ck h
                refine x_iald dX8_readLine_219 k17 (xb_at n18 c54) rfl ?_
                refine x_iadd dX8_readLine_220 ?_
                refine x_iload 3 dX8_readLine_221 rfl ?_
                obtain ⟨c55, h⟩ := x_ck h
                refine x_iast dX8_readLine_223 k17 (xb_at n18 c55) rfl ?_
                obtain ⟨N56, eN56, h⟩ := x_lt h
                refine x_nmN eN56 ?_
                refine x_aload_n 0 dX8_readLine_224 rfl rfl ?_
                refine x_getr dX8_readLine_225 vc_X8 xin8 fb_X8_9 fl_X8_20 xr_X8_9 kk0 g16 ?_
                refine x_iload 2 dX8_readLine_228 rfl ?_
                refine x_iconst (v := 3) dX8_readLine_230 rfl ?_
                refine x_iadd dX8_readLine_231 ?_
                refine x_dup2 dX8_readLine_232 rfl rfl ?_
                obtain ⟨c57, h⟩ := x_ck h
                refine x_iald dX8_readLine_233 k17 (xb_at n18 c57) rfl ?_
                refine x_iconst (v := 1) dX8_readLine_234 rfl ?_
                refine x_iadd dX8_readLine_235 ?_
                obtain ⟨c58, h⟩ := x_ck h
                refine x_iast dX8_readLine_236 k17 (xb_at n18 c58) rfl ?_
                obtain ⟨N59, eN59, h⟩ := x_lt h
                refine x_nmN eN59 ?_
                refine x_goto (tgt := 101) dX8_readLine_237 (by decide) ?_
                refine x_sub (L' := [(0, .ref p_0), (5, .int v_5), (6, .int v_6)]) [0, 1, 2] rfl ?_
                exact ih p_0 v_5 v_6 N59 kk0 h
            · refine x_if_eq_f (tgt := 195) dX8_readLine_169 (by decide) c52 ?_
              refine x_aload_n 0 dX8_readLine_172 rfl rfl ?_
              refine x_getr dX8_readLine_173 vc_X8 xin8 fb_X8_9 fl_X8_20 xr_X8_9 kk0 g16 ?_
              refine x_iload 2 dX8_readLine_176 rfl ?_
              refine x_iconst (v := 3) dX8_readLine_178 rfl ?_
              refine x_iadd dX8_readLine_179 ?_
              obtain ⟨c60, h⟩ := x_ck h
              refine x_iald dX8_readLine_180 k17 (xb_at n18 c60) rfl ?_
              refine x_iconst (v := 3) dX8_readLine_181 rfl ?_
              rcases x_if h with ⟨c61, h⟩ | ⟨c61, h⟩
              · refine x_icmp_ne_f (tgt := 195) dX8_readLine_182 (by decide) c61 ?_
                refine x_aload_n 0 dX8_readLine_185 rfl rfl ?_
                refine x_bipush (v := (-5)) dX8_readLine_186 rfl ?_
                refine x_aload_n 0 dX8_readLine_188 rfl rfl ?_
                refine x_geti dX8_readLine_189 vc_X8 xin8 fb_X8_14 fl_X8_96 xr_X8_14 kk0 ?_
                obtain ⟨N63, q62, h⟩ := x_bd1 h
                refine x_cv (b := p_0) (As := [.int (-5), .int (gi N21 p_0 14)]) (ci := 8) (d' := 1) (zz := yX8_report) dX8_readLine_192 ml_X8_88 wi_X8_report wv_X8_report wn_X8 wc_X8_report hp_X8_report (by decide) (by decide) rfl (Nat.le_of_ble_eq_true rfl) ⟨Nat.zero_le _, Nat.zero_le _⟩ rfl kk0 (T_X8_report (G := G) hw kk0 q62) ?_
                refine x_aload_n 0 dX8_readLine_195 rfl rfl ?_
                refine x_cv (b := p_0) (As := []) (ci := 8) (d' := 1) (zz := yX8_isGood) dX8_readLine_196 ml_X8_71 wi_X8_isGood wv_X8_isGood wn_X8 wc_X8_isGood hp_X8_isGood (by decide) (by decide) rfl (Nat.le_of_ble_eq_true rfl) ⟨Nat.zero_le _, Nat.zero_le _⟩ rfl kk0 (T_X8_isGood (G := G) hw kk0 rfl) ?_
                rcases x_if h with ⟨c64, h⟩ | ⟨c64, h⟩
                · refine x_if_ne_f (tgt := 203) dX8_readLine_199 (by decide) c64 ?_
                  obtain rfl := x_so h
                  exact x_vret dX8_readLine_202 rfl rfl rfl
                · refine x_if_ne_t (tgt := 203) dX8_readLine_199 (by decide) c64 ?_
                  refine x_aload_n 0 dX8_readLine_203 rfl rfl ?_
                  refine x_getr dX8_readLine_204 vc_X8 xin8 fb_X8_9 fl_X8_20 xr_X8_9 kk0 g16 ?_
                  refine x_iload 2 dX8_readLine_207 rfl ?_
                  refine x_iconst (v := 4) dX8_readLine_209 rfl ?_
                  refine x_iadd dX8_readLine_210 ?_
                  refine x_aload_n 0 dX8_readLine_211 rfl rfl ?_
                  refine x_getr dX8_readLine_212 vc_X8 xin8 fb_X8_9 fl_X8_20 xr_X8_9 kk0 g16 ?_
                  refine x_iload 2 dX8_readLine_215 rfl ?_
                  refine x_iconst (v := 3) dX8_readLine_217 rfl ?_
                  refine x_iadd dX8_readLine_218 ?_
                  obtain ⟨c65, h⟩ := x_ck h
                  refine x_iald dX8_readLine_219 k17 (xb_at n18 c65) rfl ?_
                  refine x_iadd dX8_readLine_220 ?_
                  refine x_iload 3 dX8_readLine_221 rfl ?_
                  obtain ⟨c66, h⟩ := x_ck h
                  refine x_iast dX8_readLine_223 k17 (xb_at n18 c66) rfl ?_
                  obtain ⟨N67, eN67, h⟩ := x_lt h
                  refine x_nmN eN67 ?_
                  refine x_aload_n 0 dX8_readLine_224 rfl rfl ?_
                  refine x_getr dX8_readLine_225 vc_X8 xin8 fb_X8_9 fl_X8_20 xr_X8_9 kk0 g16 ?_
                  refine x_iload 2 dX8_readLine_228 rfl ?_
                  refine x_iconst (v := 3) dX8_readLine_230 rfl ?_
                  refine x_iadd dX8_readLine_231 ?_
                  refine x_dup2 dX8_readLine_232 rfl rfl ?_
                  obtain ⟨c68, h⟩ := x_ck h
                  refine x_iald dX8_readLine_233 k17 (xb_at n18 c68) rfl ?_
                  refine x_iconst (v := 1) dX8_readLine_234 rfl ?_
                  refine x_iadd dX8_readLine_235 ?_
                  obtain ⟨c69, h⟩ := x_ck h
                  refine x_iast dX8_readLine_236 k17 (xb_at n18 c69) rfl ?_
                  obtain ⟨N70, eN70, h⟩ := x_lt h
                  refine x_nmN eN70 ?_
                  refine x_goto (tgt := 101) dX8_readLine_237 (by decide) ?_
                  refine x_sub (L' := [(0, .ref p_0), (5, .int v_5), (6, .int v_6)]) [0, 1, 2] rfl ?_
                  exact ih p_0 v_5 v_6 N70 kk0 h
              · refine x_icmp_ne_t (tgt := 195) dX8_readLine_182 (by decide) c61 ?_
                refine x_aload_n 0 dX8_readLine_195 rfl rfl ?_
                refine x_cv (b := p_0) (As := []) (ci := 8) (d' := 1) (zz := yX8_isGood) dX8_readLine_196 ml_X8_71 wi_X8_isGood wv_X8_isGood wn_X8 wc_X8_isGood hp_X8_isGood (by decide) (by decide) rfl (Nat.le_of_ble_eq_true rfl) ⟨Nat.zero_le _, Nat.zero_le _⟩ rfl kk0 (T_X8_isGood (G := G) hw kk0 rfl) ?_
                rcases x_if h with ⟨c71, h⟩ | ⟨c71, h⟩
                · refine x_if_ne_f (tgt := 203) dX8_readLine_199 (by decide) c71 ?_
                  obtain rfl := x_so h
                  exact x_vret dX8_readLine_202 rfl rfl rfl
                · refine x_if_ne_t (tgt := 203) dX8_readLine_199 (by decide) c71 ?_
                  refine x_aload_n 0 dX8_readLine_203 rfl rfl ?_
                  refine x_getr dX8_readLine_204 vc_X8 xin8 fb_X8_9 fl_X8_20 xr_X8_9 kk0 g16 ?_
                  refine x_iload 2 dX8_readLine_207 rfl ?_
                  refine x_iconst (v := 4) dX8_readLine_209 rfl ?_
                  refine x_iadd dX8_readLine_210 ?_
                  refine x_aload_n 0 dX8_readLine_211 rfl rfl ?_
                  refine x_getr dX8_readLine_212 vc_X8 xin8 fb_X8_9 fl_X8_20 xr_X8_9 kk0 g16 ?_
                  refine x_iload 2 dX8_readLine_215 rfl ?_
                  refine x_iconst (v := 3) dX8_readLine_217 rfl ?_
                  refine x_iadd dX8_readLine_218 ?_
                  obtain ⟨c72, h⟩ := x_ck h
                  refine x_iald dX8_readLine_219 k17 (xb_at n18 c72) rfl ?_
                  refine x_iadd dX8_readLine_220 ?_
                  refine x_iload 3 dX8_readLine_221 rfl ?_
                  obtain ⟨c73, h⟩ := x_ck h
                  refine x_iast dX8_readLine_223 k17 (xb_at n18 c73) rfl ?_
                  obtain ⟨N74, eN74, h⟩ := x_lt h
                  refine x_nmN eN74 ?_
                  refine x_aload_n 0 dX8_readLine_224 rfl rfl ?_
                  refine x_getr dX8_readLine_225 vc_X8 xin8 fb_X8_9 fl_X8_20 xr_X8_9 kk0 g16 ?_
                  refine x_iload 2 dX8_readLine_228 rfl ?_
                  refine x_iconst (v := 3) dX8_readLine_230 rfl ?_
                  refine x_iadd dX8_readLine_231 ?_
                  refine x_dup2 dX8_readLine_232 rfl rfl ?_
                  obtain ⟨c75, h⟩ := x_ck h
                  refine x_iald dX8_readLine_233 k17 (xb_at n18 c75) rfl ?_
                  refine x_iconst (v := 1) dX8_readLine_234 rfl ?_
                  refine x_iadd dX8_readLine_235 ?_
                  obtain ⟨c76, h⟩ := x_ck h
                  refine x_iast dX8_readLine_236 k17 (xb_at n18 c76) rfl ?_
                  obtain ⟨N77, eN77, h⟩ := x_lt h
                  refine x_nmN eN77 ?_
                  refine x_goto (tgt := 101) dX8_readLine_237 (by decide) ?_
                  refine x_sub (L' := [(0, .ref p_0), (5, .int v_5), (6, .int v_6)]) [0, 1, 2] rfl ?_
                  exact ih p_0 v_5 v_6 N77 kk0 h
          · refine x_icmp_eq_f (tgt := 165) dX8_readLine_152 (by decide) c51 ?_
            refine x_aload_n 0 dX8_readLine_155 rfl rfl ?_
            refine x_bipush (v := (-4)) dX8_readLine_156 rfl ?_
            refine x_aload_n 0 dX8_readLine_158 rfl rfl ?_
            refine x_geti dX8_readLine_159 vc_X8 xin8 fb_X8_14 fl_X8_96 xr_X8_14 kk0 ?_
            obtain ⟨N79, q78, h⟩ := x_bd1 h
            refine x_cv (b := p_0) (As := [.int (-4), .int (gi N21 p_0 14)]) (ci := 8) (d' := 1) (zz := yX8_report) dX8_readLine_162 ml_X8_88 wi_X8_report wv_X8_report wn_X8 wc_X8_report hp_X8_report (by decide) (by decide) rfl (Nat.le_of_ble_eq_true rfl) ⟨Nat.zero_le _, Nat.zero_le _⟩ rfl kk0 (T_X8_report (G := G) hw kk0 q78) ?_
            refine x_aload_n 0 dX8_readLine_165 rfl rfl ?_
            refine x_cv (b := p_0) (As := []) (ci := 8) (d' := 1) (zz := yX8_isGood) dX8_readLine_166 ml_X8_71 wi_X8_isGood wv_X8_isGood wn_X8 wc_X8_isGood hp_X8_isGood (by decide) (by decide) rfl (Nat.le_of_ble_eq_true rfl) ⟨Nat.zero_le _, Nat.zero_le _⟩ rfl kk0 (T_X8_isGood (G := G) hw kk0 rfl) ?_
            rcases x_if h with ⟨c80, h⟩ | ⟨c80, h⟩
            · refine x_if_eq_t (tgt := 195) dX8_readLine_169 (by decide) c80 ?_
              refine x_aload_n 0 dX8_readLine_195 rfl rfl ?_
              refine x_cv (b := p_0) (As := []) (ci := 8) (d' := 1) (zz := yX8_isGood) dX8_readLine_196 ml_X8_71 wi_X8_isGood wv_X8_isGood wn_X8 wc_X8_isGood hp_X8_isGood (by decide) (by decide) rfl (Nat.le_of_ble_eq_true rfl) ⟨Nat.zero_le _, Nat.zero_le _⟩ rfl kk0 (T_X8_isGood (G := G) hw kk0 rfl) ?_
              rcases x_if h with ⟨c81, h⟩ | ⟨c81, h⟩
              · refine x_if_ne_f (tgt := 203) dX8_readLine_199 (by decide) c81 ?_
                obtain rfl := x_so h
                exact x_vret dX8_readLine_202 rfl rfl rfl
              · refine x_if_ne_t (tgt := 203) dX8_readLine_199 (by decide) c81 ?_
                refine x_aload_n 0 dX8_readLine_203 rfl rfl ?_
                refine x_getr dX8_readLine_204 vc_X8 xin8 fb_X8_9 fl_X8_20 xr_X8_9 kk0 g16 ?_
                refine x_iload 2 dX8_readLine_207 rfl ?_
                refine x_iconst (v := 4) dX8_readLine_209 rfl ?_
                refine x_iadd dX8_readLine_210 ?_
                refine x_aload_n 0 dX8_readLine_211 rfl rfl ?_
                refine x_getr dX8_readLine_212 vc_X8 xin8 fb_X8_9 fl_X8_20 xr_X8_9 kk0 g16 ?_
                refine x_iload 2 dX8_readLine_215 rfl ?_
                refine x_iconst (v := 3) dX8_readLine_217 rfl ?_
                refine x_iadd dX8_readLine_218 ?_
                obtain ⟨c82, h⟩ := x_ck h
                refine x_iald dX8_readLine_219 k17 (xb_at n18 c82) rfl ?_
                refine x_iadd dX8_readLine_220 ?_
                refine x_iload 3 dX8_readLine_221 rfl ?_
                obtain ⟨c83, h⟩ := x_ck h
                refine x_iast dX8_readLine_223 k17 (xb_at n18 c83) rfl ?_
                obtain ⟨N84, eN84, h⟩ := x_lt h
                refine x_nmN eN84 ?_
                refine x_aload_n 0 dX8_readLine_224 rfl rfl ?_
                refine x_getr dX8_readLine_225 vc_X8 xin8 fb_X8_9 fl_X8_20 xr_X8_9 kk0 g16 ?_
                refine x_iload 2 dX8_readLine_228 rfl ?_
                refine x_iconst (v := 3) dX8_readLine_230 rfl ?_
                refine x_iadd dX8_readLine_231 ?_
                refine x_dup2 dX8_readLine_232 rfl rfl ?_
                obtain ⟨c85, h⟩ := x_ck h
                refine x_iald dX8_readLine_233 k17 (xb_at n18 c85) rfl ?_
                refine x_iconst (v := 1) dX8_readLine_234 rfl ?_
                refine x_iadd dX8_readLine_235 ?_
                obtain ⟨c86, h⟩ := x_ck h
                refine x_iast dX8_readLine_236 k17 (xb_at n18 c86) rfl ?_
                obtain ⟨N87, eN87, h⟩ := x_lt h
                refine x_nmN eN87 ?_
                refine x_goto (tgt := 101) dX8_readLine_237 (by decide) ?_
                refine x_sub (L' := [(0, .ref p_0), (5, .int v_5), (6, .int v_6)]) [0, 1, 2] rfl ?_
                exact ih p_0 v_5 v_6 N87 kk0 h
            · refine x_if_eq_f (tgt := 195) dX8_readLine_169 (by decide) c80 ?_
              refine x_aload_n 0 dX8_readLine_172 rfl rfl ?_
              refine x_getr dX8_readLine_173 vc_X8 xin8 fb_X8_9 fl_X8_20 xr_X8_9 kk0 g16 ?_
              refine x_iload 2 dX8_readLine_176 rfl ?_
              refine x_iconst (v := 3) dX8_readLine_178 rfl ?_
              refine x_iadd dX8_readLine_179 ?_
              obtain ⟨c88, h⟩ := x_ck h
              refine x_iald dX8_readLine_180 k17 (xb_at n18 c88) rfl ?_
              refine x_iconst (v := 3) dX8_readLine_181 rfl ?_
              rcases x_if h with ⟨c89, h⟩ | ⟨c89, h⟩
              · refine x_icmp_ne_f (tgt := 195) dX8_readLine_182 (by decide) c89 ?_
                refine x_aload_n 0 dX8_readLine_185 rfl rfl ?_
                refine x_bipush (v := (-5)) dX8_readLine_186 rfl ?_
                refine x_aload_n 0 dX8_readLine_188 rfl rfl ?_
                refine x_geti dX8_readLine_189 vc_X8 xin8 fb_X8_14 fl_X8_96 xr_X8_14 kk0 ?_
                obtain ⟨N91, q90, h⟩ := x_bd1 h
                refine x_cv (b := p_0) (As := [.int (-5), .int (gi N79 p_0 14)]) (ci := 8) (d' := 1) (zz := yX8_report) dX8_readLine_192 ml_X8_88 wi_X8_report wv_X8_report wn_X8 wc_X8_report hp_X8_report (by decide) (by decide) rfl (Nat.le_of_ble_eq_true rfl) ⟨Nat.zero_le _, Nat.zero_le _⟩ rfl kk0 (T_X8_report (G := G) hw kk0 q90) ?_
                refine x_aload_n 0 dX8_readLine_195 rfl rfl ?_
                refine x_cv (b := p_0) (As := []) (ci := 8) (d' := 1) (zz := yX8_isGood) dX8_readLine_196 ml_X8_71 wi_X8_isGood wv_X8_isGood wn_X8 wc_X8_isGood hp_X8_isGood (by decide) (by decide) rfl (Nat.le_of_ble_eq_true rfl) ⟨Nat.zero_le _, Nat.zero_le _⟩ rfl kk0 (T_X8_isGood (G := G) hw kk0 rfl) ?_
                rcases x_if h with ⟨c92, h⟩ | ⟨c92, h⟩
                · refine x_if_ne_f (tgt := 203) dX8_readLine_199 (by decide) c92 ?_
                  obtain rfl := x_so h
                  exact x_vret dX8_readLine_202 rfl rfl rfl
                · refine x_if_ne_t (tgt := 203) dX8_readLine_199 (by decide) c92 ?_
                  refine x_aload_n 0 dX8_readLine_203 rfl rfl ?_
                  refine x_getr dX8_readLine_204 vc_X8 xin8 fb_X8_9 fl_X8_20 xr_X8_9 kk0 g16 ?_
                  refine x_iload 2 dX8_readLine_207 rfl ?_
                  refine x_iconst (v := 4) dX8_readLine_209 rfl ?_
                  refine x_iadd dX8_readLine_210 ?_
                  refine x_aload_n 0 dX8_readLine_211 rfl rfl ?_
                  refine x_getr dX8_readLine_212 vc_X8 xin8 fb_X8_9 fl_X8_20 xr_X8_9 kk0 g16 ?_
                  refine x_iload 2 dX8_readLine_215 rfl ?_
                  refine x_iconst (v := 3) dX8_readLine_217 rfl ?_
                  refine x_iadd dX8_readLine_218 ?_
                  obtain ⟨c93, h⟩ := x_ck h
                  refine x_iald dX8_readLine_219 k17 (xb_at n18 c93) rfl ?_
                  refine x_iadd dX8_readLine_220 ?_
                  refine x_iload 3 dX8_readLine_221 rfl ?_
                  obtain ⟨c94, h⟩ := x_ck h
                  refine x_iast dX8_readLine_223 k17 (xb_at n18 c94) rfl ?_
                  obtain ⟨N95, eN95, h⟩ := x_lt h
                  refine x_nmN eN95 ?_
                  refine x_aload_n 0 dX8_readLine_224 rfl rfl ?_
                  refine x_getr dX8_readLine_225 vc_X8 xin8 fb_X8_9 fl_X8_20 xr_X8_9 kk0 g16 ?_
                  refine x_iload 2 dX8_readLine_228 rfl ?_
                  refine x_iconst (v := 3) dX8_readLine_230 rfl ?_
                  refine x_iadd dX8_readLine_231 ?_
                  refine x_dup2 dX8_readLine_232 rfl rfl ?_
                  obtain ⟨c96, h⟩ := x_ck h
                  refine x_iald dX8_readLine_233 k17 (xb_at n18 c96) rfl ?_
                  refine x_iconst (v := 1) dX8_readLine_234 rfl ?_
                  refine x_iadd dX8_readLine_235 ?_
                  obtain ⟨c97, h⟩ := x_ck h
                  refine x_iast dX8_readLine_236 k17 (xb_at n18 c97) rfl ?_
                  obtain ⟨N98, eN98, h⟩ := x_lt h
                  refine x_nmN eN98 ?_
                  refine x_goto (tgt := 101) dX8_readLine_237 (by decide) ?_
                  refine x_sub (L' := [(0, .ref p_0), (5, .int v_5), (6, .int v_6)]) [0, 1, 2] rfl ?_
                  exact ih p_0 v_5 v_6 N98 kk0 h
              · refine x_icmp_ne_t (tgt := 195) dX8_readLine_182 (by decide) c89 ?_
                refine x_aload_n 0 dX8_readLine_195 rfl rfl ?_
                refine x_cv (b := p_0) (As := []) (ci := 8) (d' := 1) (zz := yX8_isGood) dX8_readLine_196 ml_X8_71 wi_X8_isGood wv_X8_isGood wn_X8 wc_X8_isGood hp_X8_isGood (by decide) (by decide) rfl (Nat.le_of_ble_eq_true rfl) ⟨Nat.zero_le _, Nat.zero_le _⟩ rfl kk0 (T_X8_isGood (G := G) hw kk0 rfl) ?_
                rcases x_if h with ⟨c99, h⟩ | ⟨c99, h⟩
                · refine x_if_ne_f (tgt := 203) dX8_readLine_199 (by decide) c99 ?_
                  obtain rfl := x_so h
                  exact x_vret dX8_readLine_202 rfl rfl rfl
                · refine x_if_ne_t (tgt := 203) dX8_readLine_199 (by decide) c99 ?_
                  refine x_aload_n 0 dX8_readLine_203 rfl rfl ?_
                  refine x_getr dX8_readLine_204 vc_X8 xin8 fb_X8_9 fl_X8_20 xr_X8_9 kk0 g16 ?_
                  refine x_iload 2 dX8_readLine_207 rfl ?_
                  refine x_iconst (v := 4) dX8_readLine_209 rfl ?_
                  refine x_iadd dX8_readLine_210 ?_
                  refine x_aload_n 0 dX8_readLine_211 rfl rfl ?_
                  refine x_getr dX8_readLine_212 vc_X8 xin8 fb_X8_9 fl_X8_20 xr_X8_9 kk0 g16 ?_
                  refine x_iload 2 dX8_readLine_215 rfl ?_
                  refine x_iconst (v := 3) dX8_readLine_217 rfl ?_
                  refine x_iadd dX8_readLine_218 ?_
                  obtain ⟨c100, h⟩ := x_ck h
                  refine x_iald dX8_readLine_219 k17 (xb_at n18 c100) rfl ?_
                  refine x_iadd dX8_readLine_220 ?_
                  refine x_iload 3 dX8_readLine_221 rfl ?_
                  obtain ⟨c101, h⟩ := x_ck h
                  refine x_iast dX8_readLine_223 k17 (xb_at n18 c101) rfl ?_
                  obtain ⟨N102, eN102, h⟩ := x_lt h
                  refine x_nmN eN102 ?_
                  refine x_aload_n 0 dX8_readLine_224 rfl rfl ?_
                  refine x_getr dX8_readLine_225 vc_X8 xin8 fb_X8_9 fl_X8_20 xr_X8_9 kk0 g16 ?_
                  refine x_iload 2 dX8_readLine_228 rfl ?_
                  refine x_iconst (v := 3) dX8_readLine_230 rfl ?_
                  refine x_iadd dX8_readLine_231 ?_
                  refine x_dup2 dX8_readLine_232 rfl rfl ?_
                  obtain ⟨c103, h⟩ := x_ck h
                  refine x_iald dX8_readLine_233 k17 (xb_at n18 c103) rfl ?_
                  refine x_iconst (v := 1) dX8_readLine_234 rfl ?_
                  refine x_iadd dX8_readLine_235 ?_
                  obtain ⟨c104, h⟩ := x_ck h
                  refine x_iast dX8_readLine_236 k17 (xb_at n18 c104) rfl ?_
                  obtain ⟨N105, eN105, h⟩ := x_lt h
                  refine x_nmN eN105 ?_
                  refine x_goto (tgt := 101) dX8_readLine_237 (by decide) ?_
                  refine x_sub (L' := [(0, .ref p_0), (5, .int v_5), (6, .int v_6)]) [0, 1, 2] rfl ?_
                  exact ih p_0 v_5 v_6 N105 kk0 h
set_option maxHeartbeats 4000000 in
set_option maxRecDepth 100000 in
theorem T_X8_readLine {G : XG} {Y : XY} (hw : WT Y) {a0 : Nat} {a1 : Int32} {N : XN} (k100 : kc Y a0 = 18) {N9 : XN} (h : f_X8_readLine Y a0 a1 N = some N9) : Cl G yX8_readLine cX8_readLine 8 none (xR 4 0 0) [.ref a0, .int a1] (.inl none) Y N Y N9 := by
  refine x_entry (by decide) (Nat.le_of_ble_eq_true rfl) rfl ?_
  rw [f_X8_readLine] at h
  refine x_aload_n 0 dX8_readLine_0 rfl rfl ?_
  obtain ⟨g1, k2, n3⟩ := wt_X8_9 hw k100
  refine x_getr dX8_readLine_1 vc_X8 xin8 fb_X8_9 fl_X8_20 xr_X8_9 k100 g1 ?_
  refine x_iconst (v := 2) dX8_readLine_4 rfl ?_
  refine x_iald dX8_readLine_5 k2 (xb_at n3 xbl_2_1784) xl_2 ?_
  refine x_bipush (v := 8) dX8_readLine_6 rfl ?_
  rcases x_if h with ⟨c4, h⟩ | ⟨c4, h⟩
  · refine x_icmp_ne_f (tgt := 18) dX8_readLine_8 (by decide) c4 ?_
    refine x_aload_n 0 dX8_readLine_11 rfl rfl ?_
    refine x_bipush (v := (-5)) dX8_readLine_12 rfl ?_
    refine x_iload_n 1 dX8_readLine_14 rfl rfl ?_
    obtain ⟨N6, q5, h⟩ := x_bd1 h
    refine x_cv (b := a0) (As := [.int (-5), .int a1]) (ci := 8) (d' := 1) (zz := yX8_report) dX8_readLine_15 ml_X8_88 wi_X8_report wv_X8_report wn_X8 wc_X8_report hp_X8_report (by decide) (by decide) rfl (Nat.le_of_ble_eq_true rfl) ⟨Nat.zero_le _, Nat.zero_le _⟩ rfl k100 (T_X8_report (G := G) hw k100 q5) ?_
    refine x_aload_n 0 dX8_readLine_18 rfl rfl ?_
    refine x_iconst (v := 0) dX8_readLine_19 rfl ?_
    refine x_bipush (v := 99) dX8_readLine_20 rfl ?_
    obtain ⟨r8, N9, q7, h⟩ := x_bd2 h
    refine x_cv (b := a0) (As := [.int 0, .int 99]) (ci := 8) (d' := 3) (zz := yX8_number) dX8_readLine_22 ml_X8_126 wi_X8_number wv_X8_number wn_X8 wc_X8_number hp_X8_number (by decide) (by decide) rfl (Nat.le_of_ble_eq_true rfl) ⟨Nat.zero_le _, Nat.zero_le _⟩ rfl k100 (T_X8_number (G := G) hw k100 q7) ?_
    refine x_istore_n (L' := [(0, .ref a0), (2, .int r8)]) [1, 0] dX8_readLine_25 rfl (by decide) rfl ?_
    refine x_aload_n 0 dX8_readLine_26 rfl rfl ?_
    refine x_iconst (v := 1) dX8_readLine_27 rfl ?_
    refine x_bipush (v := 20) dX8_readLine_28 rfl ?_
    obtain ⟨r11, N12, q10, h⟩ := x_bd2 h
    refine x_cv (b := a0) (As := [.int 1, .int 20]) (ci := 8) (d' := 3) (zz := yX8_number) dX8_readLine_30 ml_X8_126 wi_X8_number wv_X8_number wn_X8 wc_X8_number hp_X8_number (by decide) (by decide) rfl (Nat.le_of_ble_eq_true rfl) ⟨Nat.zero_le _, Nat.zero_le _⟩ rfl k100 (T_X8_number (G := G) hw k100 q10) ?_
    refine x_istore_n (L' := [(0, .ref a0), (2, .int r8), (3, .int r11)]) [1, 2, 0] dX8_readLine_33 rfl (by decide) rfl ?_
    refine x_aload_n 0 dX8_readLine_34 rfl rfl ?_
    refine x_iconst (v := 0) dX8_readLine_35 rfl ?_
    refine x_sipush (v := 9999) dX8_readLine_36 rfl ?_
    obtain ⟨r14, N15, q13, h⟩ := x_bd2 h
    refine x_cv (b := a0) (As := [.int 0, .int 9999]) (ci := 8) (d' := 3) (zz := yX8_number) dX8_readLine_39 ml_X8_126 wi_X8_number wv_X8_number wn_X8 wc_X8_number hp_X8_number (by decide) (by decide) rfl (Nat.le_of_ble_eq_true rfl) ⟨Nat.zero_le _, Nat.zero_le _⟩ rfl k100 (T_X8_number (G := G) hw k100 q13) ?_
    refine x_istore (L' := [(0, .ref a0), (2, .int r8), (3, .int r11), (4, .int r14)]) [1, 2, 3, 0] dX8_readLine_42 (by decide) rfl ?_
    refine x_aload_n 0 dX8_readLine_44 rfl rfl ?_
    refine x_cv (b := a0) (As := []) (ci := 8) (d' := 1) (zz := yX8_isGood) dX8_readLine_45 ml_X8_71 wi_X8_isGood wv_X8_isGood wn_X8 wc_X8_isGood hp_X8_isGood (by decide) (by decide) rfl (Nat.le_of_ble_eq_true rfl) ⟨Nat.zero_le _, Nat.zero_le _⟩ rfl k100 (T_X8_isGood (G := G) hw k100 rfl) ?_
    rcases x_if h with ⟨c16, h⟩ | ⟨c16, h⟩
    · refine x_if_ne_f (tgt := 52) dX8_readLine_48 (by decide) c16 ?_
      obtain rfl := x_so h
      exact x_vret dX8_readLine_51 rfl rfl rfl
    · refine x_if_ne_t (tgt := 52) dX8_readLine_48 (by decide) c16 ?_
      refine x_aload_n 0 dX8_readLine_52 rfl rfl ?_
      refine x_getr dX8_readLine_53 vc_X8 xin8 fb_X8_9 fl_X8_20 xr_X8_9 k100 g1 ?_
      refine x_iconst (v := 2) dX8_readLine_56 rfl ?_
      refine x_iald dX8_readLine_57 k2 (xb_at n3 xbl_2_1784) xl_2 ?_
      refine x_istore (L' := [(0, .ref a0), (2, .int r8), (3, .int r11), (4, .int r14), (5, .int (gi N15 (gp Y a0 9) 2))]) [1, 2, 3, 4, 0] dX8_readLine_58 (by decide) rfl ?_
      refine x_bipush (v := 48) dX8_readLine_60 rfl ?_
      refine x_bipush (v := 7) dX8_readLine_62 rfl ?_
      refine x_iload 4 dX8_readLine_64 rfl ?_
      refine x_imul dX8_readLine_66 ?_
      refine x_iadd dX8_readLine_67 ?_
      obtain ⟨v17, ev17, h⟩ := x_lt h
      refine x_nmi ev17 ?_
      refine x_istore (L' := [(0, .ref a0), (2, .int r8), (3, .int r11), (4, .int r14), (5, .int (gi N15 (gp Y a0 9) 2)), (6, .int v17)]) [1, 2, 3, 4, 5, 0] dX8_readLine_68 (by decide) rfl ?_
      refine x_aload_n 0 dX8_readLine_70 rfl rfl ?_
      refine x_getr dX8_readLine_71 vc_X8 xin8 fb_X8_9 fl_X8_20 xr_X8_9 k100 g1 ?_
      refine x_iload 5 dX8_readLine_74 rfl ?_
      refine x_iconst (v := 0) dX8_readLine_76 rfl ?_
      refine x_iadd dX8_readLine_77 ?_
      refine x_iload_n 1 dX8_readLine_78 rfl rfl ?_
      obtain ⟨c18, h⟩ := x_ck h
      refine x_iast dX8_readLine_79 k2 (xb_at n3 c18) rfl ?_
      obtain ⟨N19, eN19, h⟩ := x_lt h
      refine x_nmN eN19 ?_
      refine x_aload_n 0 dX8_readLine_80 rfl rfl ?_
      refine x_getr dX8_readLine_81 vc_X8 xin8 fb_X8_9 fl_X8_20 xr_X8_9 k100 g1 ?_
      refine x_iload 5 dX8_readLine_84 rfl ?_
      refine x_iconst (v := 1) dX8_readLine_86 rfl ?_
      refine x_iadd dX8_readLine_87 ?_
      refine x_iload_n 2 dX8_readLine_88 rfl rfl ?_
      obtain ⟨c20, h⟩ := x_ck h
      refine x_iast dX8_readLine_89 k2 (xb_at n3 c20) rfl ?_
      obtain ⟨N21, eN21, h⟩ := x_lt h
      refine x_nmN eN21 ?_
      refine x_aload_n 0 dX8_readLine_90 rfl rfl ?_
      refine x_getr dX8_readLine_91 vc_X8 xin8 fb_X8_9 fl_X8_20 xr_X8_9 k100 g1 ?_
      refine x_iload 5 dX8_readLine_94 rfl ?_
      refine x_iconst (v := 2) dX8_readLine_96 rfl ?_
      refine x_iadd dX8_readLine_97 ?_
      refine x_iload 3 dX8_readLine_98 rfl ?_
      obtain ⟨c22, h⟩ := x_ck h
      refine x_iast dX8_readLine_100 k2 (xb_at n3 c22) rfl ?_
      obtain ⟨N23, eN23, h⟩ := x_lt h
      refine x_nmN eN23 ?_
      refine x_sub (L' := [(0, .ref a0), (5, .int (gi N15 (gp Y a0 9) 2)), (6, .int v17)]) [0, 4, 5] rfl ?_
      exact T_X8_readLine_101 (G := G) hw FU a0 (gi N15 (gp Y a0 9) 2) v17 N23 k100 h
  · refine x_icmp_ne_t (tgt := 18) dX8_readLine_8 (by decide) c4 ?_
    refine x_aload_n 0 dX8_readLine_18 rfl rfl ?_
    refine x_iconst (v := 0) dX8_readLine_19 rfl ?_
    refine x_bipush (v := 99) dX8_readLine_20 rfl ?_
    obtain ⟨r25, N26, q24, h⟩ := x_bd2 h
    refine x_cv (b := a0) (As := [.int 0, .int 99]) (ci := 8) (d' := 3) (zz := yX8_number) dX8_readLine_22 ml_X8_126 wi_X8_number wv_X8_number wn_X8 wc_X8_number hp_X8_number (by decide) (by decide) rfl (Nat.le_of_ble_eq_true rfl) ⟨Nat.zero_le _, Nat.zero_le _⟩ rfl k100 (T_X8_number (G := G) hw k100 q24) ?_
    refine x_istore_n (L' := [(0, .ref a0), (2, .int r25)]) [1, 0] dX8_readLine_25 rfl (by decide) rfl ?_
    refine x_aload_n 0 dX8_readLine_26 rfl rfl ?_
    refine x_iconst (v := 1) dX8_readLine_27 rfl ?_
    refine x_bipush (v := 20) dX8_readLine_28 rfl ?_
    obtain ⟨r28, N29, q27, h⟩ := x_bd2 h
    refine x_cv (b := a0) (As := [.int 1, .int 20]) (ci := 8) (d' := 3) (zz := yX8_number) dX8_readLine_30 ml_X8_126 wi_X8_number wv_X8_number wn_X8 wc_X8_number hp_X8_number (by decide) (by decide) rfl (Nat.le_of_ble_eq_true rfl) ⟨Nat.zero_le _, Nat.zero_le _⟩ rfl k100 (T_X8_number (G := G) hw k100 q27) ?_
    refine x_istore_n (L' := [(0, .ref a0), (2, .int r25), (3, .int r28)]) [1, 2, 0] dX8_readLine_33 rfl (by decide) rfl ?_
    refine x_aload_n 0 dX8_readLine_34 rfl rfl ?_
    refine x_iconst (v := 0) dX8_readLine_35 rfl ?_
    refine x_sipush (v := 9999) dX8_readLine_36 rfl ?_
    obtain ⟨r31, N32, q30, h⟩ := x_bd2 h
    refine x_cv (b := a0) (As := [.int 0, .int 9999]) (ci := 8) (d' := 3) (zz := yX8_number) dX8_readLine_39 ml_X8_126 wi_X8_number wv_X8_number wn_X8 wc_X8_number hp_X8_number (by decide) (by decide) rfl (Nat.le_of_ble_eq_true rfl) ⟨Nat.zero_le _, Nat.zero_le _⟩ rfl k100 (T_X8_number (G := G) hw k100 q30) ?_
    refine x_istore (L' := [(0, .ref a0), (2, .int r25), (3, .int r28), (4, .int r31)]) [1, 2, 3, 0] dX8_readLine_42 (by decide) rfl ?_
    refine x_aload_n 0 dX8_readLine_44 rfl rfl ?_
    refine x_cv (b := a0) (As := []) (ci := 8) (d' := 1) (zz := yX8_isGood) dX8_readLine_45 ml_X8_71 wi_X8_isGood wv_X8_isGood wn_X8 wc_X8_isGood hp_X8_isGood (by decide) (by decide) rfl (Nat.le_of_ble_eq_true rfl) ⟨Nat.zero_le _, Nat.zero_le _⟩ rfl k100 (T_X8_isGood (G := G) hw k100 rfl) ?_
    rcases x_if h with ⟨c33, h⟩ | ⟨c33, h⟩
    · refine x_if_ne_f (tgt := 52) dX8_readLine_48 (by decide) c33 ?_
      obtain rfl := x_so h
      exact x_vret dX8_readLine_51 rfl rfl rfl
    · refine x_if_ne_t (tgt := 52) dX8_readLine_48 (by decide) c33 ?_
      refine x_aload_n 0 dX8_readLine_52 rfl rfl ?_
      refine x_getr dX8_readLine_53 vc_X8 xin8 fb_X8_9 fl_X8_20 xr_X8_9 k100 g1 ?_
      refine x_iconst (v := 2) dX8_readLine_56 rfl ?_
      refine x_iald dX8_readLine_57 k2 (xb_at n3 xbl_2_1784) xl_2 ?_
      refine x_istore (L' := [(0, .ref a0), (2, .int r25), (3, .int r28), (4, .int r31), (5, .int (gi N32 (gp Y a0 9) 2))]) [1, 2, 3, 4, 0] dX8_readLine_58 (by decide) rfl ?_
      refine x_bipush (v := 48) dX8_readLine_60 rfl ?_
      refine x_bipush (v := 7) dX8_readLine_62 rfl ?_
      refine x_iload 4 dX8_readLine_64 rfl ?_
      refine x_imul dX8_readLine_66 ?_
      refine x_iadd dX8_readLine_67 ?_
      obtain ⟨v34, ev34, h⟩ := x_lt h
      refine x_nmi ev34 ?_
      refine x_istore (L' := [(0, .ref a0), (2, .int r25), (3, .int r28), (4, .int r31), (5, .int (gi N32 (gp Y a0 9) 2)), (6, .int v34)]) [1, 2, 3, 4, 5, 0] dX8_readLine_68 (by decide) rfl ?_
      refine x_aload_n 0 dX8_readLine_70 rfl rfl ?_
      refine x_getr dX8_readLine_71 vc_X8 xin8 fb_X8_9 fl_X8_20 xr_X8_9 k100 g1 ?_
      refine x_iload 5 dX8_readLine_74 rfl ?_
      refine x_iconst (v := 0) dX8_readLine_76 rfl ?_
      refine x_iadd dX8_readLine_77 ?_
      refine x_iload_n 1 dX8_readLine_78 rfl rfl ?_
      obtain ⟨c35, h⟩ := x_ck h
      refine x_iast dX8_readLine_79 k2 (xb_at n3 c35) rfl ?_
      obtain ⟨N36, eN36, h⟩ := x_lt h
      refine x_nmN eN36 ?_
      refine x_aload_n 0 dX8_readLine_80 rfl rfl ?_
      refine x_getr dX8_readLine_81 vc_X8 xin8 fb_X8_9 fl_X8_20 xr_X8_9 k100 g1 ?_
      refine x_iload 5 dX8_readLine_84 rfl ?_
      refine x_iconst (v := 1) dX8_readLine_86 rfl ?_
      refine x_iadd dX8_readLine_87 ?_
      refine x_iload_n 2 dX8_readLine_88 rfl rfl ?_
      obtain ⟨c37, h⟩ := x_ck h
      refine x_iast dX8_readLine_89 k2 (xb_at n3 c37) rfl ?_
      obtain ⟨N38, eN38, h⟩ := x_lt h
      refine x_nmN eN38 ?_
      refine x_aload_n 0 dX8_readLine_90 rfl rfl ?_
      refine x_getr dX8_readLine_91 vc_X8 xin8 fb_X8_9 fl_X8_20 xr_X8_9 k100 g1 ?_
      refine x_iload 5 dX8_readLine_94 rfl ?_
      refine x_iconst (v := 2) dX8_readLine_96 rfl ?_
      refine x_iadd dX8_readLine_97 ?_
      refine x_iload 3 dX8_readLine_98 rfl ?_
      obtain ⟨c39, h⟩ := x_ck h
      refine x_iast dX8_readLine_100 k2 (xb_at n3 c39) rfl ?_
      obtain ⟨N40, eN40, h⟩ := x_lt h
      refine x_nmN eN40 ?_
      refine x_sub (L' := [(0, .ref a0), (5, .int (gi N32 (gp Y a0 9) 2)), (6, .int v34)]) [0, 4, 5] rfl ?_
      exact T_X8_readLine_101 (G := G) hw FU a0 (gi N32 (gp Y a0 9) 2) v34 N40 k100 h
set_option maxHeartbeats 4000000 in
set_option maxRecDepth 100000 in
theorem T_X8_readRequest {G : XG} {Y : XY} (hw : WT Y) {a0 : Nat} {a1 : Int32} {N : XN} (k100 : kc Y a0 = 18) {N9 : XN} (h : f_X8_readRequest Y a0 a1 N = some N9) : Cl G yX8_readRequest cX8_readRequest 5 none (xR 4 0 0) [.ref a0, .int a1] (.inl none) Y N Y N9 := by
  refine x_entry (by decide) (Nat.le_of_ble_eq_true rfl) rfl ?_
  rw [f_X8_readRequest] at h
  refine x_aload_n 0 dX8_readRequest_0 rfl rfl ?_
  obtain ⟨g1, k2, n3⟩ := wt_X8_9 hw k100
  refine x_getr dX8_readRequest_1 vc_X8 xin8 fb_X8_9 fl_X8_20 xr_X8_9 k100 g1 ?_
  refine x_iconst (v := 3) dX8_readRequest_4 rfl ?_
  refine x_iald dX8_readRequest_5 k2 (xb_at n3 xbl_3_1784) xl_3 ?_
  refine x_bipush (v := 60) dX8_readRequest_6 rfl ?_
  rcases x_if h with ⟨c4, h⟩ | ⟨c4, h⟩
  · refine x_icmp_ne_f (tgt := 18) dX8_readRequest_8 (by decide) c4 ?_
    refine x_aload_n 0 dX8_readRequest_11 rfl rfl ?_
    refine x_bipush (v := (-5)) dX8_readRequest_12 rfl ?_
    refine x_iload_n 1 dX8_readRequest_14 rfl rfl ?_
    obtain ⟨N6, q5, h⟩ := x_bd1 h
    refine x_cv (b := a0) (As := [.int (-5), .int a1]) (ci := 8) (d' := 1) (zz := yX8_report) dX8_readRequest_15 ml_X8_88 wi_X8_report wv_X8_report wn_X8 wc_X8_report hp_X8_report (by decide) (by decide) rfl (Nat.le_of_ble_eq_true rfl) ⟨Nat.zero_le _, Nat.zero_le _⟩ rfl k100 (T_X8_report (G := G) hw k100 q5) ?_
    refine x_aload_n 0 dX8_readRequest_18 rfl rfl ?_
    refine x_iconst (v := 0) dX8_readRequest_19 rfl ?_
    refine x_aload_n 0 dX8_readRequest_20 rfl rfl ?_
    refine x_getr dX8_readRequest_21 vc_X8 xin8 fb_X8_9 fl_X8_20 xr_X8_9 k100 g1 ?_
    refine x_iconst (v := 2) dX8_readRequest_24 rfl ?_
    refine x_iald dX8_readRequest_25 k2 (xb_at n3 xbl_2_1784) xl_2 ?_
    refine x_iconst (v := 1) dX8_readRequest_26 rfl ?_
    refine x_isub dX8_readRequest_27 ?_
    obtain ⟨r8, N9, q7, h⟩ := x_bd2 h
    refine x_cv (b := a0) (As := [.int 0, .int ((gi N6 (gp Y a0 9) 2) - 1)]) (ci := 8) (d' := 3) (zz := yX8_number) dX8_readRequest_28 ml_X8_126 wi_X8_number wv_X8_number wn_X8 wc_X8_number hp_X8_number (by decide) (by decide) rfl (Nat.le_of_ble_eq_true rfl) ⟨Nat.zero_le _, Nat.zero_le _⟩ rfl k100 (T_X8_number (G := G) hw k100 q7) ?_
    refine x_istore_n (L' := [(0, .ref a0), (2, .int r8)]) [1, 0] dX8_readRequest_31 rfl (by decide) rfl ?_
    refine x_aload_n 0 dX8_readRequest_32 rfl rfl ?_
    refine x_iconst (v := 0) dX8_readRequest_33 rfl ?_
    refine x_sipush (v := 999) dX8_readRequest_34 rfl ?_
    obtain ⟨r11, N12, q10, h⟩ := x_bd2 h
    refine x_cv (b := a0) (As := [.int 0, .int 999]) (ci := 8) (d' := 3) (zz := yX8_number) dX8_readRequest_37 ml_X8_126 wi_X8_number wv_X8_number wn_X8 wc_X8_number hp_X8_number (by decide) (by decide) rfl (Nat.le_of_ble_eq_true rfl) ⟨Nat.zero_le _, Nat.zero_le _⟩ rfl k100 (T_X8_number (G := G) hw k100 q10) ?_
    refine x_istore_n (L' := [(0, .ref a0), (2, .int r8), (3, .int r11)]) [1, 2, 0] dX8_readRequest_40 rfl (by decide) rfl ?_
    refine x_aload_n 0 dX8_readRequest_41 rfl rfl ?_
    refine x_iconst (v := 1) dX8_readRequest_42 rfl ?_
    refine x_bipush (v := 99) dX8_readRequest_43 rfl ?_
    obtain ⟨r14, N15, q13, h⟩ := x_bd2 h
    refine x_cv (b := a0) (As := [.int 1, .int 99]) (ci := 8) (d' := 3) (zz := yX8_number) dX8_readRequest_45 ml_X8_126 wi_X8_number wv_X8_number wn_X8 wc_X8_number hp_X8_number (by decide) (by decide) rfl (Nat.le_of_ble_eq_true rfl) ⟨Nat.zero_le _, Nat.zero_le _⟩ rfl k100 (T_X8_number (G := G) hw k100 q13) ?_
    refine x_istore (L' := [(0, .ref a0), (2, .int r8), (3, .int r11), (4, .int r14)]) [1, 2, 3, 0] dX8_readRequest_48 (by decide) rfl ?_
    refine x_aload_n 0 dX8_readRequest_50 rfl rfl ?_
    refine x_cv (b := a0) (As := []) (ci := 8) (d' := 1) (zz := yX8_isGood) dX8_readRequest_51 ml_X8_71 wi_X8_isGood wv_X8_isGood wn_X8 wc_X8_isGood hp_X8_isGood (by decide) (by decide) rfl (Nat.le_of_ble_eq_true rfl) ⟨Nat.zero_le _, Nat.zero_le _⟩ rfl k100 (T_X8_isGood (G := G) hw k100 rfl) ?_
    rcases x_if h with ⟨c16, h⟩ | ⟨c16, h⟩
    · refine x_if_eq_t (tgt := 68) dX8_readRequest_54 (by decide) c16 ?_
      obtain rfl := x_so h
      exact x_vret dX8_readRequest_68 rfl rfl rfl
    · refine x_if_eq_f (tgt := 68) dX8_readRequest_54 (by decide) c16 ?_
      refine x_aload_n 0 dX8_readRequest_57 rfl rfl ?_
      refine x_getr dX8_readRequest_58 vc_X8 xin8 fb_X8_9 fl_X8_20 xr_X8_9 k100 g1 ?_
      refine x_iload_n 1 dX8_readRequest_61 rfl rfl ?_
      refine x_iload_n 2 dX8_readRequest_62 rfl rfl ?_
      refine x_iload 3 dX8_readRequest_63 rfl ?_
      obtain ⟨N18, q17, h⟩ := x_bd1 h
      refine x_cs (As := [.ref (gp Y a0 9), .int r8, .int r11, .int r14]) (d' := 1) (zz := yX8_putRequest) dX8_readRequest_65 ml_X8_145 wt_X8_putRequest wn_X8 wc_X8_putRequest hp_X8_putRequest (by decide) (by decide) rfl (Nat.le_of_ble_eq_true rfl) ⟨Nat.zero_le _, Nat.zero_le _⟩ (T_X8_putRequest (G := G) hw k2 q17) ?_
      obtain rfl := x_so h
      exact x_vret dX8_readRequest_68 rfl rfl rfl
  · refine x_icmp_ne_t (tgt := 18) dX8_readRequest_8 (by decide) c4 ?_
    refine x_aload_n 0 dX8_readRequest_18 rfl rfl ?_
    refine x_iconst (v := 0) dX8_readRequest_19 rfl ?_
    refine x_aload_n 0 dX8_readRequest_20 rfl rfl ?_
    refine x_getr dX8_readRequest_21 vc_X8 xin8 fb_X8_9 fl_X8_20 xr_X8_9 k100 g1 ?_
    refine x_iconst (v := 2) dX8_readRequest_24 rfl ?_
    refine x_iald dX8_readRequest_25 k2 (xb_at n3 xbl_2_1784) xl_2 ?_
    refine x_iconst (v := 1) dX8_readRequest_26 rfl ?_
    refine x_isub dX8_readRequest_27 ?_
    obtain ⟨r20, N21, q19, h⟩ := x_bd2 h
    refine x_cv (b := a0) (As := [.int 0, .int ((gi N (gp Y a0 9) 2) - 1)]) (ci := 8) (d' := 3) (zz := yX8_number) dX8_readRequest_28 ml_X8_126 wi_X8_number wv_X8_number wn_X8 wc_X8_number hp_X8_number (by decide) (by decide) rfl (Nat.le_of_ble_eq_true rfl) ⟨Nat.zero_le _, Nat.zero_le _⟩ rfl k100 (T_X8_number (G := G) hw k100 q19) ?_
    refine x_istore_n (L' := [(0, .ref a0), (2, .int r20)]) [1, 0] dX8_readRequest_31 rfl (by decide) rfl ?_
    refine x_aload_n 0 dX8_readRequest_32 rfl rfl ?_
    refine x_iconst (v := 0) dX8_readRequest_33 rfl ?_
    refine x_sipush (v := 999) dX8_readRequest_34 rfl ?_
    obtain ⟨r23, N24, q22, h⟩ := x_bd2 h
    refine x_cv (b := a0) (As := [.int 0, .int 999]) (ci := 8) (d' := 3) (zz := yX8_number) dX8_readRequest_37 ml_X8_126 wi_X8_number wv_X8_number wn_X8 wc_X8_number hp_X8_number (by decide) (by decide) rfl (Nat.le_of_ble_eq_true rfl) ⟨Nat.zero_le _, Nat.zero_le _⟩ rfl k100 (T_X8_number (G := G) hw k100 q22) ?_
    refine x_istore_n (L' := [(0, .ref a0), (2, .int r20), (3, .int r23)]) [1, 2, 0] dX8_readRequest_40 rfl (by decide) rfl ?_
    refine x_aload_n 0 dX8_readRequest_41 rfl rfl ?_
    refine x_iconst (v := 1) dX8_readRequest_42 rfl ?_
    refine x_bipush (v := 99) dX8_readRequest_43 rfl ?_
    obtain ⟨r26, N27, q25, h⟩ := x_bd2 h
    refine x_cv (b := a0) (As := [.int 1, .int 99]) (ci := 8) (d' := 3) (zz := yX8_number) dX8_readRequest_45 ml_X8_126 wi_X8_number wv_X8_number wn_X8 wc_X8_number hp_X8_number (by decide) (by decide) rfl (Nat.le_of_ble_eq_true rfl) ⟨Nat.zero_le _, Nat.zero_le _⟩ rfl k100 (T_X8_number (G := G) hw k100 q25) ?_
    refine x_istore (L' := [(0, .ref a0), (2, .int r20), (3, .int r23), (4, .int r26)]) [1, 2, 3, 0] dX8_readRequest_48 (by decide) rfl ?_
    refine x_aload_n 0 dX8_readRequest_50 rfl rfl ?_
    refine x_cv (b := a0) (As := []) (ci := 8) (d' := 1) (zz := yX8_isGood) dX8_readRequest_51 ml_X8_71 wi_X8_isGood wv_X8_isGood wn_X8 wc_X8_isGood hp_X8_isGood (by decide) (by decide) rfl (Nat.le_of_ble_eq_true rfl) ⟨Nat.zero_le _, Nat.zero_le _⟩ rfl k100 (T_X8_isGood (G := G) hw k100 rfl) ?_
    rcases x_if h with ⟨c28, h⟩ | ⟨c28, h⟩
    · refine x_if_eq_t (tgt := 68) dX8_readRequest_54 (by decide) c28 ?_
      obtain rfl := x_so h
      exact x_vret dX8_readRequest_68 rfl rfl rfl
    · refine x_if_eq_f (tgt := 68) dX8_readRequest_54 (by decide) c28 ?_
      refine x_aload_n 0 dX8_readRequest_57 rfl rfl ?_
      refine x_getr dX8_readRequest_58 vc_X8 xin8 fb_X8_9 fl_X8_20 xr_X8_9 k100 g1 ?_
      refine x_iload_n 1 dX8_readRequest_61 rfl rfl ?_
      refine x_iload_n 2 dX8_readRequest_62 rfl rfl ?_
      refine x_iload 3 dX8_readRequest_63 rfl ?_
      obtain ⟨N30, q29, h⟩ := x_bd1 h
      refine x_cs (As := [.ref (gp Y a0 9), .int r20, .int r23, .int r26]) (d' := 1) (zz := yX8_putRequest) dX8_readRequest_65 ml_X8_145 wt_X8_putRequest wn_X8 wc_X8_putRequest hp_X8_putRequest (by decide) (by decide) rfl (Nat.le_of_ble_eq_true rfl) ⟨Nat.zero_le _, Nat.zero_le _⟩ (T_X8_putRequest (G := G) hw k2 q29) ?_
      obtain rfl := x_so h
      exact x_vret dX8_readRequest_68 rfl rfl rfl
set_option maxHeartbeats 4000000 in
set_option maxRecDepth 100000 in
theorem T_X8_readOnce {G : XG} {Y : XY} (hw : WT Y) {a0 : Nat} {a1 : Int32} {a2 : Int32} {a3 : Int32} {a4 : Int32} {a5 : Int32} {N : XN} (k100 : kc Y a0 = 18) {N9 : XN} (h : f_X8_readOnce Y a0 a1 a2 a3 a4 a5 N = some N9) : Cl G yX8_readOnce cX8_readOnce 6 none (xR 4 0 0) [.ref a0, .int a1, .int a2, .int a3, .int a4, .int a5] (.inl none) Y N Y N9 := by
  refine x_entry (by decide) (Nat.le_of_ble_eq_true rfl) rfl ?_
  rw [f_X8_readOnce] at h
  refine x_aload_n 0 dX8_readOnce_0 rfl rfl ?_
  refine x_iload_n 1 dX8_readOnce_1 rfl rfl ?_
  refine x_iload_n 2 dX8_readOnce_2 rfl rfl ?_
  obtain ⟨N2, q1, h⟩ := x_bd1 h
  refine x_cv (b := a0) (As := [.int a1, .int a2]) (ci := 8) (d' := 2) (zz := yX8_once) dX8_readOnce_3 ml_X8_149 wi_X8_once wv_X8_once wn_X8 wc_X8_once hp_X8_once (by decide) (by decide) rfl (Nat.le_of_ble_eq_true rfl) ⟨Nat.zero_le _, Nat.zero_le _⟩ rfl k100 (T_X8_once (G := G) hw k100 q1) ?_
  refine x_aload_n 0 dX8_readOnce_6 rfl rfl ?_
  obtain ⟨g3, k4, n5⟩ := wt_X8_9 hw k100
  refine x_getr dX8_readOnce_7 vc_X8 xin8 fb_X8_9 fl_X8_20 xr_X8_9 k100 g3 ?_
  refine x_iload_n 3 dX8_readOnce_10 rfl rfl ?_
  refine x_aload_n 0 dX8_readOnce_11 rfl rfl ?_
  refine x_iload 4 dX8_readOnce_12 rfl ?_
  refine x_iload 5 dX8_readOnce_14 rfl ?_
  obtain ⟨r7, N8, q6, h⟩ := x_bd2 h
  refine x_cv (b := a0) (As := [.int a4, .int a5]) (ci := 8) (d' := 3) (zz := yX8_number) dX8_readOnce_16 ml_X8_126 wi_X8_number wv_X8_number wn_X8 wc_X8_number hp_X8_number (by decide) (by decide) rfl (Nat.le_of_ble_eq_true rfl) ⟨Nat.zero_le _, Nat.zero_le _⟩ rfl k100 (T_X8_number (G := G) hw k100 q6) ?_
  obtain ⟨c9, h⟩ := x_ck h
  refine x_iast dX8_readOnce_19 k4 (xb_at n5 c9) rfl ?_
  obtain ⟨N10, eN10, h⟩ := x_lt h
  refine x_nmN eN10 ?_
  obtain rfl := x_so h
  exact x_vret dX8_readOnce_20 rfl rfl rfl
set_option maxHeartbeats 4000000 in
set_option maxRecDepth 100000 in
theorem T_X8_statement {G : XG} {Y : XY} (hw : WT Y) {a0 : Nat} {N : XN} (k100 : kc Y a0 = 18) {N9 : XN} (h : f_X8_statement Y a0 N = some N9) : Cl G yX8_statement cX8_statement 2 none (xR 34 0 0) [.ref a0] (.inl none) Y N Y N9 := by
  refine x_entry (by decide) (Nat.le_of_ble_eq_true rfl) rfl ?_
  rw [f_X8_statement] at h
  refine x_aload_n 0 dX8_statement_0 rfl rfl ?_
  obtain ⟨r2, N3, q1, h⟩ := x_bd2 h
  refine x_cv (b := a0) (As := []) (ci := 8) (d' := 2) (zz := yX8_next) dX8_statement_1 ml_X8_75 wi_X8_next wv_X8_next wn_X8 wc_X8_next hp_X8_next (by decide) (by decide) rfl (Nat.le_of_ble_eq_true rfl) ⟨Nat.zero_le _, Nat.zero_le _⟩ rfl k100 (T_X8_next (G := G) hw k100 q1) ?_
  refine x_pop dX8_statement_4 rfl ?_
  refine x_aload_n 0 dX8_statement_5 rfl rfl ?_
  refine x_geti dX8_statement_6 vc_X8 xin8 fb_X8_4 fl_X8_54 xr_X8_4 k100 ?_
  refine x_istore_n (L' := [(0, .ref a0), (1, .int (gi N3 a0 4))]) [1, 0] dX8_statement_9 rfl (by decide) rfl ?_
  refine x_aload_n 0 dX8_statement_10 rfl rfl ?_
  refine x_ldcS (tx := "handler") (i := 1) dX8_statement_11 (by decide) ?_
  obtain ⟨r5, N6, q4, h⟩ := x_bd2 h
  refine x_cv (b := a0) (As := [.ref (xS G 1)]) (ci := 8) (d' := 8) (zz := yX8_takeWord) dX8_statement_13 ml_X8_116 wi_X8_takeWord wv_X8_takeWord wn_X8 wc_X8_takeWord hp_X8_takeWord (by decide) (by decide) rfl (Nat.le_of_ble_eq_true rfl) ⟨Nat.zero_le _, Nat.zero_le _⟩ rfl k100 (T_X8_takeWord (G := G) hw k100 q4) ?_
  rcases x_if h with ⟨c7, h⟩ | ⟨c7, h⟩
  · refine x_if_eq_t (tgt := 27) dX8_statement_16 (by decide) c7 ?_
    refine x_aload_n 0 dX8_statement_27 rfl rfl ?_
    refine x_ldcS (tx := "line") (i := 2) dX8_statement_28 (by decide) ?_
    obtain ⟨r9, N10, q8, h⟩ := x_bd2 h
    refine x_cv (b := a0) (As := [.ref (xS G 2)]) (ci := 8) (d' := 8) (zz := yX8_takeWord) dX8_statement_30 ml_X8_116 wi_X8_takeWord wv_X8_takeWord wn_X8 wc_X8_takeWord hp_X8_takeWord (by decide) (by decide) rfl (Nat.le_of_ble_eq_true rfl) ⟨Nat.zero_le _, Nat.zero_le _⟩ rfl k100 (T_X8_takeWord (G := G) hw k100 q8) ?_
    rcases x_if h with ⟨c11, h⟩ | ⟨c11, h⟩
    · refine x_if_eq_t (tgt := 44) dX8_statement_33 (by decide) c11 ?_
      refine x_aload_n 0 dX8_statement_44 rfl rfl ?_
      refine x_ldcS (tx := "raise") (i := 3) dX8_statement_45 (by decide) ?_
      obtain ⟨r13, N14, q12, h⟩ := x_bd2 h
      refine x_cv (b := a0) (As := [.ref (xS G 3)]) (ci := 8) (d' := 8) (zz := yX8_takeWord) dX8_statement_47 ml_X8_116 wi_X8_takeWord wv_X8_takeWord wn_X8 wc_X8_takeWord hp_X8_takeWord (by decide) (by decide) rfl (Nat.le_of_ble_eq_true rfl) ⟨Nat.zero_le _, Nat.zero_le _⟩ rfl k100 (T_X8_takeWord (G := G) hw k100 q12) ?_
      rcases x_if h with ⟨c15, h⟩ | ⟨c15, h⟩
      · refine x_if_eq_t (tgt := 61) dX8_statement_50 (by decide) c15 ?_
        refine x_aload_n 0 dX8_statement_61 rfl rfl ?_
        refine x_ldcS (tx := "patience") (i := 4) dX8_statement_62 (by decide) ?_
        obtain ⟨r17, N18, q16, h⟩ := x_bd2 h
        refine x_cv (b := a0) (As := [.ref (xS G 4)]) (ci := 8) (d' := 8) (zz := yX8_takeWord) dX8_statement_64 ml_X8_116 wi_X8_takeWord wv_X8_takeWord wn_X8 wc_X8_takeWord hp_X8_takeWord (by decide) (by decide) rfl (Nat.le_of_ble_eq_true rfl) ⟨Nat.zero_le _, Nat.zero_le _⟩ rfl k100 (T_X8_takeWord (G := G) hw k100 q16) ?_
        rcases x_if h with ⟨c19, h⟩ | ⟨c19, h⟩
        · refine x_if_eq_t (tgt := 83) dX8_statement_67 (by decide) c19 ?_
          refine x_aload_n 0 dX8_statement_83 rfl rfl ?_
          refine x_ldcS (tx := "window") (i := 5) dX8_statement_84 (by decide) ?_
          obtain ⟨r21, N22, q20, h⟩ := x_bd2 h
          refine x_cv (b := a0) (As := [.ref (xS G 5)]) (ci := 8) (d' := 8) (zz := yX8_takeWord) dX8_statement_86 ml_X8_116 wi_X8_takeWord wv_X8_takeWord wn_X8 wc_X8_takeWord hp_X8_takeWord (by decide) (by decide) rfl (Nat.le_of_ble_eq_true rfl) ⟨Nat.zero_le _, Nat.zero_le _⟩ rfl k100 (T_X8_takeWord (G := G) hw k100 q20) ?_
          rcases x_if h with ⟨c23, h⟩ | ⟨c23, h⟩
          · refine x_if_eq_t (tgt := 106) dX8_statement_89 (by decide) c23 ?_
            refine x_aload_n 0 dX8_statement_106 rfl rfl ?_
            refine x_ldcS (tx := "storm") (i := 6) dX8_statement_107 (by decide) ?_
            obtain ⟨r25, N26, q24, h⟩ := x_bd2 h
            refine x_cv (b := a0) (As := [.ref (xS G 6)]) (ci := 8) (d' := 8) (zz := yX8_takeWord) dX8_statement_109 ml_X8_116 wi_X8_takeWord wv_X8_takeWord wn_X8 wc_X8_takeWord hp_X8_takeWord (by decide) (by decide) rfl (Nat.le_of_ble_eq_true rfl) ⟨Nat.zero_le _, Nat.zero_le _⟩ rfl k100 (T_X8_takeWord (G := G) hw k100 q24) ?_
            rcases x_if h with ⟨c27, h⟩ | ⟨c27, h⟩
            · refine x_if_eq_t (tgt := 130) dX8_statement_112 (by decide) c27 ?_
              refine x_aload_n 0 dX8_statement_130 rfl rfl ?_
              refine x_ldcS (tx := "period") (i := 7) dX8_statement_131 (by decide) ?_
              obtain ⟨r29, N30, q28, h⟩ := x_bd2 h
              refine x_cv (b := a0) (As := [.ref (xS G 7)]) (ci := 8) (d' := 8) (zz := yX8_takeWord) dX8_statement_133 ml_X8_116 wi_X8_takeWord wv_X8_takeWord wn_X8 wc_X8_takeWord hp_X8_takeWord (by decide) (by decide) rfl (Nat.le_of_ble_eq_true rfl) ⟨Nat.zero_le _, Nat.zero_le _⟩ rfl k100 (T_X8_takeWord (G := G) hw k100 q28) ?_
              rcases x_if h with ⟨c31, h⟩ | ⟨c31, h⟩
              · refine x_if_eq_t (tgt := 153) dX8_statement_136 (by decide) c31 ?_
                refine x_aload_n 0 dX8_statement_153 rfl rfl ?_
                refine x_ldcS (tx := "wage") (i := 8) dX8_statement_154 (by decide) ?_
                obtain ⟨r33, N34, q32, h⟩ := x_bd2 h
                refine x_cv (b := a0) (As := [.ref (xS G 8)]) (ci := 8) (d' := 8) (zz := yX8_takeWord) dX8_statement_156 ml_X8_116 wi_X8_takeWord wv_X8_takeWord wn_X8 wc_X8_takeWord hp_X8_takeWord (by decide) (by decide) rfl (Nat.le_of_ble_eq_true rfl) ⟨Nat.zero_le _, Nat.zero_le _⟩ rfl k100 (T_X8_takeWord (G := G) hw k100 q32) ?_
                rcases x_if h with ⟨c35, h⟩ | ⟨c35, h⟩
                · refine x_if_eq_t (tgt := 176) dX8_statement_159 (by decide) c35 ?_
                  refine x_aload_n 0 dX8_statement_176 rfl rfl ?_
                  refine x_ldcS (tx := "fine") (i := 9) dX8_statement_177 (by decide) ?_
                  obtain ⟨r37, N38, q36, h⟩ := x_bd2 h
                  refine x_cv (b := a0) (As := [.ref (xS G 9)]) (ci := 8) (d' := 8) (zz := yX8_takeWord) dX8_statement_179 ml_X8_116 wi_X8_takeWord wv_X8_takeWord wn_X8 wc_X8_takeWord hp_X8_takeWord (by decide) (by decide) rfl (Nat.le_of_ble_eq_true rfl) ⟨Nat.zero_le _, Nat.zero_le _⟩ rfl k100 (T_X8_takeWord (G := G) hw k100 q36) ?_
                  rcases x_if h with ⟨c39, h⟩ | ⟨c39, h⟩
                  · refine x_if_eq_t (tgt := 206) dX8_statement_182 (by decide) c39 ?_
                    refine x_aload_n 0 dX8_statement_206 rfl rfl ?_
                    refine x_bipush (v := (-2)) dX8_statement_207 rfl ?_
                    refine x_iload_n 1 dX8_statement_209 rfl rfl ?_
                    obtain ⟨N41, q40, h⟩ := x_bd1 h
                    refine x_cv (b := a0) (As := [.int (-2), .int (gi N3 a0 4)]) (ci := 8) (d' := 1) (zz := yX8_report) dX8_statement_210 ml_X8_88 wi_X8_report wv_X8_report wn_X8 wc_X8_report hp_X8_report (by decide) (by decide) rfl (Nat.le_of_ble_eq_true rfl) ⟨Nat.zero_le _, Nat.zero_le _⟩ rfl k100 (T_X8_report (G := G) hw k100 q40) ?_
                    refine x_aload_n 0 dX8_statement_213 rfl rfl ?_
                    refine x_bipush (v := 59) dX8_statement_214 rfl ?_
                    obtain ⟨N43, q42, h⟩ := x_bd1 h
                    refine x_cv (b := a0) (As := [.int 59]) (ci := 8) (d' := 3) (zz := yX8_expect) dX8_statement_216 ml_X8_110 wi_X8_expect wv_X8_expect wn_X8 wc_X8_expect hp_X8_expect (by decide) (by decide) rfl (Nat.le_of_ble_eq_true rfl) ⟨Nat.zero_le _, Nat.zero_le _⟩ rfl k100 (T_X8_expect (G := G) hw k100 q42) ?_
                    obtain rfl := x_so h
                    exact x_vret dX8_statement_219 rfl rfl rfl
                  · refine x_if_eq_f (tgt := 206) dX8_statement_182 (by decide) c39 ?_
                    refine x_aload_n 0 dX8_statement_185 rfl rfl ?_
                    refine x_iconst (v := 5) dX8_statement_186 rfl ?_
                    refine x_iload_n 1 dX8_statement_187 rfl rfl ?_
                    obtain ⟨N45, q44, h⟩ := x_bd1 h
                    refine x_cv (b := a0) (As := [.int 5, .int (gi N3 a0 4)]) (ci := 8) (d' := 2) (zz := yX8_once) dX8_statement_188 ml_X8_149 wi_X8_once wv_X8_once wn_X8 wc_X8_once hp_X8_once (by decide) (by decide) rfl (Nat.le_of_ble_eq_true rfl) ⟨Nat.zero_le _, Nat.zero_le _⟩ rfl k100 (T_X8_once (G := G) hw k100 q44) ?_
                    refine x_aload_n 0 dX8_statement_191 rfl rfl ?_
                    obtain ⟨g46, k47, n48⟩ := wt_X8_9 hw k100
                    refine x_getr dX8_statement_192 vc_X8 xin8 fb_X8_9 fl_X8_20 xr_X8_9 k100 g46 ?_
                    refine x_bipush (v := 10) dX8_statement_195 rfl ?_
                    refine x_iconst (v := 1) dX8_statement_197 rfl ?_
                    refine x_iast dX8_statement_198 k47 (xb_at n48 xbl_10_1784) xl_10 ?_
                    obtain ⟨N49, eN49, h⟩ := x_lt h
                    refine x_nmN eN49 ?_
                    refine x_aload_n 0 dX8_statement_199 rfl rfl ?_
                    obtain ⟨N51, q50, h⟩ := x_bd1 h
                    refine x_cv (b := a0) (As := []) (ci := 8) (d' := 33) (zz := yX8_sum) dX8_statement_200 ml_X8_107 wi_X8_sum wv_X8_sum wn_X8 wc_X8_sum hp_X8_sum (by decide) (by decide) rfl (Nat.le_of_ble_eq_true rfl) ⟨Nat.zero_le _, Nat.zero_le _⟩ rfl k100 (T_X8_S0 (G := G) hw k100 24 q50) ?_
                    refine x_goto (tgt := 213) dX8_statement_203 (by decide) ?_
                    refine x_aload_n 0 dX8_statement_213 rfl rfl ?_
                    refine x_bipush (v := 59) dX8_statement_214 rfl ?_
                    obtain ⟨N53, q52, h⟩ := x_bd1 h
                    refine x_cv (b := a0) (As := [.int 59]) (ci := 8) (d' := 3) (zz := yX8_expect) dX8_statement_216 ml_X8_110 wi_X8_expect wv_X8_expect wn_X8 wc_X8_expect hp_X8_expect (by decide) (by decide) rfl (Nat.le_of_ble_eq_true rfl) ⟨Nat.zero_le _, Nat.zero_le _⟩ rfl k100 (T_X8_expect (G := G) hw k100 q52) ?_
                    obtain rfl := x_so h
                    exact x_vret dX8_statement_219 rfl rfl rfl
                · refine x_if_eq_f (tgt := 176) dX8_statement_159 (by decide) c35 ?_
                  refine x_aload_n 0 dX8_statement_162 rfl rfl ?_
                  refine x_iconst (v := 4) dX8_statement_163 rfl ?_
                  refine x_iload_n 1 dX8_statement_164 rfl rfl ?_
                  refine x_bipush (v := 9) dX8_statement_165 rfl ?_
                  refine x_iconst (v := 0) dX8_statement_167 rfl ?_
                  refine x_bipush (v := 99) dX8_statement_168 rfl ?_
                  obtain ⟨N55, q54, h⟩ := x_bd1 h
                  refine x_cv (b := a0) (As := [.int 4, .int (gi N3 a0 4), .int 9, .int 0, .int 99]) (ci := 8) (d' := 4) (zz := yX8_readOnce) dX8_statement_170 ml_X8_167 wi_X8_readOnce wv_X8_readOnce wn_X8 wc_X8_readOnce hp_X8_readOnce (by decide) (by decide) rfl (Nat.le_of_ble_eq_true rfl) ⟨Nat.zero_le _, Nat.zero_le _⟩ rfl k100 (T_X8_readOnce (G := G) hw k100 q54) ?_
                  refine x_goto (tgt := 213) dX8_statement_173 (by decide) ?_
                  refine x_aload_n 0 dX8_statement_213 rfl rfl ?_
                  refine x_bipush (v := 59) dX8_statement_214 rfl ?_
                  obtain ⟨N57, q56, h⟩ := x_bd1 h
                  refine x_cv (b := a0) (As := [.int 59]) (ci := 8) (d' := 3) (zz := yX8_expect) dX8_statement_216 ml_X8_110 wi_X8_expect wv_X8_expect wn_X8 wc_X8_expect hp_X8_expect (by decide) (by decide) rfl (Nat.le_of_ble_eq_true rfl) ⟨Nat.zero_le _, Nat.zero_le _⟩ rfl k100 (T_X8_expect (G := G) hw k100 q56) ?_
                  obtain rfl := x_so h
                  exact x_vret dX8_statement_219 rfl rfl rfl
              · refine x_if_eq_f (tgt := 153) dX8_statement_136 (by decide) c31 ?_
                refine x_aload_n 0 dX8_statement_139 rfl rfl ?_
                refine x_iconst (v := 3) dX8_statement_140 rfl ?_
                refine x_iload_n 1 dX8_statement_141 rfl rfl ?_
                refine x_bipush (v := 8) dX8_statement_142 rfl ?_
                refine x_iconst (v := 1) dX8_statement_144 rfl ?_
                refine x_bipush (v := 99) dX8_statement_145 rfl ?_
                obtain ⟨N59, q58, h⟩ := x_bd1 h
                refine x_cv (b := a0) (As := [.int 3, .int (gi N3 a0 4), .int 8, .int 1, .int 99]) (ci := 8) (d' := 4) (zz := yX8_readOnce) dX8_statement_147 ml_X8_167 wi_X8_readOnce wv_X8_readOnce wn_X8 wc_X8_readOnce hp_X8_readOnce (by decide) (by decide) rfl (Nat.le_of_ble_eq_true rfl) ⟨Nat.zero_le _, Nat.zero_le _⟩ rfl k100 (T_X8_readOnce (G := G) hw k100 q58) ?_
                refine x_goto (tgt := 213) dX8_statement_150 (by decide) ?_
                refine x_aload_n 0 dX8_statement_213 rfl rfl ?_
                refine x_bipush (v := 59) dX8_statement_214 rfl ?_
                obtain ⟨N61, q60, h⟩ := x_bd1 h
                refine x_cv (b := a0) (As := [.int 59]) (ci := 8) (d' := 3) (zz := yX8_expect) dX8_statement_216 ml_X8_110 wi_X8_expect wv_X8_expect wn_X8 wc_X8_expect hp_X8_expect (by decide) (by decide) rfl (Nat.le_of_ble_eq_true rfl) ⟨Nat.zero_le _, Nat.zero_le _⟩ rfl k100 (T_X8_expect (G := G) hw k100 q60) ?_
                obtain rfl := x_so h
                exact x_vret dX8_statement_219 rfl rfl rfl
            · refine x_if_eq_f (tgt := 130) dX8_statement_112 (by decide) c27 ?_
              refine x_aload_n 0 dX8_statement_115 rfl rfl ?_
              refine x_iconst (v := 2) dX8_statement_116 rfl ?_
              refine x_iload_n 1 dX8_statement_117 rfl rfl ?_
              refine x_bipush (v := 7) dX8_statement_118 rfl ?_
              refine x_iconst (v := 0) dX8_statement_120 rfl ?_
              refine x_sipush (v := 999) dX8_statement_121 rfl ?_
              obtain ⟨N63, q62, h⟩ := x_bd1 h
              refine x_cv (b := a0) (As := [.int 2, .int (gi N3 a0 4), .int 7, .int 0, .int 999]) (ci := 8) (d' := 4) (zz := yX8_readOnce) dX8_statement_124 ml_X8_167 wi_X8_readOnce wv_X8_readOnce wn_X8 wc_X8_readOnce hp_X8_readOnce (by decide) (by decide) rfl (Nat.le_of_ble_eq_true rfl) ⟨Nat.zero_le _, Nat.zero_le _⟩ rfl k100 (T_X8_readOnce (G := G) hw k100 q62) ?_
              refine x_goto (tgt := 213) dX8_statement_127 (by decide) ?_
              refine x_aload_n 0 dX8_statement_213 rfl rfl ?_
              refine x_bipush (v := 59) dX8_statement_214 rfl ?_
              obtain ⟨N65, q64, h⟩ := x_bd1 h
              refine x_cv (b := a0) (As := [.int 59]) (ci := 8) (d' := 3) (zz := yX8_expect) dX8_statement_216 ml_X8_110 wi_X8_expect wv_X8_expect wn_X8 wc_X8_expect hp_X8_expect (by decide) (by decide) rfl (Nat.le_of_ble_eq_true rfl) ⟨Nat.zero_le _, Nat.zero_le _⟩ rfl k100 (T_X8_expect (G := G) hw k100 q64) ?_
              obtain rfl := x_so h
              exact x_vret dX8_statement_219 rfl rfl rfl
          · refine x_if_eq_f (tgt := 106) dX8_statement_89 (by decide) c23 ?_
            refine x_aload_n 0 dX8_statement_92 rfl rfl ?_
            refine x_iconst (v := 1) dX8_statement_93 rfl ?_
            refine x_iload_n 1 dX8_statement_94 rfl rfl ?_
            refine x_bipush (v := 6) dX8_statement_95 rfl ?_
            refine x_iconst (v := 1) dX8_statement_97 rfl ?_
            refine x_bipush (v := 99) dX8_statement_98 rfl ?_
            obtain ⟨N67, q66, h⟩ := x_bd1 h
            refine x_cv (b := a0) (As := [.int 1, .int (gi N3 a0 4), .int 6, .int 1, .int 99]) (ci := 8) (d' := 4) (zz := yX8_readOnce) dX8_statement_100 ml_X8_167 wi_X8_readOnce wv_X8_readOnce wn_X8 wc_X8_readOnce hp_X8_readOnce (by decide) (by decide) rfl (Nat.le_of_ble_eq_true rfl) ⟨Nat.zero_le _, Nat.zero_le _⟩ rfl k100 (T_X8_readOnce (G := G) hw k100 q66) ?_
            refine x_goto (tgt := 213) dX8_statement_103 (by decide) ?_
            refine x_aload_n 0 dX8_statement_213 rfl rfl ?_
            refine x_bipush (v := 59) dX8_statement_214 rfl ?_
            obtain ⟨N69, q68, h⟩ := x_bd1 h
            refine x_cv (b := a0) (As := [.int 59]) (ci := 8) (d' := 3) (zz := yX8_expect) dX8_statement_216 ml_X8_110 wi_X8_expect wv_X8_expect wn_X8 wc_X8_expect hp_X8_expect (by decide) (by decide) rfl (Nat.le_of_ble_eq_true rfl) ⟨Nat.zero_le _, Nat.zero_le _⟩ rfl k100 (T_X8_expect (G := G) hw k100 q68) ?_
            obtain rfl := x_so h
            exact x_vret dX8_statement_219 rfl rfl rfl
        · refine x_if_eq_f (tgt := 83) dX8_statement_67 (by decide) c19 ?_
          refine x_aload_n 0 dX8_statement_70 rfl rfl ?_
          refine x_iconst (v := 0) dX8_statement_71 rfl ?_
          refine x_iload_n 1 dX8_statement_72 rfl rfl ?_
          refine x_iconst (v := 5) dX8_statement_73 rfl ?_
          refine x_iconst (v := 1) dX8_statement_74 rfl ?_
          refine x_bipush (v := 99) dX8_statement_75 rfl ?_
          obtain ⟨N71, q70, h⟩ := x_bd1 h
          refine x_cv (b := a0) (As := [.int 0, .int (gi N3 a0 4), .int 5, .int 1, .int 99]) (ci := 8) (d' := 4) (zz := yX8_readOnce) dX8_statement_77 ml_X8_167 wi_X8_readOnce wv_X8_readOnce wn_X8 wc_X8_readOnce hp_X8_readOnce (by decide) (by decide) rfl (Nat.le_of_ble_eq_true rfl) ⟨Nat.zero_le _, Nat.zero_le _⟩ rfl k100 (T_X8_readOnce (G := G) hw k100 q70) ?_
          refine x_goto (tgt := 213) dX8_statement_80 (by decide) ?_
          refine x_aload_n 0 dX8_statement_213 rfl rfl ?_
          refine x_bipush (v := 59) dX8_statement_214 rfl ?_
          obtain ⟨N73, q72, h⟩ := x_bd1 h
          refine x_cv (b := a0) (As := [.int 59]) (ci := 8) (d' := 3) (zz := yX8_expect) dX8_statement_216 ml_X8_110 wi_X8_expect wv_X8_expect wn_X8 wc_X8_expect hp_X8_expect (by decide) (by decide) rfl (Nat.le_of_ble_eq_true rfl) ⟨Nat.zero_le _, Nat.zero_le _⟩ rfl k100 (T_X8_expect (G := G) hw k100 q72) ?_
          obtain rfl := x_so h
          exact x_vret dX8_statement_219 rfl rfl rfl
      · refine x_if_eq_f (tgt := 61) dX8_statement_50 (by decide) c15 ?_
        refine x_aload_n 0 dX8_statement_53 rfl rfl ?_
        refine x_iload_n 1 dX8_statement_54 rfl rfl ?_
        obtain ⟨N75, q74, h⟩ := x_bd1 h
        refine x_cv (b := a0) (As := [.int (gi N3 a0 4)]) (ci := 8) (d' := 4) (zz := yX8_readRequest) dX8_statement_55 ml_X8_162 wi_X8_readRequest wv_X8_readRequest wn_X8 wc_X8_readRequest hp_X8_readRequest (by decide) (by decide) rfl (Nat.le_of_ble_eq_true rfl) ⟨Nat.zero_le _, Nat.zero_le _⟩ rfl k100 (T_X8_readRequest (G := G) hw k100 q74) ?_
        refine x_goto (tgt := 213) dX8_statement_58 (by decide) ?_
        refine x_aload_n 0 dX8_statement_213 rfl rfl ?_
        refine x_bipush (v := 59) dX8_statement_214 rfl ?_
        obtain ⟨N77, q76, h⟩ := x_bd1 h
        refine x_cv (b := a0) (As := [.int 59]) (ci := 8) (d' := 3) (zz := yX8_expect) dX8_statement_216 ml_X8_110 wi_X8_expect wv_X8_expect wn_X8 wc_X8_expect hp_X8_expect (by decide) (by decide) rfl (Nat.le_of_ble_eq_true rfl) ⟨Nat.zero_le _, Nat.zero_le _⟩ rfl k100 (T_X8_expect (G := G) hw k100 q76) ?_
        obtain rfl := x_so h
        exact x_vret dX8_statement_219 rfl rfl rfl
    · refine x_if_eq_f (tgt := 44) dX8_statement_33 (by decide) c11 ?_
      refine x_aload_n 0 dX8_statement_36 rfl rfl ?_
      refine x_iload_n 1 dX8_statement_37 rfl rfl ?_
      obtain ⟨N79, q78, h⟩ := x_bd1 h
      refine x_cv (b := a0) (As := [.int (gi N3 a0 4)]) (ci := 8) (d' := 4) (zz := yX8_readLine) dX8_statement_38 ml_X8_157 wi_X8_readLine wv_X8_readLine wn_X8 wc_X8_readLine hp_X8_readLine (by decide) (by decide) rfl (Nat.le_of_ble_eq_true rfl) ⟨Nat.zero_le _, Nat.zero_le _⟩ rfl k100 (T_X8_readLine (G := G) hw k100 q78) ?_
      refine x_goto (tgt := 213) dX8_statement_41 (by decide) ?_
      refine x_aload_n 0 dX8_statement_213 rfl rfl ?_
      refine x_bipush (v := 59) dX8_statement_214 rfl ?_
      obtain ⟨N81, q80, h⟩ := x_bd1 h
      refine x_cv (b := a0) (As := [.int 59]) (ci := 8) (d' := 3) (zz := yX8_expect) dX8_statement_216 ml_X8_110 wi_X8_expect wv_X8_expect wn_X8 wc_X8_expect hp_X8_expect (by decide) (by decide) rfl (Nat.le_of_ble_eq_true rfl) ⟨Nat.zero_le _, Nat.zero_le _⟩ rfl k100 (T_X8_expect (G := G) hw k100 q80) ?_
      obtain rfl := x_so h
      exact x_vret dX8_statement_219 rfl rfl rfl
  · refine x_if_eq_f (tgt := 27) dX8_statement_16 (by decide) c7 ?_
    refine x_aload_n 0 dX8_statement_19 rfl rfl ?_
    refine x_iload_n 1 dX8_statement_20 rfl rfl ?_
    obtain ⟨N83, q82, h⟩ := x_bd1 h
    refine x_cv (b := a0) (As := [.int (gi N3 a0 4)]) (ci := 8) (d' := 4) (zz := yX8_readHandler) dX8_statement_21 ml_X8_154 wi_X8_readHandler wv_X8_readHandler wn_X8 wc_X8_readHandler hp_X8_readHandler (by decide) (by decide) rfl (Nat.le_of_ble_eq_true rfl) ⟨Nat.zero_le _, Nat.zero_le _⟩ rfl k100 (T_X8_readHandler (G := G) hw k100 q82) ?_
    refine x_goto (tgt := 213) dX8_statement_24 (by decide) ?_
    refine x_aload_n 0 dX8_statement_213 rfl rfl ?_
    refine x_bipush (v := 59) dX8_statement_214 rfl ?_
    obtain ⟨N85, q84, h⟩ := x_bd1 h
    refine x_cv (b := a0) (As := [.int 59]) (ci := 8) (d' := 3) (zz := yX8_expect) dX8_statement_216 ml_X8_110 wi_X8_expect wv_X8_expect wn_X8 wc_X8_expect hp_X8_expect (by decide) (by decide) rfl (Nat.le_of_ble_eq_true rfl) ⟨Nat.zero_le _, Nat.zero_le _⟩ rfl k100 (T_X8_expect (G := G) hw k100 q84) ?_
    obtain rfl := x_so h
    exact x_vret dX8_statement_219 rfl rfl rfl
set_option maxHeartbeats 4000000 in
set_option maxRecDepth 100000 in
theorem T_X8_load_99 {G : XG} {Y : XY} (hw : WT Y) {r9 : Int32} {N9 : XN}: ∀ (D9 : Nat) (p_0 : Nat) (N : XN), kc Y p_0 = 18 → f_X8_load_99 Y D9 p_0 N = some (r9, N9) → Ex G yX8_load cX8_load 2 (some .int) (xR 35 0 0) (.inl (some (.int r9))) Y N9 0 0 99 [(0, .ref p_0)] [] Y N := by
  intro D9
  induction D9 with
  | zero => intro p_0 N kk0 h; exact nomatch (show none = some _ from h)
  | succ D9 ih =>
    intro p_0 N kk0 h
    rw [f_X8_load_99] at h
    refine x_aload_n 0 dX8_load_99 rfl rfl ?_
    refine x_cv (b := p_0) (As := []) (ci := 8) (d' := 1) (zz := yX8_isGood) dX8_load_100 ml_X8_71 wi_X8_isGood wv_X8_isGood wn_X8 wc_X8_isGood hp_X8_isGood (by decide) (by decide) rfl (Nat.le_of_ble_eq_true rfl) ⟨Nat.zero_le _, Nat.zero_le _⟩ rfl kk0 (T_X8_isGood (G := G) hw kk0 rfl) ?_
    rcases x_if h with ⟨c1, h⟩ | ⟨c1, h⟩
    · refine x_if_eq_t (tgt := 121) dX8_load_103 (by decide) c1 ?_
      refine x_aload_n 0 dX8_load_121 rfl rfl ?_
      refine x_aload_n 0 dX8_load_122 rfl rfl ?_
      refine x_geti dX8_load_123 vc_X8 xin8 fb_X8_6 fl_X8_64 xr_X8_6 kk0 ?_
      refine x_puti dX8_load_126 vc_X8 xin8 tyX8_ok nmX8 fb_X8_7 fl_X8_13 ff_X8_7 xr_X8_7 (nf_X8_7 _) (ft_X8_7 _) kk0 ?_
      obtain ⟨N2, eN2, h⟩ := x_lt h
      refine x_nmN eN2 ?_
      refine x_aload_n 0 dX8_load_129 rfl rfl ?_
      refine x_cv (b := p_0) (As := []) (ci := 8) (d' := 1) (zz := yX8_isGood) dX8_load_130 ml_X8_71 wi_X8_isGood wv_X8_isGood wn_X8 wc_X8_isGood hp_X8_isGood (by decide) (by decide) rfl (Nat.le_of_ble_eq_true rfl) ⟨Nat.zero_le _, Nat.zero_le _⟩ rfl kk0 (T_X8_isGood (G := G) hw kk0 rfl) ?_
      rcases x_if h with ⟨c3, h⟩ | ⟨c3, h⟩
      · refine x_if_ne_f (tgt := 141) dX8_load_133 (by decide) c3 ?_
        refine x_aload_n 0 dX8_load_136 rfl rfl ?_
        refine x_geti dX8_load_137 vc_X8 xin8 fb_X8_5 fl_X8_61 xr_X8_5 kk0 ?_
        obtain ⟨rfl, rfl⟩ := Prod.mk.inj (x_so h)
        exact x_iret dX8_load_140 rfl rfl rfl
      · refine x_if_ne_t (tgt := 141) dX8_load_133 (by decide) c3 ?_
        refine x_aload_n 0 dX8_load_141 rfl rfl ?_
        obtain ⟨N5, q4, h⟩ := x_bd1 h
        refine x_cv (b := p_0) (As := []) (ci := 8) (d' := 2) (zz := yX8_remember) dX8_load_142 ml_X8_190 wi_X8_remember wv_X8_remember wn_X8 wc_X8_remember hp_X8_remember (by decide) (by decide) rfl (Nat.le_of_ble_eq_true rfl) ⟨Nat.zero_le _, Nat.zero_le _⟩ rfl kk0 (T_X8_remember (G := G) hw kk0 q4) ?_
        refine x_aload_n 0 dX8_load_145 rfl rfl ?_
        obtain ⟨g6, k7, n8⟩ := wt_X8_9 hw kk0
        refine x_getr dX8_load_146 vc_X8 xin8 fb_X8_9 fl_X8_20 xr_X8_9 kk0 g6 ?_
        refine x_aload_n 0 dX8_load_149 rfl rfl ?_
        obtain ⟨g9, k10, n11⟩ := wt_X8_8 hw kk0
        refine x_getr dX8_load_150 vc_X8 xin8 fb_X8_8 fl_X8_17 xr_X8_8 kk0 g9 ?_
        refine x_sipush (v := 1784) dX8_load_153 rfl ?_
        obtain ⟨N13, q12, h⟩ := x_bd1 h
        refine x_cs (As := [.ref (gp Y p_0 9), .ref (gp Y p_0 8), .int 1784]) (d' := 1) (zz := yX8_copy) dX8_load_156 ml_X8_193 wt_X8_copy wn_X8 wc_X8_copy hp_X8_copy (by decide) (by decide) rfl (Nat.le_of_ble_eq_true rfl) ⟨Nat.zero_le _, Nat.zero_le _⟩ (T_X8_copy (G := G) hw k7 k10 q12) ?_
        refine x_aload_n 0 dX8_load_159 rfl rfl ?_
        refine x_getr dX8_load_160 vc_X8 xin8 fb_X8_8 fl_X8_17 xr_X8_8 kk0 g9 ?_
        refine x_iconst (v := 3) dX8_load_163 rfl ?_
        refine x_iald dX8_load_164 k10 (xb_at n11 xbl_3_1784) xl_3 ?_
        obtain ⟨rfl, rfl⟩ := Prod.mk.inj (x_so h)
        exact x_iret dX8_load_165 rfl rfl rfl
    · refine x_if_eq_f (tgt := 121) dX8_load_103 (by decide) c1 ?_
      refine x_aload_n 0 dX8_load_106 rfl rfl ?_
      obtain ⟨r15, N16, q14, h⟩ := x_bd2 h
      refine x_cv (b := p_0) (As := []) (ci := 8) (d' := 2) (zz := yX8_next) dX8_load_107 ml_X8_75 wi_X8_next wv_X8_next wn_X8 wc_X8_next hp_X8_next (by decide) (by decide) rfl (Nat.le_of_ble_eq_true rfl) ⟨Nat.zero_le _, Nat.zero_le _⟩ rfl kk0 (T_X8_next (G := G) hw kk0 q14) ?_
      refine x_iconst (v := (-1)) dX8_load_110 rfl ?_
      rcases x_if h with ⟨c17, h⟩ | ⟨c17, h⟩
      · refine x_icmp_eq_t (tgt := 121) dX8_load_111 (by decide) c17 ?_
        refine x_aload_n 0 dX8_load_121 rfl rfl ?_
        refine x_aload_n 0 dX8_load_122 rfl rfl ?_
        refine x_geti dX8_load_123 vc_X8 xin8 fb_X8_6 fl_X8_64 xr_X8_6 kk0 ?_
        refine x_puti dX8_load_126 vc_X8 xin8 tyX8_ok nmX8 fb_X8_7 fl_X8_13 ff_X8_7 xr_X8_7 (nf_X8_7 _) (ft_X8_7 _) kk0 ?_
        obtain ⟨N18, eN18, h⟩ := x_lt h
        refine x_nmN eN18 ?_
        refine x_aload_n 0 dX8_load_129 rfl rfl ?_
        refine x_cv (b := p_0) (As := []) (ci := 8) (d' := 1) (zz := yX8_isGood) dX8_load_130 ml_X8_71 wi_X8_isGood wv_X8_isGood wn_X8 wc_X8_isGood hp_X8_isGood (by decide) (by decide) rfl (Nat.le_of_ble_eq_true rfl) ⟨Nat.zero_le _, Nat.zero_le _⟩ rfl kk0 (T_X8_isGood (G := G) hw kk0 rfl) ?_
        rcases x_if h with ⟨c19, h⟩ | ⟨c19, h⟩
        · refine x_if_ne_f (tgt := 141) dX8_load_133 (by decide) c19 ?_
          refine x_aload_n 0 dX8_load_136 rfl rfl ?_
          refine x_geti dX8_load_137 vc_X8 xin8 fb_X8_5 fl_X8_61 xr_X8_5 kk0 ?_
          obtain ⟨rfl, rfl⟩ := Prod.mk.inj (x_so h)
          exact x_iret dX8_load_140 rfl rfl rfl
        · refine x_if_ne_t (tgt := 141) dX8_load_133 (by decide) c19 ?_
          refine x_aload_n 0 dX8_load_141 rfl rfl ?_
          obtain ⟨N21, q20, h⟩ := x_bd1 h
          refine x_cv (b := p_0) (As := []) (ci := 8) (d' := 2) (zz := yX8_remember) dX8_load_142 ml_X8_190 wi_X8_remember wv_X8_remember wn_X8 wc_X8_remember hp_X8_remember (by decide) (by decide) rfl (Nat.le_of_ble_eq_true rfl) ⟨Nat.zero_le _, Nat.zero_le _⟩ rfl kk0 (T_X8_remember (G := G) hw kk0 q20) ?_
          refine x_aload_n 0 dX8_load_145 rfl rfl ?_
          obtain ⟨g22, k23, n24⟩ := wt_X8_9 hw kk0
          refine x_getr dX8_load_146 vc_X8 xin8 fb_X8_9 fl_X8_20 xr_X8_9 kk0 g22 ?_
          refine x_aload_n 0 dX8_load_149 rfl rfl ?_
          obtain ⟨g25, k26, n27⟩ := wt_X8_8 hw kk0
          refine x_getr dX8_load_150 vc_X8 xin8 fb_X8_8 fl_X8_17 xr_X8_8 kk0 g25 ?_
          refine x_sipush (v := 1784) dX8_load_153 rfl ?_
          obtain ⟨N29, q28, h⟩ := x_bd1 h
          refine x_cs (As := [.ref (gp Y p_0 9), .ref (gp Y p_0 8), .int 1784]) (d' := 1) (zz := yX8_copy) dX8_load_156 ml_X8_193 wt_X8_copy wn_X8 wc_X8_copy hp_X8_copy (by decide) (by decide) rfl (Nat.le_of_ble_eq_true rfl) ⟨Nat.zero_le _, Nat.zero_le _⟩ (T_X8_copy (G := G) hw k23 k26 q28) ?_
          refine x_aload_n 0 dX8_load_159 rfl rfl ?_
          refine x_getr dX8_load_160 vc_X8 xin8 fb_X8_8 fl_X8_17 xr_X8_8 kk0 g25 ?_
          refine x_iconst (v := 3) dX8_load_163 rfl ?_
          refine x_iald dX8_load_164 k26 (xb_at n27 xbl_3_1784) xl_3 ?_
          obtain ⟨rfl, rfl⟩ := Prod.mk.inj (x_so h)
          exact x_iret dX8_load_165 rfl rfl rfl
      · refine x_icmp_eq_f (tgt := 121) dX8_load_111 (by decide) c17 ?_
        refine x_aload_n 0 dX8_load_114 rfl rfl ?_
        obtain ⟨N31, q30, h⟩ := x_bd1 h
        refine x_cv (b := p_0) (As := []) (ci := 8) (d' := 34) (zz := yX8_statement) dX8_load_115 ml_X8_187 wi_X8_statement wv_X8_statement wn_X8 wc_X8_statement hp_X8_statement (by decide) (by decide) rfl (Nat.le_of_ble_eq_true rfl) ⟨Nat.zero_le _, Nat.zero_le _⟩ rfl kk0 (T_X8_statement (G := G) hw kk0 q30) ?_
        refine x_goto (tgt := 99) dX8_load_118 (by decide) ?_
        exact ih p_0 N31 kk0 h
set_option maxHeartbeats 4000000 in
set_option maxRecDepth 100000 in
theorem T_X8_load {G : XG} {Y : XY} (hw : WT Y) {a0 : Nat} {a1 : Int32} {N : XN} (k100 : kc Y a0 = 18) {r9 : Int32} {N9 : XN} (h : f_X8_load Y a0 a1 N = some (r9, N9)) : Cl G yX8_load cX8_load 2 (some .int) (xR 35 0 0) [.ref a0, .int a1] (.inl (some (.int r9))) Y N Y N9 := by
  refine x_entry (by decide) (Nat.le_of_ble_eq_true rfl) rfl ?_
  rw [f_X8_load] at h
  refine x_aload_n 0 dX8_load_0 rfl rfl ?_
  refine x_iconst (v := 0) dX8_load_1 rfl ?_
  refine x_puti dX8_load_2 vc_X8 xin8 tyX8_ok nmX8 fb_X8_0 fl_X8_45 ff_X8_0 xr_X8_0 (nf_X8_0 _) (ft_X8_0 _) k100 ?_
  obtain ⟨N1, eN1, h⟩ := x_lt h
  refine x_nmN eN1 ?_
  refine x_aload_n 0 dX8_load_5 rfl rfl ?_
  refine x_iload_n 1 dX8_load_6 rfl rfl ?_
  refine x_iconst (v := 0) dX8_load_7 rfl ?_
  refine x_aload_n 0 dX8_load_8 rfl rfl ?_
  refine x_geti dX8_load_9 vc_X8 xin8 fb_X8_2 fl_X8_48 xr_X8_2 k100 ?_
  refine x_cs (As := [.int a1, .int 0, .int (gi N1 a0 2)]) (d' := 1) (zz := yX8_in) dX8_load_12 ml_X8_67 wt_X8_in wn_X8 wc_X8_in hp_X8_in (by decide) (by decide) rfl (Nat.le_of_ble_eq_true rfl) ⟨Nat.zero_le _, Nat.zero_le _⟩ (T_X8_in (G := G) hw  rfl) ?_
  rcases x_if h with ⟨c2, h⟩ | ⟨c2, h⟩
  · refine x_if_ne_f (tgt := 22) dX8_load_15 (by decide) c2 ?_
    refine x_iconst (v := 1) dX8_load_18 rfl ?_
    refine x_goto (tgt := 23) dX8_load_19 (by decide) ?_
    refine x_iconst (v := 1) dX8_load_23 rfl ?_
    obtain ⟨r4, N5, q3, h⟩ := x_bd2 h
    refine x_cv (b := a0) (As := [.int 1, .int 1]) (ci := 8) (d' := 1) (zz := yX8_fails) dX8_load_24 ml_X8_181 wi_X8_fails wv_X8_fails wn_X8 wc_X8_fails hp_X8_fails (by decide) (by decide) rfl (Nat.le_of_ble_eq_true rfl) ⟨Nat.zero_le _, Nat.zero_le _⟩ rfl k100 (T_X8_fails (G := G) hw k100 q3) ?_
    rcases x_if h with ⟨c6, h⟩ | ⟨c6, h⟩
    · refine x_if_eq_t (tgt := 32) dX8_load_27 (by decide) c6 ?_
      refine x_aload_n 0 dX8_load_32 rfl rfl ?_
      refine x_iconst (v := 0) dX8_load_33 rfl ?_
      refine x_puti dX8_load_34 vc_X8 xin8 tyX8_ok nmX8 fb_X8_2 fl_X8_48 ff_X8_2 xr_X8_2 (nf_X8_2 _) (ft_X8_2 _) k100 ?_
      obtain ⟨N7, eN7, h⟩ := x_lt h
      refine x_nmN eN7 ?_
      refine x_aload_n 0 dX8_load_37 rfl rfl ?_
      refine x_iload_n 1 dX8_load_38 rfl rfl ?_
      refine x_puti dX8_load_39 vc_X8 xin8 tyX8_ok nmX8 fb_X8_3 fl_X8_51 ff_X8_3 xr_X8_3 (nf_X8_3 _) (ft_X8_3 _) k100 ?_
      obtain ⟨N8, eN8, h⟩ := x_lt h
      refine x_nmN eN8 ?_
      refine x_aload_n 0 dX8_load_42 rfl rfl ?_
      refine x_iconst (v := 0) dX8_load_43 rfl ?_
      refine x_puti dX8_load_44 vc_X8 xin8 tyX8_ok nmX8 fb_X8_4 fl_X8_54 ff_X8_4 xr_X8_4 (nf_X8_4 _) (ft_X8_4 _) k100 ?_
      obtain ⟨N9, eN9, h⟩ := x_lt h
      refine x_nmN eN9 ?_
      refine x_aload_n 0 dX8_load_47 rfl rfl ?_
      refine x_iconst (v := 0) dX8_load_48 rfl ?_
      refine x_puti dX8_load_49 vc_X8 xin8 tyX8_ok nmX8 fb_X8_5 fl_X8_61 ff_X8_5 xr_X8_5 (nf_X8_5 _) (ft_X8_5 _) k100 ?_
      obtain ⟨N10, eN10, h⟩ := x_lt h
      refine x_nmN eN10 ?_
      refine x_aload_n 0 dX8_load_52 rfl rfl ?_
      refine x_iconst (v := (-1)) dX8_load_53 rfl ?_
      refine x_puti dX8_load_54 vc_X8 xin8 tyX8_ok nmX8 fb_X8_6 fl_X8_64 ff_X8_6 xr_X8_6 (nf_X8_6 _) (ft_X8_6 _) k100 ?_
      obtain ⟨N11, eN11, h⟩ := x_lt h
      refine x_nmN eN11 ?_
      refine x_aload_n 0 dX8_load_57 rfl rfl ?_
      refine x_iconst (v := 0) dX8_load_58 rfl ?_
      refine x_puti dX8_load_59 vc_X8 xin8 tyX8_ok nmX8 fb_X8_15 fl_X8_104 ff_X8_15 xr_X8_15 (nf_X8_15 _) (ft_X8_15 _) k100 ?_
      obtain ⟨N12, eN12, h⟩ := x_lt h
      refine x_nmN eN12 ?_
      refine x_aload_n 0 dX8_load_62 rfl rfl ?_
      refine x_iconst (v := 0) dX8_load_63 rfl ?_
      refine x_puti dX8_load_64 vc_X8 xin8 tyX8_ok nmX8 fb_X8_16 fl_X8_138 ff_X8_16 xr_X8_16 (nf_X8_16 _) (ft_X8_16 _) k100 ?_
      obtain ⟨N13, eN13, h⟩ := x_lt h
      refine x_nmN eN13 ?_
      refine x_aload_n 0 dX8_load_67 rfl rfl ?_
      obtain ⟨g14, k15, n16⟩ := wt_X8_9 hw k100
      refine x_getr dX8_load_68 vc_X8 xin8 fb_X8_9 fl_X8_20 xr_X8_9 k100 g14 ?_
      obtain ⟨N18, q17, h⟩ := x_bd1 h
      refine x_cs (As := [.ref (gp Y a0 9)]) (d' := 1) (zz := yX8_layUsual) dX8_load_71 ml_X8_41 wt_X8_layUsual wn_X8 wc_X8_layUsual hp_X8_layUsual (by decide) (by decide) rfl (Nat.le_of_ble_eq_true rfl) ⟨Nat.zero_le _, Nat.zero_le _⟩ (T_X8_layUsual (G := G) hw k15 q17) ?_
      refine x_aload_n 0 dX8_load_74 rfl rfl ?_
      refine x_ldcS (tx := "lines") (i := 0) dX8_load_75 (by decide) ?_
      obtain ⟨r20, N21, q19, h⟩ := x_bd2 h
      refine x_cv (b := a0) (As := [.ref (xS G 0)]) (ci := 8) (d' := 8) (zz := yX8_takeWord) dX8_load_77 ml_X8_116 wi_X8_takeWord wv_X8_takeWord wn_X8 wc_X8_takeWord hp_X8_takeWord (by decide) (by decide) rfl (Nat.le_of_ble_eq_true rfl) ⟨Nat.zero_le _, Nat.zero_le _⟩ rfl k100 (T_X8_takeWord (G := G) hw k100 q19) ?_
      rcases x_if h with ⟨c22, h⟩ | ⟨c22, h⟩
      · refine x_if_ne_f (tgt := 93) dX8_load_80 (by decide) c22 ?_
        refine x_aload_n 0 dX8_load_83 rfl rfl ?_
        refine x_bipush (v := (-2)) dX8_load_84 rfl ?_
        refine x_aload_n 0 dX8_load_86 rfl rfl ?_
        refine x_geti dX8_load_87 vc_X8 xin8 fb_X8_4 fl_X8_54 xr_X8_4 k100 ?_
        obtain ⟨N24, q23, h⟩ := x_bd1 h
        refine x_cv (b := a0) (As := [.int (-2), .int (gi N21 a0 4)]) (ci := 8) (d' := 1) (zz := yX8_report) dX8_load_90 ml_X8_88 wi_X8_report wv_X8_report wn_X8 wc_X8_report hp_X8_report (by decide) (by decide) rfl (Nat.le_of_ble_eq_true rfl) ⟨Nat.zero_le _, Nat.zero_le _⟩ rfl k100 (T_X8_report (G := G) hw k100 q23) ?_
        refine x_aload_n 0 dX8_load_93 rfl rfl ?_
        refine x_bipush (v := 59) dX8_load_94 rfl ?_
        obtain ⟨N26, q25, h⟩ := x_bd1 h
        refine x_cv (b := a0) (As := [.int 59]) (ci := 8) (d' := 3) (zz := yX8_expect) dX8_load_96 ml_X8_110 wi_X8_expect wv_X8_expect wn_X8 wc_X8_expect hp_X8_expect (by decide) (by decide) rfl (Nat.le_of_ble_eq_true rfl) ⟨Nat.zero_le _, Nat.zero_le _⟩ rfl k100 (T_X8_expect (G := G) hw k100 q25) ?_
        refine x_sub (L' := [(0, .ref a0)]) [0] rfl ?_
        exact T_X8_load_99 (G := G) hw FU a0 N26 k100 h
      · refine x_if_ne_t (tgt := 93) dX8_load_80 (by decide) c22 ?_
        refine x_aload_n 0 dX8_load_93 rfl rfl ?_
        refine x_bipush (v := 59) dX8_load_94 rfl ?_
        obtain ⟨N28, q27, h⟩ := x_bd1 h
        refine x_cv (b := a0) (As := [.int 59]) (ci := 8) (d' := 3) (zz := yX8_expect) dX8_load_96 ml_X8_110 wi_X8_expect wv_X8_expect wn_X8 wc_X8_expect hp_X8_expect (by decide) (by decide) rfl (Nat.le_of_ble_eq_true rfl) ⟨Nat.zero_le _, Nat.zero_le _⟩ rfl k100 (T_X8_expect (G := G) hw k100 q27) ?_
        refine x_sub (L' := [(0, .ref a0)]) [0] rfl ?_
        exact T_X8_load_99 (G := G) hw FU a0 N28 k100 h
    · refine x_if_eq_f (tgt := 32) dX8_load_27 (by decide) c6 ?_
      refine x_iconst (v := 0) dX8_load_30 rfl ?_
      obtain ⟨rfl, rfl⟩ := Prod.mk.inj (x_so h)
      exact x_iret dX8_load_31 rfl rfl rfl
  · refine x_if_ne_t (tgt := 22) dX8_load_15 (by decide) c2 ?_
    refine x_iconst (v := 0) dX8_load_22 rfl ?_
    refine x_iconst (v := 1) dX8_load_23 rfl ?_
    obtain ⟨r30, N31, q29, h⟩ := x_bd2 h
    refine x_cv (b := a0) (As := [.int 0, .int 1]) (ci := 8) (d' := 1) (zz := yX8_fails) dX8_load_24 ml_X8_181 wi_X8_fails wv_X8_fails wn_X8 wc_X8_fails hp_X8_fails (by decide) (by decide) rfl (Nat.le_of_ble_eq_true rfl) ⟨Nat.zero_le _, Nat.zero_le _⟩ rfl k100 (T_X8_fails (G := G) hw k100 q29) ?_
    rcases x_if h with ⟨c32, h⟩ | ⟨c32, h⟩
    · refine x_if_eq_t (tgt := 32) dX8_load_27 (by decide) c32 ?_
      refine x_aload_n 0 dX8_load_32 rfl rfl ?_
      refine x_iconst (v := 0) dX8_load_33 rfl ?_
      refine x_puti dX8_load_34 vc_X8 xin8 tyX8_ok nmX8 fb_X8_2 fl_X8_48 ff_X8_2 xr_X8_2 (nf_X8_2 _) (ft_X8_2 _) k100 ?_
      obtain ⟨N33, eN33, h⟩ := x_lt h
      refine x_nmN eN33 ?_
      refine x_aload_n 0 dX8_load_37 rfl rfl ?_
      refine x_iload_n 1 dX8_load_38 rfl rfl ?_
      refine x_puti dX8_load_39 vc_X8 xin8 tyX8_ok nmX8 fb_X8_3 fl_X8_51 ff_X8_3 xr_X8_3 (nf_X8_3 _) (ft_X8_3 _) k100 ?_
      obtain ⟨N34, eN34, h⟩ := x_lt h
      refine x_nmN eN34 ?_
      refine x_aload_n 0 dX8_load_42 rfl rfl ?_
      refine x_iconst (v := 0) dX8_load_43 rfl ?_
      refine x_puti dX8_load_44 vc_X8 xin8 tyX8_ok nmX8 fb_X8_4 fl_X8_54 ff_X8_4 xr_X8_4 (nf_X8_4 _) (ft_X8_4 _) k100 ?_
      obtain ⟨N35, eN35, h⟩ := x_lt h
      refine x_nmN eN35 ?_
      refine x_aload_n 0 dX8_load_47 rfl rfl ?_
      refine x_iconst (v := 0) dX8_load_48 rfl ?_
      refine x_puti dX8_load_49 vc_X8 xin8 tyX8_ok nmX8 fb_X8_5 fl_X8_61 ff_X8_5 xr_X8_5 (nf_X8_5 _) (ft_X8_5 _) k100 ?_
      obtain ⟨N36, eN36, h⟩ := x_lt h
      refine x_nmN eN36 ?_
      refine x_aload_n 0 dX8_load_52 rfl rfl ?_
      refine x_iconst (v := (-1)) dX8_load_53 rfl ?_
      refine x_puti dX8_load_54 vc_X8 xin8 tyX8_ok nmX8 fb_X8_6 fl_X8_64 ff_X8_6 xr_X8_6 (nf_X8_6 _) (ft_X8_6 _) k100 ?_
      obtain ⟨N37, eN37, h⟩ := x_lt h
      refine x_nmN eN37 ?_
      refine x_aload_n 0 dX8_load_57 rfl rfl ?_
      refine x_iconst (v := 0) dX8_load_58 rfl ?_
      refine x_puti dX8_load_59 vc_X8 xin8 tyX8_ok nmX8 fb_X8_15 fl_X8_104 ff_X8_15 xr_X8_15 (nf_X8_15 _) (ft_X8_15 _) k100 ?_
      obtain ⟨N38, eN38, h⟩ := x_lt h
      refine x_nmN eN38 ?_
      refine x_aload_n 0 dX8_load_62 rfl rfl ?_
      refine x_iconst (v := 0) dX8_load_63 rfl ?_
      refine x_puti dX8_load_64 vc_X8 xin8 tyX8_ok nmX8 fb_X8_16 fl_X8_138 ff_X8_16 xr_X8_16 (nf_X8_16 _) (ft_X8_16 _) k100 ?_
      obtain ⟨N39, eN39, h⟩ := x_lt h
      refine x_nmN eN39 ?_
      refine x_aload_n 0 dX8_load_67 rfl rfl ?_
      obtain ⟨g40, k41, n42⟩ := wt_X8_9 hw k100
      refine x_getr dX8_load_68 vc_X8 xin8 fb_X8_9 fl_X8_20 xr_X8_9 k100 g40 ?_
      obtain ⟨N44, q43, h⟩ := x_bd1 h
      refine x_cs (As := [.ref (gp Y a0 9)]) (d' := 1) (zz := yX8_layUsual) dX8_load_71 ml_X8_41 wt_X8_layUsual wn_X8 wc_X8_layUsual hp_X8_layUsual (by decide) (by decide) rfl (Nat.le_of_ble_eq_true rfl) ⟨Nat.zero_le _, Nat.zero_le _⟩ (T_X8_layUsual (G := G) hw k41 q43) ?_
      refine x_aload_n 0 dX8_load_74 rfl rfl ?_
      refine x_ldcS (tx := "lines") (i := 0) dX8_load_75 (by decide) ?_
      obtain ⟨r46, N47, q45, h⟩ := x_bd2 h
      refine x_cv (b := a0) (As := [.ref (xS G 0)]) (ci := 8) (d' := 8) (zz := yX8_takeWord) dX8_load_77 ml_X8_116 wi_X8_takeWord wv_X8_takeWord wn_X8 wc_X8_takeWord hp_X8_takeWord (by decide) (by decide) rfl (Nat.le_of_ble_eq_true rfl) ⟨Nat.zero_le _, Nat.zero_le _⟩ rfl k100 (T_X8_takeWord (G := G) hw k100 q45) ?_
      rcases x_if h with ⟨c48, h⟩ | ⟨c48, h⟩
      · refine x_if_ne_f (tgt := 93) dX8_load_80 (by decide) c48 ?_
        refine x_aload_n 0 dX8_load_83 rfl rfl ?_
        refine x_bipush (v := (-2)) dX8_load_84 rfl ?_
        refine x_aload_n 0 dX8_load_86 rfl rfl ?_
        refine x_geti dX8_load_87 vc_X8 xin8 fb_X8_4 fl_X8_54 xr_X8_4 k100 ?_
        obtain ⟨N50, q49, h⟩ := x_bd1 h
        refine x_cv (b := a0) (As := [.int (-2), .int (gi N47 a0 4)]) (ci := 8) (d' := 1) (zz := yX8_report) dX8_load_90 ml_X8_88 wi_X8_report wv_X8_report wn_X8 wc_X8_report hp_X8_report (by decide) (by decide) rfl (Nat.le_of_ble_eq_true rfl) ⟨Nat.zero_le _, Nat.zero_le _⟩ rfl k100 (T_X8_report (G := G) hw k100 q49) ?_
        refine x_aload_n 0 dX8_load_93 rfl rfl ?_
        refine x_bipush (v := 59) dX8_load_94 rfl ?_
        obtain ⟨N52, q51, h⟩ := x_bd1 h
        refine x_cv (b := a0) (As := [.int 59]) (ci := 8) (d' := 3) (zz := yX8_expect) dX8_load_96 ml_X8_110 wi_X8_expect wv_X8_expect wn_X8 wc_X8_expect hp_X8_expect (by decide) (by decide) rfl (Nat.le_of_ble_eq_true rfl) ⟨Nat.zero_le _, Nat.zero_le _⟩ rfl k100 (T_X8_expect (G := G) hw k100 q51) ?_
        refine x_sub (L' := [(0, .ref a0)]) [0] rfl ?_
        exact T_X8_load_99 (G := G) hw FU a0 N52 k100 h
      · refine x_if_ne_t (tgt := 93) dX8_load_80 (by decide) c48 ?_
        refine x_aload_n 0 dX8_load_93 rfl rfl ?_
        refine x_bipush (v := 59) dX8_load_94 rfl ?_
        obtain ⟨N54, q53, h⟩ := x_bd1 h
        refine x_cv (b := a0) (As := [.int 59]) (ci := 8) (d' := 3) (zz := yX8_expect) dX8_load_96 ml_X8_110 wi_X8_expect wv_X8_expect wn_X8 wc_X8_expect hp_X8_expect (by decide) (by decide) rfl (Nat.le_of_ble_eq_true rfl) ⟨Nat.zero_le _, Nat.zero_le _⟩ rfl k100 (T_X8_expect (G := G) hw k100 q53) ?_
        refine x_sub (L' := [(0, .ref a0)]) [0] rfl ?_
        exact T_X8_load_99 (G := G) hw FU a0 N54 k100 h
    · refine x_if_eq_f (tgt := 32) dX8_load_27 (by decide) c32 ?_
      refine x_iconst (v := 0) dX8_load_30 rfl ?_
      obtain ⟨rfl, rfl⟩ := Prod.mk.inj (x_so h)
      exact x_iret dX8_load_31 rfl rfl rfl

