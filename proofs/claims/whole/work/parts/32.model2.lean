set_option maxHeartbeats 4000000 in
set_option maxRecDepth 100000 in
theorem T_X8_fineOf_33 {G : XG} {Y : XY} (hw : WT Y) {r9 : Int32} {N9 : XN}: ∀ (D9 : Nat) (p_0 : Nat) (v_1 : Int32) (v_2 : Int32) (v_3 : Int32) (v_4 : Int32) (N : XN), kc Y p_0 = 18 → f_X8_fineOf_33 Y D9 p_0 v_1 v_2 v_3 v_4 N = some (r9, N9) → Ex G yX8_fineOf cX8_fineOf 7 (some .int) (xR 6 0 0) (.inl (some (.int r9))) Y N9 0 0 33 [(0, .ref p_0), (1, .int v_1), (2, .int v_2), (3, .int v_3), (4, .int v_4)] [] Y N := by
  intro D9
  induction D9 with
  | zero => intro p_0 v_1 v_2 v_3 v_4 N kk0 h; exact nomatch (show none = some _ from h)
  | succ D9 ih =>
    intro p_0 v_1 v_2 v_3 v_4 N kk0 h
    rw [f_X8_fineOf_33] at h
    refine x_iload 4 dX8_fineOf_33 rfl ?_
    refine x_aload_n 0 dX8_fineOf_35 rfl rfl ?_
    obtain ⟨g1, k2, n3⟩ := wt_X8_8 hw kk0
    refine x_getr dX8_fineOf_36 vc_X8 xin8 fb_X8_8 fl_X8_17 xr_X8_8 kk0 g1 ?_
    refine x_bipush (v := 11) dX8_fineOf_39 rfl ?_
    refine x_iald dX8_fineOf_41 k2 (xb_at n3 xbl_11_1784) xl_11 ?_
    rcases x_if h with ⟨c4, h⟩ | ⟨c4, h⟩
    · refine x_icmp_ge_t (tgt := 192) dX8_fineOf_42 (by decide) c4 ?_
      refine x_aload_n 0 dX8_fineOf_192 rfl rfl ?_
      obtain ⟨g5, k6, n7⟩ := wt_X8_17 hw kk0
      refine x_getr dX8_fineOf_193 vc_X8 xin8 fb_X8_17 fl_X8_34 xr_X8_17 kk0 g5 ?_
      refine x_iconst (v := 0) dX8_fineOf_196 rfl ?_
      refine x_lald dX8_fineOf_197 k6 (xb_at n7 xbl_0_1200) xl_0 ?_
      refine x_lconst (v := 0) dX8_fineOf_198 rfl ?_
      refine x_lcmp dX8_fineOf_199 ?_
      rcases x_if h with ⟨c8, h⟩ | ⟨c8, h⟩
      · refine x_if_ge_t (tgt := 207) dX8_fineOf_200 (by decide) c8 ?_
        refine x_aload_n 0 dX8_fineOf_207 rfl rfl ?_
        refine x_getr dX8_fineOf_208 vc_X8 xin8 fb_X8_17 fl_X8_34 xr_X8_17 kk0 g5 ?_
        refine x_iconst (v := 0) dX8_fineOf_211 rfl ?_
        refine x_lald dX8_fineOf_212 k6 (xb_at n7 xbl_0_1200) xl_0 ?_
        refine x_ldc2 (v := 9999) dX8_fineOf_213 kl_X8_243 ?_
        refine x_lcmp dX8_fineOf_216 ?_
        rcases x_if h with ⟨c9, h⟩ | ⟨c9, h⟩
        · refine x_if_le_t (tgt := 226) dX8_fineOf_217 (by decide) c9 ?_
          refine x_aload_n 0 dX8_fineOf_226 rfl rfl ?_
          refine x_getr dX8_fineOf_227 vc_X8 xin8 fb_X8_17 fl_X8_34 xr_X8_17 kk0 g5 ?_
          refine x_iconst (v := 0) dX8_fineOf_230 rfl ?_
          refine x_lald dX8_fineOf_231 k6 (xb_at n7 xbl_0_1200) xl_0 ?_
          refine x_l2i dX8_fineOf_232 ?_
          obtain ⟨rfl, rfl⟩ := Prod.mk.inj (x_so h)
          exact x_iret dX8_fineOf_233 rfl rfl rfl
        · refine x_if_le_f (tgt := 226) dX8_fineOf_217 (by decide) c9 ?_
          refine x_sipush (v := 9999) dX8_fineOf_220 rfl ?_
          refine x_goto (tgt := 233) dX8_fineOf_223 (by decide) ?_
          obtain ⟨rfl, rfl⟩ := Prod.mk.inj (x_so h)
          exact x_iret dX8_fineOf_233 rfl rfl rfl
      · refine x_if_ge_f (tgt := 207) dX8_fineOf_200 (by decide) c8 ?_
        refine x_iconst (v := 0) dX8_fineOf_203 rfl ?_
        refine x_goto (tgt := 233) dX8_fineOf_204 (by decide) ?_
        obtain ⟨rfl, rfl⟩ := Prod.mk.inj (x_so h)
        exact x_iret dX8_fineOf_233 rfl rfl rfl
    · refine x_icmp_ge_f (tgt := 192) dX8_fineOf_42 (by decide) c4 ?_
      refine x_aload_n 0 dX8_fineOf_45 rfl rfl ?_
      refine x_getr dX8_fineOf_46 vc_X8 xin8 fb_X8_8 fl_X8_17 xr_X8_8 kk0 g1 ?_
      refine x_sipush (v := 584) dX8_fineOf_49 rfl ?_
      refine x_iload 4 dX8_fineOf_52 rfl ?_
      refine x_iadd dX8_fineOf_54 ?_
      obtain ⟨c10, h⟩ := x_ck h
      refine x_iald dX8_fineOf_55 k2 (xb_at n3 c10) rfl ?_
      obtain ⟨v11, ev11, h⟩ := x_lt h
      refine x_nmi ev11 ?_
      refine x_istore (L' := [(0, .ref p_0), (1, .int v_1), (2, .int v_2), (3, .int v_3), (4, .int v_4), (5, .int v11)]) [1, 2, 3, 4, 5, 0] dX8_fineOf_56 (by decide) rfl ?_
      refine x_iload 5 dX8_fineOf_58 rfl ?_
      refine x_iconst (v := 1) dX8_fineOf_60 rfl ?_
      rcases x_if h with ⟨c12, h⟩ | ⟨c12, h⟩
      · refine x_icmp_gt_t (tgt := 156) dX8_fineOf_61 (by decide) c12 ?_
        refine x_iinc (L' := [(0, .ref p_0), (1, .int v_1), (2, .int (v_2 + (-1))), (3, .int v_3), (4, .int v_4), (5, .int v11)]) 2 [1, 2, 0, 3, 4, 5] dX8_fineOf_156 rfl rfl (by decide) rfl ?_
        refine x_aload_n 0 dX8_fineOf_159 rfl rfl ?_
        obtain ⟨g13, k14, n15⟩ := wt_X8_17 hw kk0
        refine x_getr dX8_fineOf_160 vc_X8 xin8 fb_X8_17 fl_X8_34 xr_X8_17 kk0 g13 ?_
        refine x_iload_n 2 dX8_fineOf_163 rfl rfl ?_
        refine x_iconst (v := 1) dX8_fineOf_164 rfl ?_
        refine x_isub dX8_fineOf_165 ?_
        refine x_iload 5 dX8_fineOf_166 rfl ?_
        refine x_aload_n 0 dX8_fineOf_168 rfl rfl ?_
        refine x_getr dX8_fineOf_169 vc_X8 xin8 fb_X8_17 fl_X8_34 xr_X8_17 kk0 g13 ?_
        refine x_iload_n 2 dX8_fineOf_172 rfl rfl ?_
        refine x_iconst (v := 1) dX8_fineOf_173 rfl ?_
        refine x_isub dX8_fineOf_174 ?_
        obtain ⟨c16, h⟩ := x_ck h
        refine x_lald dX8_fineOf_175 k14 (xb_at n15 c16) rfl ?_
        refine x_aload_n 0 dX8_fineOf_176 rfl rfl ?_
        refine x_getr dX8_fineOf_177 vc_X8 xin8 fb_X8_17 fl_X8_34 xr_X8_17 kk0 g13 ?_
        refine x_iload_n 2 dX8_fineOf_180 rfl rfl ?_
        obtain ⟨c17, h⟩ := x_ck h
        refine x_lald dX8_fineOf_181 k14 (xb_at n15 c17) rfl ?_
        obtain ⟨r19, q18, h⟩ := x_bd1 h
        refine x_cs (As := [.int v11, .long (gl N (gp Y p_0 17) ((v_2 + (-1)) - 1).toNatClampNeg), .long (gl N (gp Y p_0 17) (v_2 + (-1)).toNatClampNeg)]) (d' := 2) (zz := yX8_operate) dX8_fineOf_182 ml_X8_239 wt_X8_operate wn_X8 wc_X8_operate hp_X8_operate (by decide) (by decide) rfl (Nat.le_of_ble_eq_true rfl) ⟨Nat.zero_le _, Nat.zero_le _⟩ (T_X8_operate (G := G) hw  q18) ?_
        obtain ⟨c20, h⟩ := x_ck h
        refine x_last dX8_fineOf_185 k14 (xb_at n15 c20) rfl ?_
        obtain ⟨N21, eN21, h⟩ := x_lt h
        refine x_nmN eN21 ?_
        refine x_iinc (L' := [(0, .ref p_0), (1, .int v_1), (2, .int (v_2 + (-1))), (3, .int v_3), (4, .int (v_4 + 1))]) 4 [1, 2, 3, 4, 0] dX8_fineOf_186 rfl rfl (by decide) rfl ?_
        refine x_goto (tgt := 33) dX8_fineOf_189 (by decide) ?_
        exact ih p_0 v_1 (v_2 + (-1)) v_3 (v_4 + 1) N21 kk0 h
      · refine x_icmp_gt_f (tgt := 156) dX8_fineOf_61 (by decide) c12 ?_
        refine x_iinc (L' := [(0, .ref p_0), (1, .int v_1), (2, .int v_2), (3, .int v_3), (4, .int (v_4 + 1)), (5, .int v11)]) 4 [1, 2, 3, 4, 0, 5] dX8_fineOf_64 rfl rfl (by decide) rfl ?_
        refine x_aload_n 0 dX8_fineOf_67 rfl rfl ?_
        refine x_getr dX8_fineOf_68 vc_X8 xin8 fb_X8_8 fl_X8_17 xr_X8_8 kk0 g1 ?_
        refine x_sipush (v := 584) dX8_fineOf_71 rfl ?_
        refine x_iload 4 dX8_fineOf_74 rfl ?_
        refine x_iadd dX8_fineOf_76 ?_
        obtain ⟨c22, h⟩ := x_ck h
        refine x_iald dX8_fineOf_77 k2 (xb_at n3 c22) rfl ?_
        obtain ⟨v23, ev23, h⟩ := x_lt h
        refine x_nmi ev23 ?_
        refine x_istore (L' := [(0, .ref p_0), (1, .int v_1), (2, .int v_2), (3, .int v_3), (4, .int (v_4 + 1)), (5, .int v11), (6, .int v23)]) [1, 2, 3, 4, 5, 6, 0] dX8_fineOf_78 (by decide) rfl ?_
        refine x_aload_n 0 dX8_fineOf_80 rfl rfl ?_
        obtain ⟨g24, k25, n26⟩ := wt_X8_17 hw kk0
        refine x_getr dX8_fineOf_81 vc_X8 xin8 fb_X8_17 fl_X8_34 xr_X8_17 kk0 g24 ?_
        refine x_iload_n 2 dX8_fineOf_84 rfl rfl ?_
        refine x_iload 5 dX8_fineOf_85 rfl ?_
        rcases x_if h with ⟨c27, h⟩ | ⟨c27, h⟩
        · refine x_if_ne_f (tgt := 96) dX8_fineOf_87 (by decide) c27 ?_
          refine x_iload 6 dX8_fineOf_90 rfl ?_
          refine x_i2l dX8_fineOf_92 ?_
          refine x_goto (tgt := 149) dX8_fineOf_93 (by decide) ?_
          obtain ⟨c28, h⟩ := x_ck h
          refine x_last dX8_fineOf_149 k25 (xb_at n26 c28) rfl ?_
          obtain ⟨N29, eN29, h⟩ := x_lt h
          refine x_nmN eN29 ?_
          refine x_iinc (L' := [(0, .ref p_0), (1, .int v_1), (2, .int (v_2 + 1)), (3, .int v_3), (4, .int (v_4 + 1))]) 2 [1, 2, 0, 3, 4] dX8_fineOf_150 rfl rfl (by decide) rfl ?_
          refine x_goto (tgt := 186) dX8_fineOf_153 (by decide) ?_
          refine x_iinc (L' := [(0, .ref p_0), (1, .int v_1), (2, .int (v_2 + 1)), (3, .int v_3), (4, .int ((v_4 + 1) + 1))]) 4 [1, 2, 3, 4, 0] dX8_fineOf_186 rfl rfl (by decide) rfl ?_
          refine x_goto (tgt := 33) dX8_fineOf_189 (by decide) ?_
          exact ih p_0 v_1 (v_2 + 1) v_3 ((v_4 + 1) + 1) N29 kk0 h
        · refine x_if_ne_t (tgt := 96) dX8_fineOf_87 (by decide) c27 ?_
          refine x_iload 6 dX8_fineOf_96 rfl ?_
          rcases x_if h with ⟨c30, h⟩ | ⟨c30, h⟩
          · refine x_if_ne_f (tgt := 111) dX8_fineOf_98 (by decide) c30 ?_
            refine x_aload_n 0 dX8_fineOf_101 rfl rfl ?_
            refine x_iload_n 1 dX8_fineOf_102 rfl rfl ?_
            refine x_iconst (v := 0) dX8_fineOf_103 rfl ?_
            obtain ⟨r32, q31, h⟩ := x_bd1 h
            refine x_cv (b := p_0) (As := [.int v_1, .int 0]) (ci := 8) (d' := 2) (zz := yX8_ofRequest) dX8_fineOf_104 ml_X8_206 wi_X8_ofRequest wv_X8_ofRequest wn_X8 wc_X8_ofRequest hp_X8_ofRequest (by decide) (by decide) rfl (Nat.le_of_ble_eq_true rfl) ⟨Nat.zero_le _, Nat.zero_le _⟩ rfl kk0 (T_X8_ofRequest (G := G) hw kk0 q31) ?_
            refine x_i2l dX8_fineOf_107 ?_
            refine x_goto (tgt := 149) dX8_fineOf_108 (by decide) ?_
            obtain ⟨c33, h⟩ := x_ck h
            refine x_last dX8_fineOf_149 k25 (xb_at n26 c33) rfl ?_
            obtain ⟨N34, eN34, h⟩ := x_lt h
            refine x_nmN eN34 ?_
            refine x_iinc (L' := [(0, .ref p_0), (1, .int v_1), (2, .int (v_2 + 1)), (3, .int v_3), (4, .int (v_4 + 1))]) 2 [1, 2, 0, 3, 4] dX8_fineOf_150 rfl rfl (by decide) rfl ?_
            refine x_goto (tgt := 186) dX8_fineOf_153 (by decide) ?_
            refine x_iinc (L' := [(0, .ref p_0), (1, .int v_1), (2, .int (v_2 + 1)), (3, .int v_3), (4, .int ((v_4 + 1) + 1))]) 4 [1, 2, 3, 4, 0] dX8_fineOf_186 rfl rfl (by decide) rfl ?_
            refine x_goto (tgt := 33) dX8_fineOf_189 (by decide) ?_
            exact ih p_0 v_1 (v_2 + 1) v_3 ((v_4 + 1) + 1) N34 kk0 h
          · refine x_if_ne_t (tgt := 111) dX8_fineOf_98 (by decide) c30 ?_
            refine x_iload 6 dX8_fineOf_111 rfl ?_
            refine x_iconst (v := 1) dX8_fineOf_113 rfl ?_
            rcases x_if h with ⟨c35, h⟩ | ⟨c35, h⟩
            · refine x_icmp_ne_f (tgt := 127) dX8_fineOf_114 (by decide) c35 ?_
              refine x_aload_n 0 dX8_fineOf_117 rfl rfl ?_
              refine x_iload_n 1 dX8_fineOf_118 rfl rfl ?_
              refine x_iconst (v := 5) dX8_fineOf_119 rfl ?_
              obtain ⟨r37, q36, h⟩ := x_bd1 h
              refine x_cv (b := p_0) (As := [.int v_1, .int 5]) (ci := 8) (d' := 2) (zz := yX8_ofRequest) dX8_fineOf_120 ml_X8_206 wi_X8_ofRequest wv_X8_ofRequest wn_X8 wc_X8_ofRequest hp_X8_ofRequest (by decide) (by decide) rfl (Nat.le_of_ble_eq_true rfl) ⟨Nat.zero_le _, Nat.zero_le _⟩ rfl kk0 (T_X8_ofRequest (G := G) hw kk0 q36) ?_
              refine x_i2l dX8_fineOf_123 ?_
              refine x_goto (tgt := 149) dX8_fineOf_124 (by decide) ?_
              obtain ⟨c38, h⟩ := x_ck h
              refine x_last dX8_fineOf_149 k25 (xb_at n26 c38) rfl ?_
              obtain ⟨N39, eN39, h⟩ := x_lt h
              refine x_nmN eN39 ?_
              refine x_iinc (L' := [(0, .ref p_0), (1, .int v_1), (2, .int (v_2 + 1)), (3, .int v_3), (4, .int (v_4 + 1))]) 2 [1, 2, 0, 3, 4] dX8_fineOf_150 rfl rfl (by decide) rfl ?_
              refine x_goto (tgt := 186) dX8_fineOf_153 (by decide) ?_
              refine x_iinc (L' := [(0, .ref p_0), (1, .int v_1), (2, .int (v_2 + 1)), (3, .int v_3), (4, .int ((v_4 + 1) + 1))]) 4 [1, 2, 3, 4, 0] dX8_fineOf_186 rfl rfl (by decide) rfl ?_
              refine x_goto (tgt := 33) dX8_fineOf_189 (by decide) ?_
              exact ih p_0 v_1 (v_2 + 1) v_3 ((v_4 + 1) + 1) N39 kk0 h
            · refine x_icmp_ne_t (tgt := 127) dX8_fineOf_114 (by decide) c35 ?_
              refine x_iload 6 dX8_fineOf_127 rfl ?_
              refine x_iconst (v := 2) dX8_fineOf_129 rfl ?_
              rcases x_if h with ⟨c40, h⟩ | ⟨c40, h⟩
              · refine x_icmp_ne_f (tgt := 147) dX8_fineOf_130 (by decide) c40 ?_
                refine x_aload_n 0 dX8_fineOf_133 rfl rfl ?_
                refine x_aload_n 0 dX8_fineOf_134 rfl rfl ?_
                refine x_iload_n 1 dX8_fineOf_135 rfl rfl ?_
                refine x_iconst (v := 4) dX8_fineOf_136 rfl ?_
                obtain ⟨r42, q41, h⟩ := x_bd1 h
                refine x_cv (b := p_0) (As := [.int v_1, .int 4]) (ci := 8) (d' := 2) (zz := yX8_ofRequest) dX8_fineOf_137 ml_X8_206 wi_X8_ofRequest wv_X8_ofRequest wn_X8 wc_X8_ofRequest hp_X8_ofRequest (by decide) (by decide) rfl (Nat.le_of_ble_eq_true rfl) ⟨Nat.zero_le _, Nat.zero_le _⟩ rfl kk0 (T_X8_ofRequest (G := G) hw kk0 q41) ?_
                obtain ⟨r44, q43, h⟩ := x_bd1 h
                refine x_cv (b := p_0) (As := [.int r42]) (ci := 8) (d' := 5) (zz := yX8_heldBy) dX8_fineOf_140 ml_X8_216 wi_X8_heldBy wv_X8_heldBy wn_X8 wc_X8_heldBy hp_X8_heldBy (by decide) (by decide) rfl (Nat.le_of_ble_eq_true rfl) ⟨Nat.zero_le _, Nat.zero_le _⟩ rfl kk0 (T_X8_heldBy (G := G) hw kk0 q43) ?_
                refine x_i2l dX8_fineOf_143 ?_
                refine x_goto (tgt := 149) dX8_fineOf_144 (by decide) ?_
                obtain ⟨c45, h⟩ := x_ck h
                refine x_last dX8_fineOf_149 k25 (xb_at n26 c45) rfl ?_
                obtain ⟨N46, eN46, h⟩ := x_lt h
                refine x_nmN eN46 ?_
                refine x_iinc (L' := [(0, .ref p_0), (1, .int v_1), (2, .int (v_2 + 1)), (3, .int v_3), (4, .int (v_4 + 1))]) 2 [1, 2, 0, 3, 4] dX8_fineOf_150 rfl rfl (by decide) rfl ?_
                refine x_goto (tgt := 186) dX8_fineOf_153 (by decide) ?_
                refine x_iinc (L' := [(0, .ref p_0), (1, .int v_1), (2, .int (v_2 + 1)), (3, .int v_3), (4, .int ((v_4 + 1) + 1))]) 4 [1, 2, 3, 4, 0] dX8_fineOf_186 rfl rfl (by decide) rfl ?_
                refine x_goto (tgt := 33) dX8_fineOf_189 (by decide) ?_
                exact ih p_0 v_1 (v_2 + 1) v_3 ((v_4 + 1) + 1) N46 kk0 h
              · refine x_icmp_ne_t (tgt := 147) dX8_fineOf_130 (by decide) c40 ?_
                refine x_iload_n 3 dX8_fineOf_147 rfl rfl ?_
                refine x_i2l dX8_fineOf_148 ?_
                obtain ⟨c47, h⟩ := x_ck h
                refine x_last dX8_fineOf_149 k25 (xb_at n26 c47) rfl ?_
                obtain ⟨N48, eN48, h⟩ := x_lt h
                refine x_nmN eN48 ?_
                refine x_iinc (L' := [(0, .ref p_0), (1, .int v_1), (2, .int (v_2 + 1)), (3, .int v_3), (4, .int (v_4 + 1))]) 2 [1, 2, 0, 3, 4] dX8_fineOf_150 rfl rfl (by decide) rfl ?_
                refine x_goto (tgt := 186) dX8_fineOf_153 (by decide) ?_
                refine x_iinc (L' := [(0, .ref p_0), (1, .int v_1), (2, .int (v_2 + 1)), (3, .int v_3), (4, .int ((v_4 + 1) + 1))]) 4 [1, 2, 3, 4, 0] dX8_fineOf_186 rfl rfl (by decide) rfl ?_
                refine x_goto (tgt := 33) dX8_fineOf_189 (by decide) ?_
                exact ih p_0 v_1 (v_2 + 1) v_3 ((v_4 + 1) + 1) N48 kk0 h
set_option maxHeartbeats 4000000 in
set_option maxRecDepth 100000 in
theorem T_X8_fineOf {G : XG} {Y : XY} (hw : WT Y) {a0 : Nat} {a1 : Int32} {N : XN} (k100 : kc Y a0 = 18) {r9 : Int32} {N9 : XN} (h : f_X8_fineOf Y a0 a1 N = some (r9, N9)) : Cl G yX8_fineOf cX8_fineOf 7 (some .int) (xR 6 0 0) [.ref a0, .int a1] (.inl (some (.int r9))) Y N Y N9 := by
  refine x_entry (by decide) (Nat.le_of_ble_eq_true rfl) rfl ?_
  rw [f_X8_fineOf] at h
  refine x_iconst (v := 0) dX8_fineOf_0 rfl ?_
  refine x_istore_n (L' := [(0, .ref a0), (1, .int a1), (2, .int 0)]) [1, 2, 0] dX8_fineOf_1 rfl (by decide) rfl ?_
  refine x_aload_n 0 dX8_fineOf_2 rfl rfl ?_
  obtain ⟨g1, k2, n3⟩ := wt_X8_8 hw k100
  refine x_getr dX8_fineOf_3 vc_X8 xin8 fb_X8_8 fl_X8_17 xr_X8_8 k100 g1 ?_
  refine x_iconst (v := 0) dX8_fineOf_6 rfl ?_
  refine x_iald dX8_fineOf_7 k2 (xb_at n3 xbl_0_1784) xl_0 ?_
  refine x_aload_n 0 dX8_fineOf_8 rfl rfl ?_
  refine x_iload_n 1 dX8_fineOf_9 rfl rfl ?_
  refine x_bipush (v := 7) dX8_fineOf_10 rfl ?_
  obtain ⟨r5, q4, h⟩ := x_bd1 h
  refine x_cv (b := a0) (As := [.int a1, .int 7]) (ci := 8) (d' := 2) (zz := yX8_ofRequest) dX8_fineOf_12 ml_X8_206 wi_X8_ofRequest wv_X8_ofRequest wn_X8 wc_X8_ofRequest hp_X8_ofRequest (by decide) (by decide) rfl (Nat.le_of_ble_eq_true rfl) ⟨Nat.zero_le _, Nat.zero_le _⟩ rfl k100 (T_X8_ofRequest (G := G) hw k100 q4) ?_
  refine x_isub dX8_fineOf_15 ?_
  obtain ⟨v6, ev6, h⟩ := x_lt h
  refine x_nmi ev6 ?_
  refine x_istore_n (L' := [(0, .ref a0), (1, .int a1), (2, .int 0), (3, .int v6)]) [1, 2, 3, 0] dX8_fineOf_16 rfl (by decide) rfl ?_
  refine x_aload_n 0 dX8_fineOf_17 rfl rfl ?_
  obtain ⟨g7, k8, n9⟩ := wt_X8_17 hw k100
  refine x_getr dX8_fineOf_18 vc_X8 xin8 fb_X8_17 fl_X8_34 xr_X8_17 k100 g7 ?_
  refine x_iconst (v := 0) dX8_fineOf_21 rfl ?_
  refine x_aload_n 0 dX8_fineOf_22 rfl rfl ?_
  refine x_iload_n 1 dX8_fineOf_23 rfl rfl ?_
  refine x_iconst (v := 5) dX8_fineOf_24 rfl ?_
  obtain ⟨r11, q10, h⟩ := x_bd1 h
  refine x_cv (b := a0) (As := [.int a1, .int 5]) (ci := 8) (d' := 2) (zz := yX8_ofRequest) dX8_fineOf_25 ml_X8_206 wi_X8_ofRequest wv_X8_ofRequest wn_X8 wc_X8_ofRequest hp_X8_ofRequest (by decide) (by decide) rfl (Nat.le_of_ble_eq_true rfl) ⟨Nat.zero_le _, Nat.zero_le _⟩ rfl k100 (T_X8_ofRequest (G := G) hw k100 q10) ?_
  refine x_i2l dX8_fineOf_28 ?_
  refine x_last dX8_fineOf_29 k8 (xb_at n9 xbl_0_1200) xl_0 ?_
  obtain ⟨N12, eN12, h⟩ := x_lt h
  refine x_nmN eN12 ?_
  refine x_iconst (v := 0) dX8_fineOf_30 rfl ?_
  refine x_istore (L' := [(0, .ref a0), (1, .int a1), (2, .int 0), (3, .int v6), (4, .int 0)]) [1, 2, 3, 4, 0] dX8_fineOf_31 (by decide) rfl ?_
  exact T_X8_fineOf_33 (G := G) hw FU a0 a1 0 v6 0 N12 k100 h
set_option maxHeartbeats 4000000 in
set_option maxRecDepth 100000 in
theorem T_X8_answer {G : XG} {Y : XY} (hw : WT Y) {a0 : Nat} {a1 : Int32} {a2 : Int32} {N : XN} (k100 : kc Y a0 = 18) {N9 : XN} (h : f_X8_answer Y a0 a1 a2 N = some N9) : Cl G yX8_answer cX8_answer 6 none (xR 2 0 0) [.ref a0, .int a1, .int a2] (.inl none) Y N Y N9 := by
  refine x_entry (by decide) (Nat.le_of_ble_eq_true rfl) rfl ?_
  rw [f_X8_answer] at h
  refine x_iload_n 1 dX8_answer_0 rfl rfl ?_
  refine x_cs (As := [.int a1]) (d' := 1) (zz := yX8_requestAt) dX8_answer_1 ml_X8_203 wt_X8_requestAt wn_X8 wc_X8_requestAt hp_X8_requestAt (by decide) (by decide) rfl (Nat.le_of_ble_eq_true rfl) ⟨Nat.zero_le _, Nat.zero_le _⟩ (T_X8_requestAt (G := G) hw  rfl) ?_
  refine x_istore_n (L' := [(0, .ref a0), (2, .int a2), (3, .int (f_X8_requestAt Y a1 N))]) [1, 3, 0] dX8_answer_4 rfl (by decide) rfl ?_
  refine x_aload_n 0 dX8_answer_5 rfl rfl ?_
  obtain ⟨g1, k2, n3⟩ := wt_X8_8 hw k100
  refine x_getr dX8_answer_6 vc_X8 xin8 fb_X8_8 fl_X8_17 xr_X8_8 k100 g1 ?_
  refine x_iload_n 2 dX8_answer_9 rfl rfl ?_
  refine x_iconst (v := 0) dX8_answer_10 rfl ?_
  refine x_iadd dX8_answer_11 ?_
  obtain ⟨c4, h⟩ := x_ck h
  refine x_iald dX8_answer_12 k2 (xb_at n3 c4) rfl ?_
  refine x_cs (As := [.int (gi N (gp Y a0 8) ((f_X8_requestAt Y a1 N) + 0).toNatClampNeg)]) (d' := 1) (zz := yX8_lineAt) dX8_answer_13 ml_X8_200 wt_X8_lineAt wn_X8 wc_X8_lineAt hp_X8_lineAt (by decide) (by decide) rfl (Nat.le_of_ble_eq_true rfl) ⟨Nat.zero_le _, Nat.zero_le _⟩ (T_X8_lineAt (G := G) hw  rfl) ?_
  refine x_iconst (v := 2) dX8_answer_16 rfl ?_
  refine x_iadd dX8_answer_17 ?_
  obtain ⟨v5, ev5, h⟩ := x_lt h
  refine x_nmi ev5 ?_
  refine x_istore (L' := [(0, .ref a0), (2, .int a2), (3, .int (f_X8_requestAt Y a1 N)), (4, .int v5)]) [1, 2, 3, 0] dX8_answer_18 (by decide) rfl ?_
  refine x_aload_n 0 dX8_answer_20 rfl rfl ?_
  refine x_getr dX8_answer_21 vc_X8 xin8 fb_X8_8 fl_X8_17 xr_X8_8 k100 g1 ?_
  refine x_iload 3 dX8_answer_24 rfl ?_
  obtain ⟨c6, h⟩ := x_ck h
  refine x_iald dX8_answer_26 k2 (xb_at n3 c6) rfl ?_
  refine x_aload_n 0 dX8_answer_27 rfl rfl ?_
  refine x_getr dX8_answer_28 vc_X8 xin8 fb_X8_8 fl_X8_17 xr_X8_8 k100 g1 ?_
  refine x_bipush (v := 9) dX8_answer_31 rfl ?_
  refine x_iald dX8_answer_33 k2 (xb_at n3 xbl_9_1784) xl_9 ?_
  refine x_aload_n 0 dX8_answer_34 rfl rfl ?_
  refine x_getr dX8_answer_35 vc_X8 xin8 fb_X8_8 fl_X8_17 xr_X8_8 k100 g1 ?_
  refine x_iload_n 2 dX8_answer_38 rfl rfl ?_
  refine x_iconst (v := 2) dX8_answer_39 rfl ?_
  refine x_iadd dX8_answer_40 ?_
  obtain ⟨c7, h⟩ := x_ck h
  refine x_iald dX8_answer_41 k2 (xb_at n3 c7) rfl ?_
  refine x_imul dX8_answer_42 ?_
  refine x_cs (As := [.int (gi N (gp Y a0 8) v5.toNatClampNeg), .int ((gi N (gp Y a0 8) 9) * (gi N (gp Y a0 8) ((f_X8_requestAt Y a1 N) + 2).toNatClampNeg))]) (d' := 1) (zz := yX8_min) dX8_answer_43 ml_X8_100 wt_X8_min wn_X8 wc_X8_min hp_X8_min (by decide) (by decide) rfl (Nat.le_of_ble_eq_true rfl) ⟨Nat.zero_le _, Nat.zero_le _⟩ (T_X8_min (G := G) hw  rfl) ?_
  obtain ⟨v8, ev8, h⟩ := x_lt h
  refine x_nmi ev8 ?_
  refine x_istore (L' := [(0, .ref a0), (2, .int a2), (3, .int (f_X8_requestAt Y a1 N)), (4, .int v5), (5, .int v8)]) [1, 2, 3, 4, 0] dX8_answer_46 (by decide) rfl ?_
  refine x_aload_n 0 dX8_answer_48 rfl rfl ?_
  refine x_getr dX8_answer_49 vc_X8 xin8 fb_X8_8 fl_X8_17 xr_X8_8 k100 g1 ?_
  refine x_iload_n 2 dX8_answer_52 rfl rfl ?_
  refine x_iconst (v := 3) dX8_answer_53 rfl ?_
  refine x_iadd dX8_answer_54 ?_
  refine x_iconst (v := 2) dX8_answer_55 rfl ?_
  obtain ⟨c9, h⟩ := x_ck h
  refine x_iast dX8_answer_56 k2 (xb_at n3 c9) rfl ?_
  obtain ⟨N10, eN10, h⟩ := x_lt h
  refine x_nmN eN10 ?_
  refine x_aload_n 0 dX8_answer_57 rfl rfl ?_
  refine x_getr dX8_answer_58 vc_X8 xin8 fb_X8_8 fl_X8_17 xr_X8_8 k100 g1 ?_
  refine x_iload_n 2 dX8_answer_61 rfl rfl ?_
  refine x_bipush (v := 6) dX8_answer_62 rfl ?_
  refine x_iadd dX8_answer_64 ?_
  refine x_aload_n 0 dX8_answer_65 rfl rfl ?_
  refine x_getr dX8_answer_66 vc_X8 xin8 fb_X8_8 fl_X8_17 xr_X8_8 k100 g1 ?_
  refine x_iconst (v := 0) dX8_answer_69 rfl ?_
  refine x_iald dX8_answer_70 k2 (xb_at n3 xbl_0_1784) xl_0 ?_
  obtain ⟨c11, h⟩ := x_ck h
  refine x_iast dX8_answer_71 k2 (xb_at n3 c11) rfl ?_
  obtain ⟨N12, eN12, h⟩ := x_lt h
  refine x_nmN eN12 ?_
  refine x_aload_n 0 dX8_answer_72 rfl rfl ?_
  refine x_getr dX8_answer_73 vc_X8 xin8 fb_X8_8 fl_X8_17 xr_X8_8 k100 g1 ?_
  refine x_iload_n 2 dX8_answer_76 rfl rfl ?_
  refine x_iconst (v := 4) dX8_answer_77 rfl ?_
  refine x_iadd dX8_answer_78 ?_
  refine x_iconst (v := (-1)) dX8_answer_79 rfl ?_
  obtain ⟨c13, h⟩ := x_ck h
  refine x_iast dX8_answer_80 k2 (xb_at n3 c13) rfl ?_
  obtain ⟨N14, eN14, h⟩ := x_lt h
  refine x_nmN eN14 ?_
  refine x_aload_n 0 dX8_answer_81 rfl rfl ?_
  refine x_getr dX8_answer_82 vc_X8 xin8 fb_X8_8 fl_X8_17 xr_X8_8 k100 g1 ?_
  refine x_iload 3 dX8_answer_85 rfl ?_
  refine x_dup2 dX8_answer_87 rfl rfl ?_
  obtain ⟨c15, h⟩ := x_ck h
  refine x_iald dX8_answer_88 k2 (xb_at n3 c15) rfl ?_
  refine x_iload 4 dX8_answer_89 rfl ?_
  refine x_isub dX8_answer_91 ?_
  obtain ⟨c16, h⟩ := x_ck h
  refine x_iast dX8_answer_92 k2 (xb_at n3 c16) rfl ?_
  obtain ⟨N17, eN17, h⟩ := x_lt h
  refine x_nmN eN17 ?_
  refine x_aload_n 0 dX8_answer_93 rfl rfl ?_
  refine x_getr dX8_answer_94 vc_X8 xin8 fb_X8_8 fl_X8_17 xr_X8_8 k100 g1 ?_
  refine x_iload_n 1 dX8_answer_97 rfl rfl ?_
  refine x_cs (As := [.int a2]) (d' := 1) (zz := yX8_handlerAt) dX8_answer_98 ml_X8_197 wt_X8_handlerAt wn_X8 wc_X8_handlerAt hp_X8_handlerAt (by decide) (by decide) rfl (Nat.le_of_ble_eq_true rfl) ⟨Nat.zero_le _, Nat.zero_le _⟩ (T_X8_handlerAt (G := G) hw  rfl) ?_
  refine x_iconst (v := 0) dX8_answer_101 rfl ?_
  refine x_iadd dX8_answer_102 ?_
  refine x_dup2 dX8_answer_103 rfl rfl ?_
  obtain ⟨c18, h⟩ := x_ck h
  refine x_iald dX8_answer_104 k2 (xb_at n3 c18) rfl ?_
  refine x_iload 4 dX8_answer_105 rfl ?_
  refine x_iadd dX8_answer_107 ?_
  obtain ⟨c19, h⟩ := x_ck h
  refine x_iast dX8_answer_108 k2 (xb_at n3 c19) rfl ?_
  obtain ⟨N20, eN20, h⟩ := x_lt h
  refine x_nmN eN20 ?_
  refine x_aload_n 0 dX8_answer_109 rfl rfl ?_
  refine x_getr dX8_answer_110 vc_X8 xin8 fb_X8_8 fl_X8_17 xr_X8_8 k100 g1 ?_
  refine x_iload_n 1 dX8_answer_113 rfl rfl ?_
  refine x_cs (As := [.int a2]) (d' := 1) (zz := yX8_handlerAt) dX8_answer_114 ml_X8_197 wt_X8_handlerAt wn_X8 wc_X8_handlerAt hp_X8_handlerAt (by decide) (by decide) rfl (Nat.le_of_ble_eq_true rfl) ⟨Nat.zero_le _, Nat.zero_le _⟩ (T_X8_handlerAt (G := G) hw  rfl) ?_
  refine x_iconst (v := 5) dX8_answer_117 rfl ?_
  refine x_iadd dX8_answer_118 ?_
  refine x_dup2 dX8_answer_119 rfl rfl ?_
  obtain ⟨c21, h⟩ := x_ck h
  refine x_iald dX8_answer_120 k2 (xb_at n3 c21) rfl ?_
  refine x_iload 4 dX8_answer_121 rfl ?_
  refine x_iadd dX8_answer_123 ?_
  obtain ⟨c22, h⟩ := x_ck h
  refine x_iast dX8_answer_124 k2 (xb_at n3 c22) rfl ?_
  obtain ⟨N23, eN23, h⟩ := x_lt h
  refine x_nmN eN23 ?_
  obtain rfl := x_so h
  exact x_vret dX8_answer_125 rfl rfl rfl
set_option maxHeartbeats 4000000 in
set_option maxRecDepth 100000 in
theorem T_X8_work_9 {G : XG} {Y : XY} (hw : WT Y) {N9 : XN}: ∀ (D9 : Nat) (p_0 : Nat) (v_1 : Int32) (v_2 : Int32) (v_3 : Int32) (N : XN), kc Y p_0 = 18 → f_X8_work_9 Y D9 p_0 v_1 v_2 v_3 N = some N9 → Ex G yX8_work cX8_work 6 none (xR 5 0 0) (.inl none) Y N9 0 0 9 [(0, .ref p_0), (1, .int v_1), (2, .int v_2), (3, .int v_3)] [] Y N := by
  intro D9
  induction D9 with
  | zero => intro p_0 v_1 v_2 v_3 N kk0 h; exact nomatch (show none = some _ from h)
  | succ D9 ih =>
    intro p_0 v_1 v_2 v_3 N kk0 h
    rw [f_X8_work_9] at h
    refine x_iload_n 3 dX8_work_9 rfl rfl ?_
    refine x_aload_n 0 dX8_work_10 rfl rfl ?_
    obtain ⟨g1, k2, n3⟩ := wt_X8_8 hw kk0
    refine x_getr dX8_work_11 vc_X8 xin8 fb_X8_8 fl_X8_17 xr_X8_8 kk0 g1 ?_
    refine x_iconst (v := 3) dX8_work_14 rfl ?_
    refine x_iald dX8_work_15 k2 (xb_at n3 xbl_3_1784) xl_3 ?_
    rcases x_if h with ⟨c4, h⟩ | ⟨c4, h⟩
    · refine x_icmp_ge_t (tgt := 115) dX8_work_16 (by decide) c4 ?_
      obtain rfl := x_so h
      exact x_vret dX8_work_115 rfl rfl rfl
    · refine x_icmp_ge_f (tgt := 115) dX8_work_16 (by decide) c4 ?_
      refine x_iload_n 2 dX8_work_19 rfl rfl ?_
      rcases x_if h with ⟨c5, h⟩ | ⟨c5, h⟩
      · refine x_if_le_t (tgt := 115) dX8_work_20 (by decide) c5 ?_
        obtain rfl := x_so h
        exact x_vret dX8_work_115 rfl rfl rfl
      · refine x_if_le_f (tgt := 115) dX8_work_20 (by decide) c5 ?_
        refine x_aload_n 0 dX8_work_23 rfl rfl ?_
        refine x_iload_n 1 dX8_work_24 rfl rfl ?_
        refine x_iload_n 3 dX8_work_25 rfl rfl ?_
        obtain ⟨r7, q6, h⟩ := x_bd1 h
        refine x_cv (b := p_0) (As := [.int v_1, .int v_3]) (ci := 8) (d' := 4) (zz := yX8_holds) dX8_work_26 ml_X8_212 wi_X8_holds wv_X8_holds wn_X8 wc_X8_holds hp_X8_holds (by decide) (by decide) rfl (Nat.le_of_ble_eq_true rfl) ⟨Nat.zero_le _, Nat.zero_le _⟩ rfl kk0 (T_X8_holds (G := G) hw kk0 q6) ?_
        rcases x_if h with ⟨c8, h⟩ | ⟨c8, h⟩
        · refine x_if_ne_f (tgt := 35) dX8_work_29 (by decide) c8 ?_
          refine x_goto (tgt := 109) dX8_work_32 (by decide) ?_
          refine x_iinc (L' := [(0, .ref p_0), (1, .int v_1), (2, .int v_2), (3, .int (v_3 + 1))]) 3 [1, 2, 3, 0] dX8_work_109 rfl rfl (by decide) rfl ?_
          refine x_goto (tgt := 9) dX8_work_112 (by decide) ?_
          exact ih p_0 v_1 v_2 (v_3 + 1) N kk0 h
        · refine x_if_ne_t (tgt := 35) dX8_work_29 (by decide) c8 ?_
          refine x_iload_n 3 dX8_work_35 rfl rfl ?_
          refine x_cs (As := [.int v_3]) (d' := 1) (zz := yX8_requestAt) dX8_work_36 ml_X8_203 wt_X8_requestAt wn_X8 wc_X8_requestAt hp_X8_requestAt (by decide) (by decide) rfl (Nat.le_of_ble_eq_true rfl) ⟨Nat.zero_le _, Nat.zero_le _⟩ (T_X8_requestAt (G := G) hw  rfl) ?_
          refine x_istore (L' := [(0, .ref p_0), (1, .int v_1), (2, .int v_2), (3, .int v_3), (4, .int (f_X8_requestAt Y v_3 N))]) [1, 2, 3, 4, 0] dX8_work_39 (by decide) rfl ?_
          refine x_iload_n 2 dX8_work_41 rfl rfl ?_
          refine x_aload_n 0 dX8_work_42 rfl rfl ?_
          refine x_getr dX8_work_43 vc_X8 xin8 fb_X8_8 fl_X8_17 xr_X8_8 kk0 g1 ?_
          refine x_iload 4 dX8_work_46 rfl ?_
          refine x_iconst (v := 5) dX8_work_48 rfl ?_
          refine x_iadd dX8_work_49 ?_
          obtain ⟨c9, h⟩ := x_ck h
          refine x_iald dX8_work_50 k2 (xb_at n3 c9) rfl ?_
          refine x_cs (As := [.int v_2, .int (gi N (gp Y p_0 8) ((f_X8_requestAt Y v_3 N) + 5).toNatClampNeg)]) (d' := 1) (zz := yX8_min) dX8_work_51 ml_X8_100 wt_X8_min wn_X8 wc_X8_min hp_X8_min (by decide) (by decide) rfl (Nat.le_of_ble_eq_true rfl) ⟨Nat.zero_le _, Nat.zero_le _⟩ (T_X8_min (G := G) hw  rfl) ?_
          obtain ⟨v10, ev10, h⟩ := x_lt h
          refine x_nmi ev10 ?_
          refine x_istore (L' := [(0, .ref p_0), (1, .int v_1), (2, .int v_2), (3, .int v_3), (4, .int (f_X8_requestAt Y v_3 N)), (5, .int v10)]) [1, 2, 3, 4, 5, 0] dX8_work_54 (by decide) rfl ?_
          refine x_iload_n 2 dX8_work_56 rfl rfl ?_
          refine x_iload 5 dX8_work_57 rfl ?_
          refine x_isub dX8_work_59 ?_
          refine x_istore_n (L' := [(0, .ref p_0), (1, .int v_1), (2, .int (v_2 - v10)), (3, .int v_3), (4, .int (f_X8_requestAt Y v_3 N)), (5, .int v10)]) [1, 2, 0, 3, 4, 5] dX8_work_60 rfl (by decide) rfl ?_
          refine x_aload_n 0 dX8_work_61 rfl rfl ?_
          refine x_getr dX8_work_62 vc_X8 xin8 fb_X8_8 fl_X8_17 xr_X8_8 kk0 g1 ?_
          refine x_iload 4 dX8_work_65 rfl ?_
          refine x_iconst (v := 5) dX8_work_67 rfl ?_
          refine x_iadd dX8_work_68 ?_
          refine x_dup2 dX8_work_69 rfl rfl ?_
          obtain ⟨c11, h⟩ := x_ck h
          refine x_iald dX8_work_70 k2 (xb_at n3 c11) rfl ?_
          refine x_iload 5 dX8_work_71 rfl ?_
          refine x_isub dX8_work_73 ?_
          obtain ⟨c12, h⟩ := x_ck h
          refine x_iast dX8_work_74 k2 (xb_at n3 c12) rfl ?_
          obtain ⟨N13, eN13, h⟩ := x_lt h
          refine x_nmN eN13 ?_
          refine x_aload_n 0 dX8_work_75 rfl rfl ?_
          refine x_getr dX8_work_76 vc_X8 xin8 fb_X8_8 fl_X8_17 xr_X8_8 kk0 g1 ?_
          refine x_iload 4 dX8_work_79 rfl ?_
          refine x_bipush (v := 7) dX8_work_81 rfl ?_
          refine x_iadd dX8_work_83 ?_
          refine x_aload_n 0 dX8_work_84 rfl rfl ?_
          refine x_getr dX8_work_85 vc_X8 xin8 fb_X8_8 fl_X8_17 xr_X8_8 kk0 g1 ?_
          refine x_iconst (v := 0) dX8_work_88 rfl ?_
          refine x_iald dX8_work_89 k2 (xb_at n3 xbl_0_1784) xl_0 ?_
          obtain ⟨c14, h⟩ := x_ck h
          refine x_iast dX8_work_90 k2 (xb_at n3 c14) rfl ?_
          obtain ⟨N15, eN15, h⟩ := x_lt h
          refine x_nmN eN15 ?_
          refine x_aload_n 0 dX8_work_91 rfl rfl ?_
          refine x_getr dX8_work_92 vc_X8 xin8 fb_X8_8 fl_X8_17 xr_X8_8 kk0 g1 ?_
          refine x_iload 4 dX8_work_95 rfl ?_
          refine x_iconst (v := 5) dX8_work_97 rfl ?_
          refine x_iadd dX8_work_98 ?_
          obtain ⟨c16, h⟩ := x_ck h
          refine x_iald dX8_work_99 k2 (xb_at n3 c16) rfl ?_
          rcases x_if h with ⟨c17, h⟩ | ⟨c17, h⟩
          · refine x_if_ne_f (tgt := 109) dX8_work_100 (by decide) c17 ?_
            refine x_aload_n 0 dX8_work_103 rfl rfl ?_
            refine x_iload_n 3 dX8_work_104 rfl rfl ?_
            refine x_iload_n 1 dX8_work_105 rfl rfl ?_
            obtain ⟨N19, q18, h⟩ := x_bd1 h
            refine x_cv (b := p_0) (As := [.int v_3, .int v_1]) (ci := 8) (d' := 2) (zz := yX8_answer) dX8_work_106 ml_X8_248 wi_X8_answer wv_X8_answer wn_X8 wc_X8_answer hp_X8_answer (by decide) (by decide) rfl (Nat.le_of_ble_eq_true rfl) ⟨Nat.zero_le _, Nat.zero_le _⟩ rfl kk0 (T_X8_answer (G := G) hw kk0 q18) ?_
            refine x_iinc (L' := [(0, .ref p_0), (1, .int v_1), (2, .int (v_2 - v10)), (3, .int (v_3 + 1))]) 3 [1, 2, 3, 0] dX8_work_109 rfl rfl (by decide) rfl ?_
            refine x_goto (tgt := 9) dX8_work_112 (by decide) ?_
            exact ih p_0 v_1 (v_2 - v10) (v_3 + 1) N19 kk0 h
          · refine x_if_ne_t (tgt := 109) dX8_work_100 (by decide) c17 ?_
            refine x_iinc (L' := [(0, .ref p_0), (1, .int v_1), (2, .int (v_2 - v10)), (3, .int (v_3 + 1))]) 3 [1, 2, 3, 0] dX8_work_109 rfl rfl (by decide) rfl ?_
            refine x_goto (tgt := 9) dX8_work_112 (by decide) ?_
            exact ih p_0 v_1 (v_2 - v10) (v_3 + 1) N15 kk0 h
set_option maxHeartbeats 4000000 in
set_option maxRecDepth 100000 in
theorem T_X8_work {G : XG} {Y : XY} (hw : WT Y) {a0 : Nat} {a1 : Int32} {N : XN} (k100 : kc Y a0 = 18) {N9 : XN} (h : f_X8_work Y a0 a1 N = some N9) : Cl G yX8_work cX8_work 6 none (xR 5 0 0) [.ref a0, .int a1] (.inl none) Y N Y N9 := by
  refine x_entry (by decide) (Nat.le_of_ble_eq_true rfl) rfl ?_
  rw [f_X8_work] at h
  refine x_aload_n 0 dX8_work_0 rfl rfl ?_
  refine x_iload_n 1 dX8_work_1 rfl rfl ?_
  refine x_iconst (v := 1) dX8_work_2 rfl ?_
  obtain ⟨r2, q1, h⟩ := x_bd1 h
  refine x_cv (b := a0) (As := [.int a1, .int 1]) (ci := 8) (d' := 2) (zz := yX8_ofHandler) dX8_work_3 ml_X8_245 wi_X8_ofHandler wv_X8_ofHandler wn_X8 wc_X8_ofHandler hp_X8_ofHandler (by decide) (by decide) rfl (Nat.le_of_ble_eq_true rfl) ⟨Nat.zero_le _, Nat.zero_le _⟩ rfl k100 (T_X8_ofHandler (G := G) hw k100 q1) ?_
  refine x_istore_n (L' := [(0, .ref a0), (1, .int a1), (2, .int r2)]) [1, 2, 0] dX8_work_6 rfl (by decide) rfl ?_
  refine x_iconst (v := 0) dX8_work_7 rfl ?_
  refine x_istore_n (L' := [(0, .ref a0), (1, .int a1), (2, .int r2), (3, .int 0)]) [1, 2, 3, 0] dX8_work_8 rfl (by decide) rfl ?_
  exact T_X8_work_9 (G := G) hw FU a0 a1 r2 0 N k100 h
set_option maxHeartbeats 4000000 in
set_option maxRecDepth 100000 in
theorem T_X8_fine {G : XG} {Y : XY} (hw : WT Y) {a0 : Nat} {a1 : Int32} {N : XN} (k100 : kc Y a0 = 18) {N9 : XN} (h : f_X8_fine Y a0 a1 N = some N9) : Cl G yX8_fine cX8_fine 4 none (xR 8 0 0) [.ref a0, .int a1] (.inl none) Y N Y N9 := by
  refine x_entry (by decide) (Nat.le_of_ble_eq_true rfl) rfl ?_
  rw [f_X8_fine] at h
  refine x_iload_n 1 dX8_fine_0 rfl rfl ?_
  refine x_cs (As := [.int a1]) (d' := 1) (zz := yX8_requestAt) dX8_fine_1 ml_X8_203 wt_X8_requestAt wn_X8 wc_X8_requestAt hp_X8_requestAt (by decide) (by decide) rfl (Nat.le_of_ble_eq_true rfl) ⟨Nat.zero_le _, Nat.zero_le _⟩ (T_X8_requestAt (G := G) hw  rfl) ?_
  refine x_istore_n (L' := [(0, .ref a0), (1, .int a1), (2, .int (f_X8_requestAt Y a1 N))]) [1, 2, 0] dX8_fine_4 rfl (by decide) rfl ?_
  refine x_aload_n 0 dX8_fine_5 rfl rfl ?_
  obtain ⟨g1, k2, n3⟩ := wt_X8_8 hw k100
  refine x_getr dX8_fine_6 vc_X8 xin8 fb_X8_8 fl_X8_17 xr_X8_8 k100 g1 ?_
  refine x_iconst (v := 0) dX8_fine_9 rfl ?_
  refine x_iald dX8_fine_10 k2 (xb_at n3 xbl_0_1784) xl_0 ?_
  refine x_aload_n 0 dX8_fine_11 rfl rfl ?_
  refine x_getr dX8_fine_12 vc_X8 xin8 fb_X8_8 fl_X8_17 xr_X8_8 k100 g1 ?_
  refine x_iload_n 2 dX8_fine_15 rfl rfl ?_
  refine x_bipush (v := 7) dX8_fine_16 rfl ?_
  refine x_iadd dX8_fine_18 ?_
  obtain ⟨c4, h⟩ := x_ck h
  refine x_iald dX8_fine_19 k2 (xb_at n3 c4) rfl ?_
  refine x_isub dX8_fine_20 ?_
  refine x_aload_n 0 dX8_fine_21 rfl rfl ?_
  refine x_getr dX8_fine_22 vc_X8 xin8 fb_X8_8 fl_X8_17 xr_X8_8 k100 g1 ?_
  refine x_iconst (v := 5) dX8_fine_25 rfl ?_
  refine x_iald dX8_fine_26 k2 (xb_at n3 xbl_5_1784) xl_5 ?_
  rcases x_if h with ⟨c5, h⟩ | ⟨c5, h⟩
  · refine x_icmp_ge_t (tgt := 31) dX8_fine_27 (by decide) c5 ?_
    refine x_aload_n 0 dX8_fine_31 rfl rfl ?_
    refine x_iload_n 1 dX8_fine_32 rfl rfl ?_
    obtain ⟨r7, N8, q6, h⟩ := x_bd2 h
    refine x_cv (b := a0) (As := [.int a1]) (ci := 8) (d' := 6) (zz := yX8_fineOf) dX8_fine_33 ml_X8_251 wi_X8_fineOf wv_X8_fineOf wn_X8 wc_X8_fineOf hp_X8_fineOf (by decide) (by decide) rfl (Nat.le_of_ble_eq_true rfl) ⟨Nat.zero_le _, Nat.zero_le _⟩ rfl k100 (T_X8_fineOf (G := G) hw k100 q6) ?_
    refine x_istore_n (L' := [(0, .ref a0), (2, .int (f_X8_requestAt Y a1 N)), (3, .int r7)]) [1, 3, 0] dX8_fine_36 rfl (by decide) rfl ?_
    refine x_aload_n 0 dX8_fine_37 rfl rfl ?_
    refine x_aload_n 0 dX8_fine_38 rfl rfl ?_
    refine x_getr dX8_fine_39 vc_X8 xin8 fb_X8_8 fl_X8_17 xr_X8_8 k100 g1 ?_
    refine x_iload_n 1 dX8_fine_42 rfl rfl ?_
    refine x_iconst (v := 4) dX8_fine_43 rfl ?_
    refine x_iadd dX8_fine_44 ?_
    obtain ⟨c9, h⟩ := x_ck h
    refine x_iald dX8_fine_45 k2 (xb_at n3 c9) rfl ?_
    refine x_iload_n 2 dX8_fine_46 rfl rfl ?_
    refine x_iconst (v := 3) dX8_fine_47 rfl ?_
    refine x_aload_n 0 dX8_fine_48 rfl rfl ?_
    refine x_getr dX8_fine_49 vc_X8 xin8 fb_X8_8 fl_X8_17 xr_X8_8 k100 g1 ?_
    refine x_iload_n 1 dX8_fine_52 rfl rfl ?_
    refine x_iconst (v := 0) dX8_fine_53 rfl ?_
    refine x_iadd dX8_fine_54 ?_
    obtain ⟨c10, h⟩ := x_ck h
    refine x_iald dX8_fine_55 k2 (xb_at n3 c10) rfl ?_
    refine x_cs (As := [.int (gi N8 (gp Y a0 8) ((f_X8_requestAt Y a1 N) + 0).toNatClampNeg)]) (d' := 1) (zz := yX8_lineAt) dX8_fine_56 ml_X8_200 wt_X8_lineAt wn_X8 wc_X8_lineAt hp_X8_lineAt (by decide) (by decide) rfl (Nat.le_of_ble_eq_true rfl) ⟨Nat.zero_le _, Nat.zero_le _⟩ (T_X8_lineAt (G := G) hw  rfl) ?_
    refine x_iconst (v := 2) dX8_fine_59 rfl ?_
    refine x_iadd dX8_fine_60 ?_
    obtain ⟨N12, q11, h⟩ := x_bd1 h
    refine x_cv (b := a0) (As := [.int (gi N8 (gp Y a0 8) ((f_X8_requestAt Y a1 N) + 4).toNatClampNeg), .int r7, .int 3, .int ((f_X8_lineAt Y (gi N8 (gp Y a0 8) ((f_X8_requestAt Y a1 N) + 0).toNatClampNeg) N8) + 2)]) (ci := 8) (d' := 7) (zz := yX8_mustPay) dX8_fine_61 ml_X8_254 wi_X8_mustPay wv_X8_mustPay wn_X8 wc_X8_mustPay hp_X8_mustPay (by decide) (by decide) rfl (Nat.le_of_ble_eq_true rfl) ⟨Nat.zero_le _, Nat.zero_le _⟩ rfl k100 (T_X8_mustPay (G := G) hw k100 q11) ?_
    refine x_aload_n 0 dX8_fine_64 rfl rfl ?_
    refine x_getr dX8_fine_65 vc_X8 xin8 fb_X8_8 fl_X8_17 xr_X8_8 k100 g1 ?_
    refine x_iload_n 1 dX8_fine_68 rfl rfl ?_
    refine x_bipush (v := 7) dX8_fine_69 rfl ?_
    refine x_iadd dX8_fine_71 ?_
    refine x_aload_n 0 dX8_fine_72 rfl rfl ?_
    refine x_getr dX8_fine_73 vc_X8 xin8 fb_X8_8 fl_X8_17 xr_X8_8 k100 g1 ?_
    refine x_iconst (v := 0) dX8_fine_76 rfl ?_
    refine x_iald dX8_fine_77 k2 (xb_at n3 xbl_0_1784) xl_0 ?_
    obtain ⟨c13, h⟩ := x_ck h
    refine x_iast dX8_fine_78 k2 (xb_at n3 c13) rfl ?_
    obtain ⟨N14, eN14, h⟩ := x_lt h
    refine x_nmN eN14 ?_
    obtain rfl := x_so h
    exact x_vret dX8_fine_79 rfl rfl rfl
  · refine x_icmp_ge_f (tgt := 31) dX8_fine_27 (by decide) c5 ?_
    obtain rfl := x_so h
    exact x_vret dX8_fine_30 rfl rfl rfl
set_option maxHeartbeats 4000000 in
set_option maxRecDepth 100000 in
theorem T_X8_payRent_50 {G : XG} {Y : XY} (hw : WT Y) {N9 : XN}: ∀ (D9 : Nat) (p_0 : Nat) (v_1 : Int32) (v_2 : Int32) (v_3 : Int32) (v_4 : Int32) (N : XN), kc Y p_0 = 18 → f_X8_payRent_50 Y D9 p_0 v_1 v_2 v_3 v_4 N = some N9 → Ex G yX8_payRent cX8_payRent 5 none (xR 8 0 0) (.inl none) Y N9 0 0 50 [(0, .ref p_0), (1, .int v_1), (2, .int v_2), (3, .int v_3), (4, .int v_4)] [] Y N := by
  intro D9
  induction D9 with
  | zero => intro p_0 v_1 v_2 v_3 v_4 N kk0 h; exact nomatch (show none = some _ from h)
  | succ D9 ih =>
    intro p_0 v_1 v_2 v_3 v_4 N kk0 h
    rw [f_X8_payRent_50] at h
    refine x_iload 4 dX8_payRent_50 rfl ?_
    refine x_iload_n 3 dX8_payRent_52 rfl rfl ?_
    rcases x_if h with ⟨c1, h⟩ | ⟨c1, h⟩
    · refine x_icmp_ge_t (tgt := 121) dX8_payRent_53 (by decide) c1 ?_
      obtain rfl := x_so h
      exact x_vret dX8_payRent_121 rfl rfl rfl
    · refine x_icmp_ge_f (tgt := 121) dX8_payRent_53 (by decide) c1 ?_
      refine x_aload_n 0 dX8_payRent_56 rfl rfl ?_
      refine x_aload_n 0 dX8_payRent_57 rfl rfl ?_
      obtain ⟨g2, k3, n4⟩ := wt_X8_18 hw kk0
      refine x_getr dX8_payRent_58 vc_X8 xin8 fb_X8_18 fl_X8_38 xr_X8_18 kk0 g2 ?_
      refine x_iload 4 dX8_payRent_61 rfl ?_
      obtain ⟨c5, h⟩ := x_ck h
      refine x_iald dX8_payRent_63 k3 (xb_at n4 c5) rfl ?_
      refine x_iload_n 1 dX8_payRent_64 rfl rfl ?_
      obtain ⟨r7, q6, h⟩ := x_bd1 h
      refine x_cv (b := p_0) (As := [.int (gi N (gp Y p_0 18) v_4.toNatClampNeg), .int v_1]) (ci := 8) (d' := 2) (zz := yX8_isTenant) dX8_payRent_65 ml_X8_258 wi_X8_isTenant wv_X8_isTenant wn_X8 wc_X8_isTenant hp_X8_isTenant (by decide) (by decide) rfl (Nat.le_of_ble_eq_true rfl) ⟨Nat.zero_le _, Nat.zero_le _⟩ rfl kk0 (T_X8_isTenant (G := G) hw kk0 q6) ?_
      rcases x_if h with ⟨c8, h⟩ | ⟨c8, h⟩
      · refine x_if_eq_t (tgt := 115) dX8_payRent_68 (by decide) c8 ?_
        refine x_iinc (L' := [(0, .ref p_0), (1, .int v_1), (2, .int v_2), (3, .int v_3), (4, .int (v_4 + 1))]) 4 [1, 2, 3, 4, 0] dX8_payRent_115 rfl rfl (by decide) rfl ?_
        refine x_goto (tgt := 50) dX8_payRent_118 (by decide) ?_
        exact ih p_0 v_1 v_2 v_3 (v_4 + 1) N kk0 h
      · refine x_if_eq_f (tgt := 115) dX8_payRent_68 (by decide) c8 ?_
        refine x_aload_n 0 dX8_payRent_71 rfl rfl ?_
        refine x_aload_n 0 dX8_payRent_72 rfl rfl ?_
        refine x_getr dX8_payRent_73 vc_X8 xin8 fb_X8_18 fl_X8_38 xr_X8_18 kk0 g2 ?_
        refine x_iload 4 dX8_payRent_76 rfl ?_
        obtain ⟨c9, h⟩ := x_ck h
        refine x_iald dX8_payRent_78 k3 (xb_at n4 c9) rfl ?_
        refine x_aload_n 0 dX8_payRent_79 rfl rfl ?_
        obtain ⟨g10, k11, n12⟩ := wt_X8_8 hw kk0
        refine x_getr dX8_payRent_80 vc_X8 xin8 fb_X8_8 fl_X8_17 xr_X8_8 kk0 g10 ?_
        refine x_iload_n 2 dX8_payRent_83 rfl rfl ?_
        refine x_iconst (v := 0) dX8_payRent_84 rfl ?_
        refine x_iadd dX8_payRent_85 ?_
        obtain ⟨c13, h⟩ := x_ck h
        refine x_iald dX8_payRent_86 k11 (xb_at n12 c13) rfl ?_
        refine x_iload_n 3 dX8_payRent_87 rfl rfl ?_
        obtain ⟨c14, h⟩ := x_cn h
        refine x_idiv dX8_payRent_88 c14 ?_
        refine x_iload 4 dX8_payRent_89 rfl ?_
        refine x_aload_n 0 dX8_payRent_91 rfl rfl ?_
        refine x_getr dX8_payRent_92 vc_X8 xin8 fb_X8_8 fl_X8_17 xr_X8_8 kk0 g10 ?_
        refine x_iload_n 2 dX8_payRent_95 rfl rfl ?_
        refine x_iconst (v := 0) dX8_payRent_96 rfl ?_
        refine x_iadd dX8_payRent_97 ?_
        obtain ⟨c15, h⟩ := x_ck h
        refine x_iald dX8_payRent_98 k11 (xb_at n12 c15) rfl ?_
        refine x_iload_n 3 dX8_payRent_99 rfl rfl ?_
        obtain ⟨c16, h⟩ := x_cn h
        refine x_irem dX8_payRent_100 c16 ?_
        rcases x_if h with ⟨c17, h⟩ | ⟨c17, h⟩
        · refine x_icmp_ge_t (tgt := 108) dX8_payRent_101 (by decide) c17 ?_
          refine x_iconst (v := 0) dX8_payRent_108 rfl ?_
          refine x_iadd dX8_payRent_109 ?_
          refine x_iconst (v := 4) dX8_payRent_110 rfl ?_
          refine x_iconst (v := 4) dX8_payRent_111 rfl ?_
          obtain ⟨N19, q18, h⟩ := x_bd1 h
          refine x_cv (b := p_0) (As := [.int (gi N (gp Y p_0 18) v_4.toNatClampNeg), .int (((gi N (gp Y p_0 8) (v_2 + 0).toNatClampNeg) / v_3) + 0), .int 4, .int 4]) (ci := 8) (d' := 7) (zz := yX8_mustPay) dX8_payRent_112 ml_X8_254 wi_X8_mustPay wv_X8_mustPay wn_X8 wc_X8_mustPay hp_X8_mustPay (by decide) (by decide) rfl (Nat.le_of_ble_eq_true rfl) ⟨Nat.zero_le _, Nat.zero_le _⟩ rfl kk0 (T_X8_mustPay (G := G) hw kk0 q18) ?_
          refine x_iinc (L' := [(0, .ref p_0), (1, .int v_1), (2, .int v_2), (3, .int v_3), (4, .int (v_4 + 1))]) 4 [1, 2, 3, 4, 0] dX8_payRent_115 rfl rfl (by decide) rfl ?_
          refine x_goto (tgt := 50) dX8_payRent_118 (by decide) ?_
          exact ih p_0 v_1 v_2 v_3 (v_4 + 1) N19 kk0 h
        · refine x_icmp_ge_f (tgt := 108) dX8_payRent_101 (by decide) c17 ?_
          refine x_iconst (v := 1) dX8_payRent_104 rfl ?_
          refine x_goto (tgt := 109) dX8_payRent_105 (by decide) ?_
          refine x_iadd dX8_payRent_109 ?_
          refine x_iconst (v := 4) dX8_payRent_110 rfl ?_
          refine x_iconst (v := 4) dX8_payRent_111 rfl ?_
          obtain ⟨N21, q20, h⟩ := x_bd1 h
          refine x_cv (b := p_0) (As := [.int (gi N (gp Y p_0 18) v_4.toNatClampNeg), .int (((gi N (gp Y p_0 8) (v_2 + 0).toNatClampNeg) / v_3) + 1), .int 4, .int 4]) (ci := 8) (d' := 7) (zz := yX8_mustPay) dX8_payRent_112 ml_X8_254 wi_X8_mustPay wv_X8_mustPay wn_X8 wc_X8_mustPay hp_X8_mustPay (by decide) (by decide) rfl (Nat.le_of_ble_eq_true rfl) ⟨Nat.zero_le _, Nat.zero_le _⟩ rfl kk0 (T_X8_mustPay (G := G) hw kk0 q20) ?_
          refine x_iinc (L' := [(0, .ref p_0), (1, .int v_1), (2, .int v_2), (3, .int v_3), (4, .int (v_4 + 1))]) 4 [1, 2, 3, 4, 0] dX8_payRent_115 rfl rfl (by decide) rfl ?_
          refine x_goto (tgt := 50) dX8_payRent_118 (by decide) ?_
          exact ih p_0 v_1 v_2 v_3 (v_4 + 1) N21 kk0 h
set_option maxHeartbeats 4000000 in
set_option maxRecDepth 100000 in
theorem T_X8_payRent_17 {G : XG} {Y : XY} (hw : WT Y) {N9 : XN}: ∀ (D9 : Nat) (p_0 : Nat) (v_1 : Int32) (v_2 : Int32) (v_3 : Int32) (v_4 : Int32) (N : XN), kc Y p_0 = 18 → f_X8_payRent_17 Y D9 p_0 v_1 v_2 v_3 v_4 N = some N9 → Ex G yX8_payRent cX8_payRent 5 none (xR 8 0 0) (.inl none) Y N9 0 0 17 [(0, .ref p_0), (1, .int v_1), (2, .int v_2), (3, .int v_3), (4, .int v_4)] [] Y N := by
  intro D9
  induction D9 with
  | zero => intro p_0 v_1 v_2 v_3 v_4 N kk0 h; exact nomatch (show none = some _ from h)
  | succ D9 ih =>
    intro p_0 v_1 v_2 v_3 v_4 N kk0 h
    rw [f_X8_payRent_17] at h
    refine x_iload 4 dX8_payRent_17 rfl ?_
    refine x_iload_n 3 dX8_payRent_19 rfl rfl ?_
    rcases x_if h with ⟨c1, h⟩ | ⟨c1, h⟩
    · refine x_icmp_ge_t (tgt := 47) dX8_payRent_20 (by decide) c1 ?_
      refine x_iconst (v := 0) dX8_payRent_47 rfl ?_
      refine x_istore (L' := [(0, .ref p_0), (1, .int v_1), (2, .int v_2), (3, .int v_3), (4, .int 0)]) [1, 2, 3, 4, 0] dX8_payRent_48 (by decide) rfl ?_
      exact T_X8_payRent_50 (G := G) hw FU p_0 v_1 v_2 v_3 0 N kk0 h
    · refine x_icmp_ge_f (tgt := 47) dX8_payRent_20 (by decide) c1 ?_
      refine x_aload_n 0 dX8_payRent_23 rfl rfl ?_
      obtain ⟨g2, k3, n4⟩ := wt_X8_18 hw kk0
      refine x_getr dX8_payRent_24 vc_X8 xin8 fb_X8_18 fl_X8_38 xr_X8_18 kk0 g2 ?_
      refine x_iload 4 dX8_payRent_27 rfl ?_
      refine x_aload_n 0 dX8_payRent_29 rfl rfl ?_
      obtain ⟨g5, k6, n7⟩ := wt_X8_8 hw kk0
      refine x_getr dX8_payRent_30 vc_X8 xin8 fb_X8_8 fl_X8_17 xr_X8_8 kk0 g5 ?_
      refine x_iload_n 2 dX8_payRent_33 rfl rfl ?_
      refine x_iconst (v := 4) dX8_payRent_34 rfl ?_
      refine x_iadd dX8_payRent_35 ?_
      refine x_iload 4 dX8_payRent_36 rfl ?_
      refine x_iadd dX8_payRent_38 ?_
      obtain ⟨c8, h⟩ := x_ck h
      refine x_iald dX8_payRent_39 k6 (xb_at n7 c8) rfl ?_
      obtain ⟨c9, h⟩ := x_ck h
      refine x_iast dX8_payRent_40 k3 (xb_at n4 c9) rfl ?_
      obtain ⟨N10, eN10, h⟩ := x_lt h
      refine x_nmN eN10 ?_
      refine x_iinc (L' := [(0, .ref p_0), (1, .int v_1), (2, .int v_2), (3, .int v_3), (4, .int (v_4 + 1))]) 4 [1, 2, 3, 4, 0] dX8_payRent_41 rfl rfl (by decide) rfl ?_
      refine x_goto (tgt := 17) dX8_payRent_44 (by decide) ?_
      exact ih p_0 v_1 v_2 v_3 (v_4 + 1) N10 kk0 h
set_option maxHeartbeats 4000000 in
set_option maxRecDepth 100000 in
theorem T_X8_payRent {G : XG} {Y : XY} (hw : WT Y) {a0 : Nat} {a1 : Int32} {N : XN} (k100 : kc Y a0 = 18) {N9 : XN} (h : f_X8_payRent Y a0 a1 N = some N9) : Cl G yX8_payRent cX8_payRent 5 none (xR 8 0 0) [.ref a0, .int a1] (.inl none) Y N Y N9 := by
  refine x_entry (by decide) (Nat.le_of_ble_eq_true rfl) rfl ?_
  rw [f_X8_payRent] at h
  refine x_iload_n 1 dX8_payRent_0 rfl rfl ?_
  refine x_cs (As := [.int a1]) (d' := 1) (zz := yX8_lineAt) dX8_payRent_1 ml_X8_200 wt_X8_lineAt wn_X8 wc_X8_lineAt hp_X8_lineAt (by decide) (by decide) rfl (Nat.le_of_ble_eq_true rfl) ⟨Nat.zero_le _, Nat.zero_le _⟩ (T_X8_lineAt (G := G) hw  rfl) ?_
  refine x_istore_n (L' := [(0, .ref a0), (1, .int a1), (2, .int (f_X8_lineAt Y a1 N))]) [1, 2, 0] dX8_payRent_4 rfl (by decide) rfl ?_
  refine x_aload_n 0 dX8_payRent_5 rfl rfl ?_
  obtain ⟨g1, k2, n3⟩ := wt_X8_8 hw k100
  refine x_getr dX8_payRent_6 vc_X8 xin8 fb_X8_8 fl_X8_17 xr_X8_8 k100 g1 ?_
  refine x_iload_n 2 dX8_payRent_9 rfl rfl ?_
  refine x_iconst (v := 3) dX8_payRent_10 rfl ?_
  refine x_iadd dX8_payRent_11 ?_
  obtain ⟨c4, h⟩ := x_ck h
  refine x_iald dX8_payRent_12 k2 (xb_at n3 c4) rfl ?_
  obtain ⟨v5, ev5, h⟩ := x_lt h
  refine x_nmi ev5 ?_
  refine x_istore_n (L' := [(0, .ref a0), (1, .int a1), (2, .int (f_X8_lineAt Y a1 N)), (3, .int v5)]) [1, 2, 3, 0] dX8_payRent_13 rfl (by decide) rfl ?_
  refine x_iconst (v := 0) dX8_payRent_14 rfl ?_
  refine x_istore (L' := [(0, .ref a0), (1, .int a1), (2, .int (f_X8_lineAt Y a1 N)), (3, .int v5), (4, .int 0)]) [1, 2, 3, 4, 0] dX8_payRent_15 (by decide) rfl ?_
  exact T_X8_payRent_17 (G := G) hw FU a0 a1 (f_X8_lineAt Y a1 N) v5 0 N k100 h
set_option maxHeartbeats 4000000 in
set_option maxRecDepth 100000 in
theorem T_X8_tick_141 {G : XG} {Y : XY} (hw : WT Y) {N9 : XN}: ∀ (D9 : Nat) (p_0 : Nat) (v_1 : Int32) (N : XN), kc Y p_0 = 18 → f_X8_tick_141 Y D9 p_0 v_1 N = some N9 → Ex G yX8_tick cX8_tick 2 none (xR 9 0 0) (.inl none) Y N9 0 0 141 [(0, .ref p_0), (1, .int v_1)] [] Y N := by
  intro D9
  induction D9 with
  | zero => intro p_0 v_1 N kk0 h; exact nomatch (show none = some _ from h)
  | succ D9 ih =>
    intro p_0 v_1 N kk0 h
    rw [f_X8_tick_141] at h
    refine x_iload_n 1 dX8_tick_141 rfl rfl ?_
    refine x_aload_n 0 dX8_tick_142 rfl rfl ?_
    obtain ⟨g1, k2, n3⟩ := wt_X8_8 hw kk0
    refine x_getr dX8_tick_143 vc_X8 xin8 fb_X8_8 fl_X8_17 xr_X8_8 kk0 g1 ?_
    refine x_iconst (v := 2) dX8_tick_146 rfl ?_
    refine x_iald dX8_tick_147 k2 (xb_at n3 xbl_2_1784) xl_2 ?_
    rcases x_if h with ⟨c4, h⟩ | ⟨c4, h⟩
    · refine x_icmp_ge_t (tgt := 162) dX8_tick_148 (by decide) c4 ?_
      refine x_aload_n 0 dX8_tick_162 rfl rfl ?_
      refine x_getr dX8_tick_163 vc_X8 xin8 fb_X8_8 fl_X8_17 xr_X8_8 kk0 g1 ?_
      refine x_iconst (v := 0) dX8_tick_166 rfl ?_
      refine x_dup2 dX8_tick_167 rfl rfl ?_
      refine x_iald dX8_tick_168 k2 (xb_at n3 xbl_0_1784) xl_0 ?_
      refine x_iconst (v := 1) dX8_tick_169 rfl ?_
      refine x_iadd dX8_tick_170 ?_
      refine x_iast dX8_tick_171 k2 (xb_at n3 xbl_0_1784) xl_0 ?_
      obtain ⟨N5, eN5, h⟩ := x_lt h
      refine x_nmN eN5 ?_
      obtain rfl := x_so h
      exact x_vret dX8_tick_172 rfl rfl rfl
    · refine x_icmp_ge_f (tgt := 162) dX8_tick_148 (by decide) c4 ?_
      refine x_aload_n 0 dX8_tick_151 rfl rfl ?_
      refine x_iload_n 1 dX8_tick_152 rfl rfl ?_
      obtain ⟨N7, q6, h⟩ := x_bd1 h
      refine x_cv (b := p_0) (As := [.int v_1]) (ci := 8) (d' := 8) (zz := yX8_payRent) dX8_tick_153 ml_X8_269 wi_X8_payRent wv_X8_payRent wn_X8 wc_X8_payRent hp_X8_payRent (by decide) (by decide) rfl (Nat.le_of_ble_eq_true rfl) ⟨Nat.zero_le _, Nat.zero_le _⟩ rfl kk0 (T_X8_payRent (G := G) hw kk0 q6) ?_
      refine x_iinc (L' := [(0, .ref p_0), (1, .int (v_1 + 1))]) 1 [1, 0] dX8_tick_156 rfl rfl (by decide) rfl ?_
      refine x_goto (tgt := 141) dX8_tick_159 (by decide) ?_
      exact ih p_0 (v_1 + 1) N7 kk0 h
set_option maxHeartbeats 4000000 in
set_option maxRecDepth 100000 in
theorem T_X8_tick_81 {G : XG} {Y : XY} (hw : WT Y) {N9 : XN}: ∀ (D9 : Nat) (p_0 : Nat) (v_1 : Int32) (N : XN), kc Y p_0 = 18 → f_X8_tick_81 Y D9 p_0 v_1 N = some N9 → Ex G yX8_tick cX8_tick 2 none (xR 9 0 0) (.inl none) Y N9 0 0 81 [(0, .ref p_0), (1, .int v_1)] [] Y N := by
  intro D9
  induction D9 with
  | zero => intro p_0 v_1 N kk0 h; exact nomatch (show none = some _ from h)
  | succ D9 ih =>
    intro p_0 v_1 N kk0 h
    rw [f_X8_tick_81] at h
    refine x_iload_n 1 dX8_tick_81 rfl rfl ?_
    refine x_aload_n 0 dX8_tick_82 rfl rfl ?_
    obtain ⟨g1, k2, n3⟩ := wt_X8_8 hw kk0
    refine x_getr dX8_tick_83 vc_X8 xin8 fb_X8_8 fl_X8_17 xr_X8_8 kk0 g1 ?_
    refine x_iconst (v := 3) dX8_tick_86 rfl ?_
    refine x_iald dX8_tick_87 k2 (xb_at n3 xbl_3_1784) xl_3 ?_
    rcases x_if h with ⟨c4, h⟩ | ⟨c4, h⟩
    · refine x_icmp_ge_t (tgt := 120) dX8_tick_88 (by decide) c4 ?_
      refine x_aload_n 0 dX8_tick_120 rfl rfl ?_
      refine x_getr dX8_tick_121 vc_X8 xin8 fb_X8_8 fl_X8_17 xr_X8_8 kk0 g1 ?_
      refine x_iconst (v := 0) dX8_tick_124 rfl ?_
      refine x_iald dX8_tick_125 k2 (xb_at n3 xbl_0_1784) xl_0 ?_
      refine x_iconst (v := 1) dX8_tick_126 rfl ?_
      refine x_iadd dX8_tick_127 ?_
      refine x_aload_n 0 dX8_tick_128 rfl rfl ?_
      refine x_getr dX8_tick_129 vc_X8 xin8 fb_X8_8 fl_X8_17 xr_X8_8 kk0 g1 ?_
      refine x_bipush (v := 8) dX8_tick_132 rfl ?_
      refine x_iald dX8_tick_134 k2 (xb_at n3 xbl_8_1784) xl_8 ?_
      obtain ⟨c5, h⟩ := x_cn h
      refine x_irem dX8_tick_135 c5 ?_
      rcases x_if h with ⟨c6, h⟩ | ⟨c6, h⟩
      · refine x_if_ne_f (tgt := 162) dX8_tick_136 (by decide) c6 ?_
        refine x_iconst (v := 0) dX8_tick_139 rfl ?_
        refine x_istore_n (L' := [(0, .ref p_0), (1, .int 0)]) [1, 0] dX8_tick_140 rfl (by decide) rfl ?_
        exact T_X8_tick_141 (G := G) hw FU p_0 0 N kk0 h
      · refine x_if_ne_t (tgt := 162) dX8_tick_136 (by decide) c6 ?_
        refine x_aload_n 0 dX8_tick_162 rfl rfl ?_
        refine x_getr dX8_tick_163 vc_X8 xin8 fb_X8_8 fl_X8_17 xr_X8_8 kk0 g1 ?_
        refine x_iconst (v := 0) dX8_tick_166 rfl ?_
        refine x_dup2 dX8_tick_167 rfl rfl ?_
        refine x_iald dX8_tick_168 k2 (xb_at n3 xbl_0_1784) xl_0 ?_
        refine x_iconst (v := 1) dX8_tick_169 rfl ?_
        refine x_iadd dX8_tick_170 ?_
        refine x_iast dX8_tick_171 k2 (xb_at n3 xbl_0_1784) xl_0 ?_
        obtain ⟨N7, eN7, h⟩ := x_lt h
        refine x_nmN eN7 ?_
        obtain rfl := x_so h
        exact x_vret dX8_tick_172 rfl rfl rfl
    · refine x_icmp_ge_f (tgt := 120) dX8_tick_88 (by decide) c4 ?_
      refine x_aload_n 0 dX8_tick_91 rfl rfl ?_
      refine x_iload_n 1 dX8_tick_92 rfl rfl ?_
      obtain ⟨r9, q8, h⟩ := x_bd1 h
      refine x_cv (b := p_0) (As := [.int v_1]) (ci := 8) (d' := 3) (zz := yX8_isOpen) dX8_tick_93 ml_X8_209 wi_X8_isOpen wv_X8_isOpen wn_X8 wc_X8_isOpen hp_X8_isOpen (by decide) (by decide) rfl (Nat.le_of_ble_eq_true rfl) ⟨Nat.zero_le _, Nat.zero_le _⟩ rfl kk0 (T_X8_isOpen (G := G) hw kk0 q8) ?_
      rcases x_if h with ⟨c10, h⟩ | ⟨c10, h⟩
      · refine x_if_eq_t (tgt := 114) dX8_tick_96 (by decide) c10 ?_
        refine x_iinc (L' := [(0, .ref p_0), (1, .int (v_1 + 1))]) 1 [1, 0] dX8_tick_114 rfl rfl (by decide) rfl ?_
        refine x_goto (tgt := 81) dX8_tick_117 (by decide) ?_
        exact ih p_0 (v_1 + 1) N kk0 h
      · refine x_if_eq_f (tgt := 114) dX8_tick_96 (by decide) c10 ?_
        refine x_aload_n 0 dX8_tick_99 rfl rfl ?_
        refine x_iload_n 1 dX8_tick_100 rfl rfl ?_
        refine x_iconst (v := 4) dX8_tick_101 rfl ?_
        obtain ⟨r12, q11, h⟩ := x_bd1 h
        refine x_cv (b := p_0) (As := [.int v_1, .int 4]) (ci := 8) (d' := 2) (zz := yX8_ofRequest) dX8_tick_102 ml_X8_206 wi_X8_ofRequest wv_X8_ofRequest wn_X8 wc_X8_ofRequest hp_X8_ofRequest (by decide) (by decide) rfl (Nat.le_of_ble_eq_true rfl) ⟨Nat.zero_le _, Nat.zero_le _⟩ rfl kk0 (T_X8_ofRequest (G := G) hw kk0 q11) ?_
        refine x_iconst (v := (-1)) dX8_tick_105 rfl ?_
        rcases x_if h with ⟨c13, h⟩ | ⟨c13, h⟩
        · refine x_icmp_eq_t (tgt := 114) dX8_tick_106 (by decide) c13 ?_
          refine x_iinc (L' := [(0, .ref p_0), (1, .int (v_1 + 1))]) 1 [1, 0] dX8_tick_114 rfl rfl (by decide) rfl ?_
          refine x_goto (tgt := 81) dX8_tick_117 (by decide) ?_
          exact ih p_0 (v_1 + 1) N kk0 h
        · refine x_icmp_eq_f (tgt := 114) dX8_tick_106 (by decide) c13 ?_
          refine x_aload_n 0 dX8_tick_109 rfl rfl ?_
          refine x_iload_n 1 dX8_tick_110 rfl rfl ?_
          obtain ⟨N15, q14, h⟩ := x_bd1 h
          refine x_cv (b := p_0) (As := [.int v_1]) (ci := 8) (d' := 8) (zz := yX8_fine) dX8_tick_111 ml_X8_267 wi_X8_fine wv_X8_fine wn_X8 wc_X8_fine hp_X8_fine (by decide) (by decide) rfl (Nat.le_of_ble_eq_true rfl) ⟨Nat.zero_le _, Nat.zero_le _⟩ rfl kk0 (T_X8_fine (G := G) hw kk0 q14) ?_
          refine x_iinc (L' := [(0, .ref p_0), (1, .int (v_1 + 1))]) 1 [1, 0] dX8_tick_114 rfl rfl (by decide) rfl ?_
          refine x_goto (tgt := 81) dX8_tick_117 (by decide) ?_
          exact ih p_0 (v_1 + 1) N15 kk0 h
set_option maxHeartbeats 4000000 in
set_option maxRecDepth 100000 in
theorem T_X8_tick_49 {G : XG} {Y : XY} (hw : WT Y) {N9 : XN}: ∀ (D9 : Nat) (p_0 : Nat) (v_1 : Int32) (N : XN), kc Y p_0 = 18 → f_X8_tick_49 Y D9 p_0 v_1 N = some N9 → Ex G yX8_tick cX8_tick 2 none (xR 9 0 0) (.inl none) Y N9 0 0 49 [(0, .ref p_0), (1, .int v_1)] [] Y N := by
  intro D9
  induction D9 with
  | zero => intro p_0 v_1 N kk0 h; exact nomatch (show none = some _ from h)
  | succ D9 ih =>
    intro p_0 v_1 N kk0 h
    rw [f_X8_tick_49] at h
    refine x_iload_n 1 dX8_tick_49 rfl rfl ?_
    refine x_aload_n 0 dX8_tick_50 rfl rfl ?_
    obtain ⟨g1, k2, n3⟩ := wt_X8_8 hw kk0
    refine x_getr dX8_tick_51 vc_X8 xin8 fb_X8_8 fl_X8_17 xr_X8_8 kk0 g1 ?_
    refine x_iconst (v := 1) dX8_tick_54 rfl ?_
    refine x_iald dX8_tick_55 k2 (xb_at n3 xbl_1_1784) xl_1 ?_
    rcases x_if h with ⟨c4, h⟩ | ⟨c4, h⟩
    · refine x_icmp_ge_t (tgt := 79) dX8_tick_56 (by decide) c4 ?_
      refine x_iconst (v := 0) dX8_tick_79 rfl ?_
      refine x_istore_n (L' := [(0, .ref p_0), (1, .int 0)]) [1, 0] dX8_tick_80 rfl (by decide) rfl ?_
      exact T_X8_tick_81 (G := G) hw FU p_0 0 N kk0 h
    · refine x_icmp_ge_f (tgt := 79) dX8_tick_56 (by decide) c4 ?_
      refine x_aload_n 0 dX8_tick_59 rfl rfl ?_
      refine x_iload_n 1 dX8_tick_60 rfl rfl ?_
      refine x_iconst (v := 2) dX8_tick_61 rfl ?_
      obtain ⟨r6, q5, h⟩ := x_bd1 h
      refine x_cv (b := p_0) (As := [.int v_1, .int 2]) (ci := 8) (d' := 2) (zz := yX8_ofHandler) dX8_tick_62 ml_X8_245 wi_X8_ofHandler wv_X8_ofHandler wn_X8 wc_X8_ofHandler hp_X8_ofHandler (by decide) (by decide) rfl (Nat.le_of_ble_eq_true rfl) ⟨Nat.zero_le _, Nat.zero_le _⟩ rfl kk0 (T_X8_ofHandler (G := G) hw kk0 q5) ?_
      rcases x_if h with ⟨c7, h⟩ | ⟨c7, h⟩
      · refine x_if_ne_f (tgt := 73) dX8_tick_65 (by decide) c7 ?_
        refine x_aload_n 0 dX8_tick_68 rfl rfl ?_
        refine x_iload_n 1 dX8_tick_69 rfl rfl ?_
        obtain ⟨N9, q8, h⟩ := x_bd1 h
        refine x_cv (b := p_0) (As := [.int v_1]) (ci := 8) (d' := 5) (zz := yX8_work) dX8_tick_70 ml_X8_264 wi_X8_work wv_X8_work wn_X8 wc_X8_work hp_X8_work (by decide) (by decide) rfl (Nat.le_of_ble_eq_true rfl) ⟨Nat.zero_le _, Nat.zero_le _⟩ rfl kk0 (T_X8_work (G := G) hw kk0 q8) ?_
        refine x_iinc (L' := [(0, .ref p_0), (1, .int (v_1 + 1))]) 1 [1, 0] dX8_tick_73 rfl rfl (by decide) rfl ?_
        refine x_goto (tgt := 49) dX8_tick_76 (by decide) ?_
        exact ih p_0 (v_1 + 1) N9 kk0 h
      · refine x_if_ne_t (tgt := 73) dX8_tick_65 (by decide) c7 ?_
        refine x_iinc (L' := [(0, .ref p_0), (1, .int (v_1 + 1))]) 1 [1, 0] dX8_tick_73 rfl rfl (by decide) rfl ?_
        refine x_goto (tgt := 49) dX8_tick_76 (by decide) ?_
        exact ih p_0 (v_1 + 1) N kk0 h
set_option maxHeartbeats 4000000 in
set_option maxRecDepth 100000 in
theorem T_X8_tick_2 {G : XG} {Y : XY} (hw : WT Y) {N9 : XN}: ∀ (D9 : Nat) (p_0 : Nat) (v_1 : Int32) (N : XN), kc Y p_0 = 18 → f_X8_tick_2 Y D9 p_0 v_1 N = some N9 → Ex G yX8_tick cX8_tick 2 none (xR 9 0 0) (.inl none) Y N9 0 0 2 [(0, .ref p_0), (1, .int v_1)] [] Y N := by
  intro D9
  induction D9 with
  | zero => intro p_0 v_1 N kk0 h; exact nomatch (show none = some _ from h)
  | succ D9 ih =>
    intro p_0 v_1 N kk0 h
    rw [f_X8_tick_2] at h
    refine x_iload_n 1 dX8_tick_2 rfl rfl ?_
    refine x_aload_n 0 dX8_tick_3 rfl rfl ?_
    obtain ⟨g1, k2, n3⟩ := wt_X8_8 hw kk0
    refine x_getr dX8_tick_4 vc_X8 xin8 fb_X8_8 fl_X8_17 xr_X8_8 kk0 g1 ?_
    refine x_iconst (v := 3) dX8_tick_7 rfl ?_
    refine x_iald dX8_tick_8 k2 (xb_at n3 xbl_3_1784) xl_3 ?_
    rcases x_if h with ⟨c4, h⟩ | ⟨c4, h⟩
    · refine x_icmp_ge_t (tgt := 47) dX8_tick_9 (by decide) c4 ?_
      refine x_iconst (v := 0) dX8_tick_47 rfl ?_
      refine x_istore_n (L' := [(0, .ref p_0), (1, .int 0)]) [1, 0] dX8_tick_48 rfl (by decide) rfl ?_
      exact T_X8_tick_49 (G := G) hw FU p_0 0 N kk0 h
    · refine x_icmp_ge_f (tgt := 47) dX8_tick_9 (by decide) c4 ?_
      refine x_aload_n 0 dX8_tick_12 rfl rfl ?_
      refine x_iload_n 1 dX8_tick_13 rfl rfl ?_
      refine x_iconst (v := 3) dX8_tick_14 rfl ?_
      obtain ⟨r6, q5, h⟩ := x_bd1 h
      refine x_cv (b := p_0) (As := [.int v_1, .int 3]) (ci := 8) (d' := 2) (zz := yX8_ofRequest) dX8_tick_15 ml_X8_206 wi_X8_ofRequest wv_X8_ofRequest wn_X8 wc_X8_ofRequest hp_X8_ofRequest (by decide) (by decide) rfl (Nat.le_of_ble_eq_true rfl) ⟨Nat.zero_le _, Nat.zero_le _⟩ rfl kk0 (T_X8_ofRequest (G := G) hw kk0 q5) ?_
      rcases x_if h with ⟨c7, h⟩ | ⟨c7, h⟩
      · refine x_if_ne_f (tgt := 41) dX8_tick_18 (by decide) c7 ?_
        refine x_aload_n 0 dX8_tick_21 rfl rfl ?_
        refine x_iload_n 1 dX8_tick_22 rfl rfl ?_
        refine x_iconst (v := 1) dX8_tick_23 rfl ?_
        obtain ⟨r9, q8, h⟩ := x_bd1 h
        refine x_cv (b := p_0) (As := [.int v_1, .int 1]) (ci := 8) (d' := 2) (zz := yX8_ofRequest) dX8_tick_24 ml_X8_206 wi_X8_ofRequest wv_X8_ofRequest wn_X8 wc_X8_ofRequest hp_X8_ofRequest (by decide) (by decide) rfl (Nat.le_of_ble_eq_true rfl) ⟨Nat.zero_le _, Nat.zero_le _⟩ rfl kk0 (T_X8_ofRequest (G := G) hw kk0 q8) ?_
        refine x_aload_n 0 dX8_tick_27 rfl rfl ?_
        refine x_getr dX8_tick_28 vc_X8 xin8 fb_X8_8 fl_X8_17 xr_X8_8 kk0 g1 ?_
        refine x_iconst (v := 0) dX8_tick_31 rfl ?_
        refine x_iald dX8_tick_32 k2 (xb_at n3 xbl_0_1784) xl_0 ?_
        rcases x_if h with ⟨c10, h⟩ | ⟨c10, h⟩
        · refine x_icmp_ne_f (tgt := 41) dX8_tick_33 (by decide) c10 ?_
          refine x_aload_n 0 dX8_tick_36 rfl rfl ?_
          refine x_iload_n 1 dX8_tick_37 rfl rfl ?_
          obtain ⟨N12, q11, h⟩ := x_bd1 h
          refine x_cv (b := p_0) (As := [.int v_1]) (ci := 8) (d' := 7) (zz := yX8_raiseNow) dX8_tick_38 ml_X8_261 wi_X8_raiseNow wv_X8_raiseNow wn_X8 wc_X8_raiseNow hp_X8_raiseNow (by decide) (by decide) rfl (Nat.le_of_ble_eq_true rfl) ⟨Nat.zero_le _, Nat.zero_le _⟩ rfl kk0 (T_X8_raiseNow (G := G) hw kk0 q11) ?_
          refine x_iinc (L' := [(0, .ref p_0), (1, .int (v_1 + 1))]) 1 [1, 0] dX8_tick_41 rfl rfl (by decide) rfl ?_
          refine x_goto (tgt := 2) dX8_tick_44 (by decide) ?_
          exact ih p_0 (v_1 + 1) N12 kk0 h
        · refine x_icmp_ne_t (tgt := 41) dX8_tick_33 (by decide) c10 ?_
          refine x_iinc (L' := [(0, .ref p_0), (1, .int (v_1 + 1))]) 1 [1, 0] dX8_tick_41 rfl rfl (by decide) rfl ?_
          refine x_goto (tgt := 2) dX8_tick_44 (by decide) ?_
          exact ih p_0 (v_1 + 1) N kk0 h
      · refine x_if_ne_t (tgt := 41) dX8_tick_18 (by decide) c7 ?_
        refine x_iinc (L' := [(0, .ref p_0), (1, .int (v_1 + 1))]) 1 [1, 0] dX8_tick_41 rfl rfl (by decide) rfl ?_
        refine x_goto (tgt := 2) dX8_tick_44 (by decide) ?_
        exact ih p_0 (v_1 + 1) N kk0 h
set_option maxHeartbeats 4000000 in
set_option maxRecDepth 100000 in
theorem T_X8_tick {G : XG} {Y : XY} (hw : WT Y) {a0 : Nat} {N : XN} (k100 : kc Y a0 = 18) {N9 : XN} (h : f_X8_tick Y a0 N = some N9) : Cl G yX8_tick cX8_tick 2 none (xR 9 0 0) [.ref a0] (.inl none) Y N Y N9 := by
  refine x_entry (by decide) (Nat.le_of_ble_eq_true rfl) rfl ?_
  rw [f_X8_tick] at h
  refine x_iconst (v := 0) dX8_tick_0 rfl ?_
  refine x_istore_n (L' := [(0, .ref a0), (1, .int 0)]) [1, 0] dX8_tick_1 rfl (by decide) rfl ?_
  exact T_X8_tick_2 (G := G) hw FU a0 0 N k100 h
set_option maxHeartbeats 4000000 in
set_option maxRecDepth 100000 in
theorem T_X8_noHandler {G : XG} {Y : XY} (hw : WT Y) {a0 : Nat} {a1 : Int32} {N : XN} (k100 : kc Y a0 = 18) {r9 : Int32} {N9 : XN} (h : f_X8_noHandler Y a0 a1 N = some (r9, N9)) : Cl G yX8_noHandler cX8_noHandler 2 (some .boolean) (xR 2 0 0) [.ref a0, .int a1] (.inl (some (.int r9))) Y N Y N9 := by
  refine x_entry (by decide) (Nat.le_of_ble_eq_true rfl) rfl ?_
  rw [f_X8_noHandler] at h
  refine x_aload_n 0 dX8_noHandler_0 rfl rfl ?_
  refine x_iload_n 1 dX8_noHandler_1 rfl rfl ?_
  refine x_iconst (v := 0) dX8_noHandler_2 rfl ?_
  refine x_aload_n 0 dX8_noHandler_3 rfl rfl ?_
  obtain ⟨g1, k2, n3⟩ := wt_X8_8 hw k100
  refine x_getr dX8_noHandler_4 vc_X8 xin8 fb_X8_8 fl_X8_17 xr_X8_8 k100 g1 ?_
  refine x_iconst (v := 1) dX8_noHandler_7 rfl ?_
  refine x_iald dX8_noHandler_8 k2 (xb_at n3 xbl_1_1784) xl_1 ?_
  refine x_iconst (v := 1) dX8_noHandler_9 rfl ?_
  refine x_isub dX8_noHandler_10 ?_
  refine x_cs (As := [.int a1, .int 0, .int ((gi N (gp Y a0 8) 1) - 1)]) (d' := 1) (zz := yX8_in) dX8_noHandler_11 ml_X8_67 wt_X8_in wn_X8 wc_X8_in hp_X8_in (by decide) (by decide) rfl (Nat.le_of_ble_eq_true rfl) ⟨Nat.zero_le _, Nat.zero_le _⟩ (T_X8_in (G := G) hw  rfl) ?_
  rcases x_if h with ⟨c4, h⟩ | ⟨c4, h⟩
  · refine x_if_ne_f (tgt := 21) dX8_noHandler_14 (by decide) c4 ?_
    refine x_iconst (v := 1) dX8_noHandler_17 rfl ?_
    refine x_goto (tgt := 22) dX8_noHandler_18 (by decide) ?_
    refine x_iconst (v := 1) dX8_noHandler_22 rfl ?_
    obtain ⟨r6, N7, q5, h⟩ := x_bd2 h
    refine x_cv (b := a0) (As := [.int 1, .int 1]) (ci := 8) (d' := 1) (zz := yX8_fails) dX8_noHandler_23 ml_X8_181 wi_X8_fails wv_X8_fails wn_X8 wc_X8_fails hp_X8_fails (by decide) (by decide) rfl (Nat.le_of_ble_eq_true rfl) ⟨Nat.zero_le _, Nat.zero_le _⟩ rfl k100 (T_X8_fails (G := G) hw k100 q5) ?_
    obtain ⟨c8, h⟩ := x_ck h
    obtain ⟨rfl, rfl⟩ := Prod.mk.inj (x_so h)
    exact x_zret dX8_noHandler_26 rfl (xz_or c8) rfl rfl
  · refine x_if_ne_t (tgt := 21) dX8_noHandler_14 (by decide) c4 ?_
    refine x_iconst (v := 0) dX8_noHandler_21 rfl ?_
    refine x_iconst (v := 1) dX8_noHandler_22 rfl ?_
    obtain ⟨r10, N11, q9, h⟩ := x_bd2 h
    refine x_cv (b := a0) (As := [.int 0, .int 1]) (ci := 8) (d' := 1) (zz := yX8_fails) dX8_noHandler_23 ml_X8_181 wi_X8_fails wv_X8_fails wn_X8 wc_X8_fails hp_X8_fails (by decide) (by decide) rfl (Nat.le_of_ble_eq_true rfl) ⟨Nat.zero_le _, Nat.zero_le _⟩ rfl k100 (T_X8_fails (G := G) hw k100 q9) ?_
    obtain ⟨c12, h⟩ := x_ck h
    obtain ⟨rfl, rfl⟩ := Prod.mk.inj (x_so h)
    exact x_zret dX8_noHandler_26 rfl (xz_or c12) rfl rfl
set_option maxHeartbeats 4000000 in
set_option maxRecDepth 100000 in
theorem T_X8_noLine {G : XG} {Y : XY} (hw : WT Y) {a0 : Nat} {a1 : Int32} {N : XN} (k100 : kc Y a0 = 18) {r9 : Int32} {N9 : XN} (h : f_X8_noLine Y a0 a1 N = some (r9, N9)) : Cl G yX8_noLine cX8_noLine 2 (some .boolean) (xR 2 0 0) [.ref a0, .int a1] (.inl (some (.int r9))) Y N Y N9 := by
  refine x_entry (by decide) (Nat.le_of_ble_eq_true rfl) rfl ?_
  rw [f_X8_noLine] at h
  refine x_aload_n 0 dX8_noLine_0 rfl rfl ?_
  refine x_iload_n 1 dX8_noLine_1 rfl rfl ?_
  refine x_iconst (v := 0) dX8_noLine_2 rfl ?_
  refine x_aload_n 0 dX8_noLine_3 rfl rfl ?_
  obtain ⟨g1, k2, n3⟩ := wt_X8_8 hw k100
  refine x_getr dX8_noLine_4 vc_X8 xin8 fb_X8_8 fl_X8_17 xr_X8_8 k100 g1 ?_
  refine x_iconst (v := 2) dX8_noLine_7 rfl ?_
  refine x_iald dX8_noLine_8 k2 (xb_at n3 xbl_2_1784) xl_2 ?_
  refine x_iconst (v := 1) dX8_noLine_9 rfl ?_
  refine x_isub dX8_noLine_10 ?_
  refine x_cs (As := [.int a1, .int 0, .int ((gi N (gp Y a0 8) 2) - 1)]) (d' := 1) (zz := yX8_in) dX8_noLine_11 ml_X8_67 wt_X8_in wn_X8 wc_X8_in hp_X8_in (by decide) (by decide) rfl (Nat.le_of_ble_eq_true rfl) ⟨Nat.zero_le _, Nat.zero_le _⟩ (T_X8_in (G := G) hw  rfl) ?_
  rcases x_if h with ⟨c4, h⟩ | ⟨c4, h⟩
  · refine x_if_ne_f (tgt := 21) dX8_noLine_14 (by decide) c4 ?_
    refine x_iconst (v := 1) dX8_noLine_17 rfl ?_
    refine x_goto (tgt := 22) dX8_noLine_18 (by decide) ?_
    refine x_iconst (v := 1) dX8_noLine_22 rfl ?_
    obtain ⟨r6, N7, q5, h⟩ := x_bd2 h
    refine x_cv (b := a0) (As := [.int 1, .int 1]) (ci := 8) (d' := 1) (zz := yX8_fails) dX8_noLine_23 ml_X8_181 wi_X8_fails wv_X8_fails wn_X8 wc_X8_fails hp_X8_fails (by decide) (by decide) rfl (Nat.le_of_ble_eq_true rfl) ⟨Nat.zero_le _, Nat.zero_le _⟩ rfl k100 (T_X8_fails (G := G) hw k100 q5) ?_
    obtain ⟨c8, h⟩ := x_ck h
    obtain ⟨rfl, rfl⟩ := Prod.mk.inj (x_so h)
    exact x_zret dX8_noLine_26 rfl (xz_or c8) rfl rfl
  · refine x_if_ne_t (tgt := 21) dX8_noLine_14 (by decide) c4 ?_
    refine x_iconst (v := 0) dX8_noLine_21 rfl ?_
    refine x_iconst (v := 1) dX8_noLine_22 rfl ?_
    obtain ⟨r10, N11, q9, h⟩ := x_bd2 h
    refine x_cv (b := a0) (As := [.int 0, .int 1]) (ci := 8) (d' := 1) (zz := yX8_fails) dX8_noLine_23 ml_X8_181 wi_X8_fails wv_X8_fails wn_X8 wc_X8_fails hp_X8_fails (by decide) (by decide) rfl (Nat.le_of_ble_eq_true rfl) ⟨Nat.zero_le _, Nat.zero_le _⟩ rfl k100 (T_X8_fails (G := G) hw k100 q9) ?_
    obtain ⟨c12, h⟩ := x_ck h
    obtain ⟨rfl, rfl⟩ := Prod.mk.inj (x_so h)
    exact x_zret dX8_noLine_26 rfl (xz_or c12) rfl rfl
set_option maxHeartbeats 4000000 in
set_option maxRecDepth 100000 in
theorem T_X8_noRequest {G : XG} {Y : XY} (hw : WT Y) {a0 : Nat} {a1 : Int32} {N : XN} (k100 : kc Y a0 = 18) {r9 : Int32} {N9 : XN} (h : f_X8_noRequest Y a0 a1 N = some (r9, N9)) : Cl G yX8_noRequest cX8_noRequest 2 (some .boolean) (xR 2 0 0) [.ref a0, .int a1] (.inl (some (.int r9))) Y N Y N9 := by
  refine x_entry (by decide) (Nat.le_of_ble_eq_true rfl) rfl ?_
  rw [f_X8_noRequest] at h
  refine x_aload_n 0 dX8_noRequest_0 rfl rfl ?_
  refine x_iload_n 1 dX8_noRequest_1 rfl rfl ?_
  refine x_iconst (v := 0) dX8_noRequest_2 rfl ?_
  refine x_aload_n 0 dX8_noRequest_3 rfl rfl ?_
  obtain ⟨g1, k2, n3⟩ := wt_X8_8 hw k100
  refine x_getr dX8_noRequest_4 vc_X8 xin8 fb_X8_8 fl_X8_17 xr_X8_8 k100 g1 ?_
  refine x_iconst (v := 3) dX8_noRequest_7 rfl ?_
  refine x_iald dX8_noRequest_8 k2 (xb_at n3 xbl_3_1784) xl_3 ?_
  refine x_iconst (v := 1) dX8_noRequest_9 rfl ?_
  refine x_isub dX8_noRequest_10 ?_
  refine x_cs (As := [.int a1, .int 0, .int ((gi N (gp Y a0 8) 3) - 1)]) (d' := 1) (zz := yX8_in) dX8_noRequest_11 ml_X8_67 wt_X8_in wn_X8 wc_X8_in hp_X8_in (by decide) (by decide) rfl (Nat.le_of_ble_eq_true rfl) ⟨Nat.zero_le _, Nat.zero_le _⟩ (T_X8_in (G := G) hw  rfl) ?_
  rcases x_if h with ⟨c4, h⟩ | ⟨c4, h⟩
  · refine x_if_ne_f (tgt := 21) dX8_noRequest_14 (by decide) c4 ?_
    refine x_iconst (v := 1) dX8_noRequest_17 rfl ?_
    refine x_goto (tgt := 22) dX8_noRequest_18 (by decide) ?_
    refine x_iconst (v := 1) dX8_noRequest_22 rfl ?_
    obtain ⟨r6, N7, q5, h⟩ := x_bd2 h
    refine x_cv (b := a0) (As := [.int 1, .int 1]) (ci := 8) (d' := 1) (zz := yX8_fails) dX8_noRequest_23 ml_X8_181 wi_X8_fails wv_X8_fails wn_X8 wc_X8_fails hp_X8_fails (by decide) (by decide) rfl (Nat.le_of_ble_eq_true rfl) ⟨Nat.zero_le _, Nat.zero_le _⟩ rfl k100 (T_X8_fails (G := G) hw k100 q5) ?_
    obtain ⟨c8, h⟩ := x_ck h
    obtain ⟨rfl, rfl⟩ := Prod.mk.inj (x_so h)
    exact x_zret dX8_noRequest_26 rfl (xz_or c8) rfl rfl
  · refine x_if_ne_t (tgt := 21) dX8_noRequest_14 (by decide) c4 ?_
    refine x_iconst (v := 0) dX8_noRequest_21 rfl ?_
    refine x_iconst (v := 1) dX8_noRequest_22 rfl ?_
    obtain ⟨r10, N11, q9, h⟩ := x_bd2 h
    refine x_cv (b := a0) (As := [.int 0, .int 1]) (ci := 8) (d' := 1) (zz := yX8_fails) dX8_noRequest_23 ml_X8_181 wi_X8_fails wv_X8_fails wn_X8 wc_X8_fails hp_X8_fails (by decide) (by decide) rfl (Nat.le_of_ble_eq_true rfl) ⟨Nat.zero_le _, Nat.zero_le _⟩ rfl k100 (T_X8_fails (G := G) hw k100 q9) ?_
    obtain ⟨c12, h⟩ := x_ck h
    obtain ⟨rfl, rfl⟩ := Prod.mk.inj (x_so h)
    exact x_zret dX8_noRequest_26 rfl (xz_or c12) rfl rfl
set_option maxHeartbeats 4000000 in
set_option maxRecDepth 100000 in
theorem T_X8_noNumber {G : XG} {Y : XY} (hw : WT Y) {a0 : Nat} {a1 : Int32} {a2 : Int32} {a3 : Int32} {N : XN} (k100 : kc Y a0 = 18) {r9 : Int32} {N9 : XN} (h : f_X8_noNumber Y a0 a1 a2 a3 N = some (r9, N9)) : Cl G yX8_noNumber cX8_noNumber 4 (some .boolean) (xR 2 0 0) [.ref a0, .int a1, .int a2, .int a3] (.inl (some (.int r9))) Y N Y N9 := by
  refine x_entry (by decide) (Nat.le_of_ble_eq_true rfl) rfl ?_
  rw [f_X8_noNumber] at h
  refine x_aload_n 0 dX8_noNumber_0 rfl rfl ?_
  refine x_iload_n 1 dX8_noNumber_1 rfl rfl ?_
  refine x_iload_n 2 dX8_noNumber_2 rfl rfl ?_
  refine x_iload_n 3 dX8_noNumber_3 rfl rfl ?_
  refine x_cs (As := [.int a1, .int a2, .int a3]) (d' := 1) (zz := yX8_in) dX8_noNumber_4 ml_X8_67 wt_X8_in wn_X8 wc_X8_in hp_X8_in (by decide) (by decide) rfl (Nat.le_of_ble_eq_true rfl) ⟨Nat.zero_le _, Nat.zero_le _⟩ (T_X8_in (G := G) hw  rfl) ?_
  rcases x_if h with ⟨c1, h⟩ | ⟨c1, h⟩
  · refine x_if_ne_f (tgt := 14) dX8_noNumber_7 (by decide) c1 ?_
    refine x_iconst (v := 1) dX8_noNumber_10 rfl ?_
    refine x_goto (tgt := 15) dX8_noNumber_11 (by decide) ?_
    refine x_iconst (v := 2) dX8_noNumber_15 rfl ?_
    obtain ⟨r3, N4, q2, h⟩ := x_bd2 h
    refine x_cv (b := a0) (As := [.int 1, .int 2]) (ci := 8) (d' := 1) (zz := yX8_fails) dX8_noNumber_16 ml_X8_181 wi_X8_fails wv_X8_fails wn_X8 wc_X8_fails hp_X8_fails (by decide) (by decide) rfl (Nat.le_of_ble_eq_true rfl) ⟨Nat.zero_le _, Nat.zero_le _⟩ rfl k100 (T_X8_fails (G := G) hw k100 q2) ?_
    obtain ⟨c5, h⟩ := x_ck h
    obtain ⟨rfl, rfl⟩ := Prod.mk.inj (x_so h)
    exact x_zret dX8_noNumber_19 rfl (xz_or c5) rfl rfl
  · refine x_if_ne_t (tgt := 14) dX8_noNumber_7 (by decide) c1 ?_
    refine x_iconst (v := 0) dX8_noNumber_14 rfl ?_
    refine x_iconst (v := 2) dX8_noNumber_15 rfl ?_
    obtain ⟨r7, N8, q6, h⟩ := x_bd2 h
    refine x_cv (b := a0) (As := [.int 0, .int 2]) (ci := 8) (d' := 1) (zz := yX8_fails) dX8_noNumber_16 ml_X8_181 wi_X8_fails wv_X8_fails wn_X8 wc_X8_fails hp_X8_fails (by decide) (by decide) rfl (Nat.le_of_ble_eq_true rfl) ⟨Nat.zero_le _, Nat.zero_le _⟩ rfl k100 (T_X8_fails (G := G) hw k100 q6) ?_
    obtain ⟨c9, h⟩ := x_ck h
    obtain ⟨rfl, rfl⟩ := Prod.mk.inj (x_so h)
    exact x_zret dX8_noNumber_19 rfl (xz_or c9) rfl rfl
set_option maxHeartbeats 4000000 in
set_option maxRecDepth 100000 in
theorem T_X8_countOf_4 {G : XG} {Y : XY} (hw : WT Y) {r9 : Int32}: ∀ (D9 : Nat) (p_0 : Nat) (v_1 : Int32) (v_2 : Int32) (v_3 : Int32) (N : XN), kc Y p_0 = 18 → f_X8_countOf_4 Y D9 p_0 v_1 v_2 v_3 N = some r9 → Ex G yX8_countOf cX8_countOf 4 (some .int) (xR 3 0 0) (.inl (some (.int r9))) Y N 0 0 4 [(0, .ref p_0), (1, .int v_1), (2, .int v_2), (3, .int v_3)] [] Y N := by
  intro D9
  induction D9 with
  | zero => intro p_0 v_1 v_2 v_3 N kk0 h; exact nomatch (show none = some _ from h)
  | succ D9 ih =>
    intro p_0 v_1 v_2 v_3 N kk0 h
    rw [f_X8_countOf_4] at h
    refine x_iload_n 3 dX8_countOf_4 rfl rfl ?_
    refine x_aload_n 0 dX8_countOf_5 rfl rfl ?_
    obtain ⟨g1, k2, n3⟩ := wt_X8_8 hw kk0
    refine x_getr dX8_countOf_6 vc_X8 xin8 fb_X8_8 fl_X8_17 xr_X8_8 kk0 g1 ?_
    refine x_iconst (v := 3) dX8_countOf_9 rfl ?_
    refine x_iald dX8_countOf_10 k2 (xb_at n3 xbl_3_1784) xl_3 ?_
    rcases x_if h with ⟨c4, h⟩ | ⟨c4, h⟩
    · refine x_icmp_ge_t (tgt := 38) dX8_countOf_11 (by decide) c4 ?_
      refine x_iload_n 2 dX8_countOf_38 rfl rfl ?_
      obtain rfl := x_so h
      exact x_iret dX8_countOf_39 rfl rfl rfl
    · refine x_icmp_ge_f (tgt := 38) dX8_countOf_11 (by decide) c4 ?_
      refine x_iload_n 2 dX8_countOf_14 rfl rfl ?_
      refine x_aload_n 0 dX8_countOf_15 rfl rfl ?_
      refine x_iload_n 3 dX8_countOf_16 rfl rfl ?_
      refine x_iconst (v := 3) dX8_countOf_17 rfl ?_
      obtain ⟨r6, q5, h⟩ := x_bd1 h
      refine x_cv (b := p_0) (As := [.int v_3, .int 3]) (ci := 8) (d' := 2) (zz := yX8_ofRequest) dX8_countOf_18 ml_X8_206 wi_X8_ofRequest wv_X8_ofRequest wn_X8 wc_X8_ofRequest hp_X8_ofRequest (by decide) (by decide) rfl (Nat.le_of_ble_eq_true rfl) ⟨Nat.zero_le _, Nat.zero_le _⟩ rfl kk0 (T_X8_ofRequest (G := G) hw kk0 q5) ?_
      refine x_iload_n 1 dX8_countOf_21 rfl rfl ?_
      rcases x_if h with ⟨c7, h⟩ | ⟨c7, h⟩
      · refine x_icmp_ne_f (tgt := 29) dX8_countOf_22 (by decide) c7 ?_
        refine x_iconst (v := 1) dX8_countOf_25 rfl ?_
        refine x_goto (tgt := 30) dX8_countOf_26 (by decide) ?_
        refine x_iadd dX8_countOf_30 ?_
        refine x_istore_n (L' := [(0, .ref p_0), (1, .int v_1), (2, .int (v_2 + 1)), (3, .int v_3)]) [1, 2, 0, 3] dX8_countOf_31 rfl (by decide) rfl ?_
        refine x_iinc (L' := [(0, .ref p_0), (1, .int v_1), (2, .int (v_2 + 1)), (3, .int (v_3 + 1))]) 3 [1, 2, 3, 0] dX8_countOf_32 rfl rfl (by decide) rfl ?_
        refine x_goto (tgt := 4) dX8_countOf_35 (by decide) ?_
        exact ih p_0 v_1 (v_2 + 1) (v_3 + 1) N kk0 h
      · refine x_icmp_ne_t (tgt := 29) dX8_countOf_22 (by decide) c7 ?_
        refine x_iconst (v := 0) dX8_countOf_29 rfl ?_
        refine x_iadd dX8_countOf_30 ?_
        refine x_istore_n (L' := [(0, .ref p_0), (1, .int v_1), (2, .int (v_2 + 0)), (3, .int v_3)]) [1, 2, 0, 3] dX8_countOf_31 rfl (by decide) rfl ?_
        refine x_iinc (L' := [(0, .ref p_0), (1, .int v_1), (2, .int (v_2 + 0)), (3, .int (v_3 + 1))]) 3 [1, 2, 3, 0] dX8_countOf_32 rfl rfl (by decide) rfl ?_
        refine x_goto (tgt := 4) dX8_countOf_35 (by decide) ?_
        exact ih p_0 v_1 (v_2 + 0) (v_3 + 1) N kk0 h
set_option maxHeartbeats 4000000 in
set_option maxRecDepth 100000 in
theorem T_X8_countOf {G : XG} {Y : XY} (hw : WT Y) {a0 : Nat} {a1 : Int32} {N : XN} (k100 : kc Y a0 = 18) {r9 : Int32} (h : f_X8_countOf Y a0 a1 N = some r9) : Cl G yX8_countOf cX8_countOf 4 (some .int) (xR 3 0 0) [.ref a0, .int a1] (.inl (some (.int r9))) Y N Y N := by
  refine x_entry (by decide) (Nat.le_of_ble_eq_true rfl) rfl ?_
  rw [f_X8_countOf] at h
  refine x_iconst (v := 0) dX8_countOf_0 rfl ?_
  refine x_istore_n (L' := [(0, .ref a0), (1, .int a1), (2, .int 0)]) [1, 2, 0] dX8_countOf_1 rfl (by decide) rfl ?_
  refine x_iconst (v := 0) dX8_countOf_2 rfl ?_
  refine x_istore_n (L' := [(0, .ref a0), (1, .int a1), (2, .int 0), (3, .int 0)]) [1, 2, 3, 0] dX8_countOf_3 rfl (by decide) rfl ?_
  exact T_X8_countOf_4 (G := G) hw FU a0 a1 0 0 N k100 h
set_option maxHeartbeats 4000000 in
set_option maxRecDepth 100000 in
theorem T_X8_broken_4 {G : XG} {Y : XY} (hw : WT Y) {r9 : Int32}: ∀ (D9 : Nat) (p_0 : Nat) (v_1 : Int32) (v_2 : Int32) (N : XN), kc Y p_0 = 18 → f_X8_broken_4 Y D9 p_0 v_1 v_2 N = some r9 → Ex G yX8_broken cX8_broken 3 (some .int) (xR 3 0 0) (.inl (some (.int r9))) Y N 0 0 4 [(0, .ref p_0), (1, .int v_1), (2, .int v_2)] [] Y N := by
  intro D9
  induction D9 with
  | zero => intro p_0 v_1 v_2 N kk0 h; exact nomatch (show none = some _ from h)
  | succ D9 ih =>
    intro p_0 v_1 v_2 N kk0 h
    rw [f_X8_broken_4] at h
    refine x_iload_n 2 dX8_broken_4 rfl rfl ?_
    refine x_aload_n 0 dX8_broken_5 rfl rfl ?_
    obtain ⟨g1, k2, n3⟩ := wt_X8_8 hw kk0
    refine x_getr dX8_broken_6 vc_X8 xin8 fb_X8_8 fl_X8_17 xr_X8_8 kk0 g1 ?_
    refine x_iconst (v := 1) dX8_broken_9 rfl ?_
    refine x_iald dX8_broken_10 k2 (xb_at n3 xbl_1_1784) xl_1 ?_
    rcases x_if h with ⟨c4, h⟩ | ⟨c4, h⟩
    · refine x_icmp_ge_t (tgt := 29) dX8_broken_11 (by decide) c4 ?_
      refine x_iload_n 1 dX8_broken_29 rfl rfl ?_
      obtain rfl := x_so h
      exact x_iret dX8_broken_30 rfl rfl rfl
    · refine x_icmp_ge_f (tgt := 29) dX8_broken_11 (by decide) c4 ?_
      refine x_iload_n 1 dX8_broken_14 rfl rfl ?_
      refine x_aload_n 0 dX8_broken_15 rfl rfl ?_
      refine x_iload_n 2 dX8_broken_16 rfl rfl ?_
      refine x_iconst (v := 2) dX8_broken_17 rfl ?_
      obtain ⟨r6, q5, h⟩ := x_bd1 h
      refine x_cv (b := p_0) (As := [.int v_2, .int 2]) (ci := 8) (d' := 2) (zz := yX8_ofHandler) dX8_broken_18 ml_X8_245 wi_X8_ofHandler wv_X8_ofHandler wn_X8 wc_X8_ofHandler hp_X8_ofHandler (by decide) (by decide) rfl (Nat.le_of_ble_eq_true rfl) ⟨Nat.zero_le _, Nat.zero_le _⟩ rfl kk0 (T_X8_ofHandler (G := G) hw kk0 q5) ?_
      refine x_iadd dX8_broken_21 ?_
      refine x_istore_n (L' := [(0, .ref p_0), (1, .int (v_1 + r6)), (2, .int v_2)]) [1, 0, 2] dX8_broken_22 rfl (by decide) rfl ?_
      refine x_iinc (L' := [(0, .ref p_0), (1, .int (v_1 + r6)), (2, .int (v_2 + 1))]) 2 [1, 2, 0] dX8_broken_23 rfl rfl (by decide) rfl ?_
      refine x_goto (tgt := 4) dX8_broken_26 (by decide) ?_
      exact ih p_0 (v_1 + r6) (v_2 + 1) N kk0 h
set_option maxHeartbeats 4000000 in
set_option maxRecDepth 100000 in
theorem T_X8_broken {G : XG} {Y : XY} (hw : WT Y) {a0 : Nat} {N : XN} (k100 : kc Y a0 = 18) {r9 : Int32} (h : f_X8_broken Y a0 N = some r9) : Cl G yX8_broken cX8_broken 3 (some .int) (xR 3 0 0) [.ref a0] (.inl (some (.int r9))) Y N Y N := by
  refine x_entry (by decide) (Nat.le_of_ble_eq_true rfl) rfl ?_
  rw [f_X8_broken] at h
  refine x_iconst (v := 0) dX8_broken_0 rfl ?_
  refine x_istore_n (L' := [(0, .ref a0), (1, .int 0)]) [1, 0] dX8_broken_1 rfl (by decide) rfl ?_
  refine x_iconst (v := 0) dX8_broken_2 rfl ?_
  refine x_istore_n (L' := [(0, .ref a0), (1, .int 0), (2, .int 0)]) [1, 2, 0] dX8_broken_3 rfl (by decide) rfl ?_
  exact T_X8_broken_4 (G := G) hw FU a0 0 0 N k100 h
set_option maxHeartbeats 4000000 in
set_option maxRecDepth 100000 in
theorem T_X8_coins_36 {G : XG} {Y : XY} (hw : WT Y) {r9 : Int32}: ∀ (D9 : Nat) (p_0 : Nat) (v_1 : Int32) (v_2 : Int32) (N : XN), kc Y p_0 = 18 → f_X8_coins_36 Y D9 p_0 v_1 v_2 N = some r9 → Ex G yX8_coins cX8_coins 3 (some .int) (xR 3 0 0) (.inl (some (.int r9))) Y N 0 0 36 [(0, .ref p_0), (1, .int v_1), (2, .int v_2)] [] Y N := by
  intro D9
  induction D9 with
  | zero => intro p_0 v_1 v_2 N kk0 h; exact nomatch (show none = some _ from h)
  | succ D9 ih =>
    intro p_0 v_1 v_2 N kk0 h
    rw [f_X8_coins_36] at h
    refine x_iload_n 2 dX8_coins_36 rfl rfl ?_
    refine x_aload_n 0 dX8_coins_37 rfl rfl ?_
    obtain ⟨g1, k2, n3⟩ := wt_X8_8 hw kk0
    refine x_getr dX8_coins_38 vc_X8 xin8 fb_X8_8 fl_X8_17 xr_X8_8 kk0 g1 ?_
    refine x_iconst (v := 2) dX8_coins_41 rfl ?_
    refine x_iald dX8_coins_42 k2 (xb_at n3 xbl_2_1784) xl_2 ?_
    rcases x_if h with ⟨c4, h⟩ | ⟨c4, h⟩
    · refine x_icmp_ge_t (tgt := 61) dX8_coins_43 (by decide) c4 ?_
      refine x_iload_n 1 dX8_coins_61 rfl rfl ?_
      obtain rfl := x_so h
      exact x_iret dX8_coins_62 rfl rfl rfl
    · refine x_icmp_ge_f (tgt := 61) dX8_coins_43 (by decide) c4 ?_
      refine x_iload_n 1 dX8_coins_46 rfl rfl ?_
      refine x_aload_n 0 dX8_coins_47 rfl rfl ?_
      refine x_iload_n 2 dX8_coins_48 rfl rfl ?_
      refine x_iconst (v := 2) dX8_coins_49 rfl ?_
      obtain ⟨r6, q5, h⟩ := x_bd1 h
      refine x_cv (b := p_0) (As := [.int v_2, .int 2]) (ci := 8) (d' := 2) (zz := yX8_ofLine) dX8_coins_50 ml_X8_222 wi_X8_ofLine wv_X8_ofLine wn_X8 wc_X8_ofLine hp_X8_ofLine (by decide) (by decide) rfl (Nat.le_of_ble_eq_true rfl) ⟨Nat.zero_le _, Nat.zero_le _⟩ rfl kk0 (T_X8_ofLine (G := G) hw kk0 q5) ?_
      refine x_iadd dX8_coins_53 ?_
      refine x_istore_n (L' := [(0, .ref p_0), (1, .int (v_1 + r6)), (2, .int v_2)]) [1, 0, 2] dX8_coins_54 rfl (by decide) rfl ?_
      refine x_iinc (L' := [(0, .ref p_0), (1, .int (v_1 + r6)), (2, .int (v_2 + 1))]) 2 [1, 2, 0] dX8_coins_55 rfl rfl (by decide) rfl ?_
      refine x_goto (tgt := 36) dX8_coins_58 (by decide) ?_
      exact ih p_0 (v_1 + r6) (v_2 + 1) N kk0 h
set_option maxHeartbeats 4000000 in
set_option maxRecDepth 100000 in
theorem T_X8_coins_9 {G : XG} {Y : XY} (hw : WT Y) {r9 : Int32}: ∀ (D9 : Nat) (p_0 : Nat) (v_1 : Int32) (v_2 : Int32) (N : XN), kc Y p_0 = 18 → f_X8_coins_9 Y D9 p_0 v_1 v_2 N = some r9 → Ex G yX8_coins cX8_coins 3 (some .int) (xR 3 0 0) (.inl (some (.int r9))) Y N 0 0 9 [(0, .ref p_0), (1, .int v_1), (2, .int v_2)] [] Y N := by
  intro D9
  induction D9 with
  | zero => intro p_0 v_1 v_2 N kk0 h; exact nomatch (show none = some _ from h)
  | succ D9 ih =>
    intro p_0 v_1 v_2 N kk0 h
    rw [f_X8_coins_9] at h
    refine x_iload_n 2 dX8_coins_9 rfl rfl ?_
    refine x_aload_n 0 dX8_coins_10 rfl rfl ?_
    obtain ⟨g1, k2, n3⟩ := wt_X8_8 hw kk0
    refine x_getr dX8_coins_11 vc_X8 xin8 fb_X8_8 fl_X8_17 xr_X8_8 kk0 g1 ?_
    refine x_iconst (v := 1) dX8_coins_14 rfl ?_
    refine x_iald dX8_coins_15 k2 (xb_at n3 xbl_1_1784) xl_1 ?_
    rcases x_if h with ⟨c4, h⟩ | ⟨c4, h⟩
    · refine x_icmp_ge_t (tgt := 34) dX8_coins_16 (by decide) c4 ?_
      refine x_iconst (v := 0) dX8_coins_34 rfl ?_
      refine x_istore_n (L' := [(0, .ref p_0), (1, .int v_1), (2, .int 0)]) [1, 2, 0] dX8_coins_35 rfl (by decide) rfl ?_
      exact T_X8_coins_36 (G := G) hw FU p_0 v_1 0 N kk0 h
    · refine x_icmp_ge_f (tgt := 34) dX8_coins_16 (by decide) c4 ?_
      refine x_iload_n 1 dX8_coins_19 rfl rfl ?_
      refine x_aload_n 0 dX8_coins_20 rfl rfl ?_
      refine x_iload_n 2 dX8_coins_21 rfl rfl ?_
      refine x_iconst (v := 0) dX8_coins_22 rfl ?_
      obtain ⟨r6, q5, h⟩ := x_bd1 h
      refine x_cv (b := p_0) (As := [.int v_2, .int 0]) (ci := 8) (d' := 2) (zz := yX8_ofHandler) dX8_coins_23 ml_X8_245 wi_X8_ofHandler wv_X8_ofHandler wn_X8 wc_X8_ofHandler hp_X8_ofHandler (by decide) (by decide) rfl (Nat.le_of_ble_eq_true rfl) ⟨Nat.zero_le _, Nat.zero_le _⟩ rfl kk0 (T_X8_ofHandler (G := G) hw kk0 q5) ?_
      refine x_iadd dX8_coins_26 ?_
      refine x_istore_n (L' := [(0, .ref p_0), (1, .int (v_1 + r6)), (2, .int v_2)]) [1, 0, 2] dX8_coins_27 rfl (by decide) rfl ?_
      refine x_iinc (L' := [(0, .ref p_0), (1, .int (v_1 + r6)), (2, .int (v_2 + 1))]) 2 [1, 2, 0] dX8_coins_28 rfl rfl (by decide) rfl ?_
      refine x_goto (tgt := 9) dX8_coins_31 (by decide) ?_
      exact ih p_0 (v_1 + r6) (v_2 + 1) N kk0 h
set_option maxHeartbeats 4000000 in
set_option maxRecDepth 100000 in
theorem T_X8_coins {G : XG} {Y : XY} (hw : WT Y) {a0 : Nat} {N : XN} (k100 : kc Y a0 = 18) {r9 : Int32} (h : f_X8_coins Y a0 N = some r9) : Cl G yX8_coins cX8_coins 3 (some .int) (xR 3 0 0) [.ref a0] (.inl (some (.int r9))) Y N Y N := by
  refine x_entry (by decide) (Nat.le_of_ble_eq_true rfl) rfl ?_
  rw [f_X8_coins] at h
  refine x_aload_n 0 dX8_coins_0 rfl rfl ?_
  obtain ⟨g1, k2, n3⟩ := wt_X8_8 hw k100
  refine x_getr dX8_coins_1 vc_X8 xin8 fb_X8_8 fl_X8_17 xr_X8_8 k100 g1 ?_
  refine x_iconst (v := 4) dX8_coins_4 rfl ?_
  refine x_iald dX8_coins_5 k2 (xb_at n3 xbl_4_1784) xl_4 ?_
  refine x_istore_n (L' := [(0, .ref a0), (1, .int (gi N (gp Y a0 8) 4))]) [1, 0] dX8_coins_6 rfl (by decide) rfl ?_
  refine x_iconst (v := 0) dX8_coins_7 rfl ?_
  refine x_istore_n (L' := [(0, .ref a0), (1, .int (gi N (gp Y a0 8) 4)), (2, .int 0)]) [1, 2, 0] dX8_coins_8 rfl (by decide) rfl ?_
  exact T_X8_coins_9 (G := G) hw FU a0 (gi N (gp Y a0 8) 4) 0 N k100 h
set_option maxHeartbeats 4000000 in
set_option maxRecDepth 100000 in
theorem T_X8_told {G : XG} {Y : XY} (hw : WT Y) {a0 : Nat} {a1 : Int32} {N : XN} (k100 : kc Y a0 = 18) {r9 : Int32} (h : f_X8_told Y a0 a1 N = some r9) : Cl G yX8_told cX8_told 2 (some .int) (xR 4 0 0) [.ref a0, .int a1] (.inl (some (.int r9))) Y N Y N := by
  refine x_entry (by decide) (Nat.le_of_ble_eq_true rfl) rfl ?_
  rw [f_X8_told] at h
  refine x_iload_n 1 dX8_told_0 rfl rfl ?_
  refine x_iconst (v := 5) dX8_told_1 rfl ?_
  rcases x_if h with ⟨c1, h⟩ | ⟨c1, h⟩
  · refine x_icmp_ge_t (tgt := 14) dX8_told_2 (by decide) c1 ?_
    refine x_iload_n 1 dX8_told_14 rfl rfl ?_
    refine x_bipush (v := 8) dX8_told_15 rfl ?_
    rcases x_if h with ⟨c2, h⟩ | ⟨c2, h⟩
    · refine x_icmp_ge_t (tgt := 30) dX8_told_17 (by decide) c2 ?_
      refine x_iload_n 1 dX8_told_30 rfl rfl ?_
      refine x_bipush (v := 8) dX8_told_31 rfl ?_
      rcases x_if h with ⟨c3, h⟩ | ⟨c3, h⟩
      · refine x_icmp_ne_f (tgt := 43) dX8_told_33 (by decide) c3 ?_
        refine x_aload_n 0 dX8_told_36 rfl rfl ?_
        obtain ⟨r5, q4, h⟩ := x_bd1 h
        refine x_cv (b := a0) (As := []) (ci := 8) (d' := 3) (zz := yX8_broken) dX8_told_37 ml_X8_275 wi_X8_broken wv_X8_broken wn_X8 wc_X8_broken hp_X8_broken (by decide) (by decide) rfl (Nat.le_of_ble_eq_true rfl) ⟨Nat.zero_le _, Nat.zero_le _⟩ rfl k100 (T_X8_broken (G := G) hw k100 q4) ?_
        refine x_goto (tgt := 47) dX8_told_40 (by decide) ?_
        obtain rfl := x_so h
        exact x_iret dX8_told_47 rfl rfl rfl
      · refine x_icmp_ne_t (tgt := 43) dX8_told_33 (by decide) c3 ?_
        refine x_aload_n 0 dX8_told_43 rfl rfl ?_
        obtain ⟨r7, q6, h⟩ := x_bd1 h
        refine x_cv (b := a0) (As := []) (ci := 8) (d' := 3) (zz := yX8_coins) dX8_told_44 ml_X8_278 wi_X8_coins wv_X8_coins wn_X8 wc_X8_coins hp_X8_coins (by decide) (by decide) rfl (Nat.le_of_ble_eq_true rfl) ⟨Nat.zero_le _, Nat.zero_le _⟩ rfl k100 (T_X8_coins (G := G) hw k100 q6) ?_
        obtain rfl := x_so h
        exact x_iret dX8_told_47 rfl rfl rfl
    · refine x_icmp_ge_f (tgt := 30) dX8_told_17 (by decide) c2 ?_
      refine x_aload_n 0 dX8_told_20 rfl rfl ?_
      refine x_iload_n 1 dX8_told_21 rfl rfl ?_
      refine x_iconst (v := 4) dX8_told_22 rfl ?_
      refine x_isub dX8_told_23 ?_
      obtain ⟨r9, q8, h⟩ := x_bd1 h
      refine x_cv (b := a0) (As := [.int (a1 - 4)]) (ci := 8) (d' := 3) (zz := yX8_countOf) dX8_told_24 ml_X8_272 wi_X8_countOf wv_X8_countOf wn_X8 wc_X8_countOf hp_X8_countOf (by decide) (by decide) rfl (Nat.le_of_ble_eq_true rfl) ⟨Nat.zero_le _, Nat.zero_le _⟩ rfl k100 (T_X8_countOf (G := G) hw k100 q8) ?_
      refine x_goto (tgt := 47) dX8_told_27 (by decide) ?_
      obtain rfl := x_so h
      exact x_iret dX8_told_47 rfl rfl rfl
  · refine x_icmp_ge_f (tgt := 14) dX8_told_2 (by decide) c1 ?_
    refine x_aload_n 0 dX8_told_5 rfl rfl ?_
    obtain ⟨g10, k11, n12⟩ := wt_X8_8 hw k100
    refine x_getr dX8_told_6 vc_X8 xin8 fb_X8_8 fl_X8_17 xr_X8_8 k100 g10 ?_
    refine x_iload_n 1 dX8_told_9 rfl rfl ?_
    obtain ⟨c13, h⟩ := x_ck h
    refine x_iald dX8_told_10 k11 (xb_at n12 c13) rfl ?_
    refine x_goto (tgt := 47) dX8_told_11 (by decide) ?_
    obtain rfl := x_so h
    exact x_iret dX8_told_47 rfl rfl rfl
set_option maxHeartbeats 4000000 in
set_option maxRecDepth 100000 in
theorem T_X8_state {G : XG} {Y : XY} (hw : WT Y) {a0 : Nat} {a1 : Int32} {N : XN} (k100 : kc Y a0 = 18) {r9 : Int32} {N9 : XN} (h : f_X8_state Y a0 a1 N = some (r9, N9)) : Cl G yX8_state cX8_state 2 (some .int) (xR 5 0 0) [.ref a0, .int a1] (.inl (some (.int r9))) Y N Y N9 := by
  refine x_entry (by decide) (Nat.le_of_ble_eq_true rfl) rfl ?_
  rw [f_X8_state] at h
  refine x_aload_n 0 dX8_state_0 rfl rfl ?_
  refine x_iconst (v := 0) dX8_state_1 rfl ?_
  refine x_puti dX8_state_2 vc_X8 xin8 tyX8_ok nmX8 fb_X8_0 fl_X8_45 ff_X8_0 xr_X8_0 (nf_X8_0 _) (ft_X8_0 _) k100 ?_
  obtain ⟨N1, eN1, h⟩ := x_lt h
  refine x_nmN eN1 ?_
  refine x_aload_n 0 dX8_state_5 rfl rfl ?_
  refine x_iload_n 1 dX8_state_6 rfl rfl ?_
  refine x_iconst (v := 0) dX8_state_7 rfl ?_
  refine x_bipush (v := 9) dX8_state_8 rfl ?_
  refine x_cs (As := [.int a1, .int 0, .int 9]) (d' := 1) (zz := yX8_in) dX8_state_10 ml_X8_67 wt_X8_in wn_X8 wc_X8_in hp_X8_in (by decide) (by decide) rfl (Nat.le_of_ble_eq_true rfl) ⟨Nat.zero_le _, Nat.zero_le _⟩ (T_X8_in (G := G) hw  rfl) ?_
  rcases x_if h with ⟨c2, h⟩ | ⟨c2, h⟩
  · refine x_if_ne_f (tgt := 20) dX8_state_13 (by decide) c2 ?_
    refine x_iconst (v := 1) dX8_state_16 rfl ?_
    refine x_goto (tgt := 21) dX8_state_17 (by decide) ?_
    refine x_iconst (v := 1) dX8_state_21 rfl ?_
    obtain ⟨r4, N5, q3, h⟩ := x_bd2 h
    refine x_cv (b := a0) (As := [.int 1, .int 1]) (ci := 8) (d' := 1) (zz := yX8_fails) dX8_state_22 ml_X8_181 wi_X8_fails wv_X8_fails wn_X8 wc_X8_fails hp_X8_fails (by decide) (by decide) rfl (Nat.le_of_ble_eq_true rfl) ⟨Nat.zero_le _, Nat.zero_le _⟩ rfl k100 (T_X8_fails (G := G) hw k100 q3) ?_
    rcases x_if h with ⟨c6, h⟩ | ⟨c6, h⟩
    · refine x_if_eq_t (tgt := 32) dX8_state_25 (by decide) c6 ?_
      refine x_aload_n 0 dX8_state_32 rfl rfl ?_
      refine x_iload_n 1 dX8_state_33 rfl rfl ?_
      obtain ⟨r8, q7, h⟩ := x_bd1 h
      refine x_cv (b := a0) (As := [.int a1]) (ci := 8) (d' := 4) (zz := yX8_told) dX8_state_34 ml_X8_281 wi_X8_told wv_X8_told wn_X8 wc_X8_told hp_X8_told (by decide) (by decide) rfl (Nat.le_of_ble_eq_true rfl) ⟨Nat.zero_le _, Nat.zero_le _⟩ rfl k100 (T_X8_told (G := G) hw k100 q7) ?_
      obtain ⟨rfl, rfl⟩ := Prod.mk.inj (x_so h)
      exact x_iret dX8_state_37 rfl rfl rfl
    · refine x_if_eq_f (tgt := 32) dX8_state_25 (by decide) c6 ?_
      refine x_iconst (v := 0) dX8_state_28 rfl ?_
      refine x_goto (tgt := 37) dX8_state_29 (by decide) ?_
      obtain ⟨rfl, rfl⟩ := Prod.mk.inj (x_so h)
      exact x_iret dX8_state_37 rfl rfl rfl
  · refine x_if_ne_t (tgt := 20) dX8_state_13 (by decide) c2 ?_
    refine x_iconst (v := 0) dX8_state_20 rfl ?_
    refine x_iconst (v := 1) dX8_state_21 rfl ?_
    obtain ⟨r10, N11, q9, h⟩ := x_bd2 h
    refine x_cv (b := a0) (As := [.int 0, .int 1]) (ci := 8) (d' := 1) (zz := yX8_fails) dX8_state_22 ml_X8_181 wi_X8_fails wv_X8_fails wn_X8 wc_X8_fails hp_X8_fails (by decide) (by decide) rfl (Nat.le_of_ble_eq_true rfl) ⟨Nat.zero_le _, Nat.zero_le _⟩ rfl k100 (T_X8_fails (G := G) hw k100 q9) ?_
    rcases x_if h with ⟨c12, h⟩ | ⟨c12, h⟩
    · refine x_if_eq_t (tgt := 32) dX8_state_25 (by decide) c12 ?_
      refine x_aload_n 0 dX8_state_32 rfl rfl ?_
      refine x_iload_n 1 dX8_state_33 rfl rfl ?_
      obtain ⟨r14, q13, h⟩ := x_bd1 h
      refine x_cv (b := a0) (As := [.int a1]) (ci := 8) (d' := 4) (zz := yX8_told) dX8_state_34 ml_X8_281 wi_X8_told wv_X8_told wn_X8 wc_X8_told hp_X8_told (by decide) (by decide) rfl (Nat.le_of_ble_eq_true rfl) ⟨Nat.zero_le _, Nat.zero_le _⟩ rfl k100 (T_X8_told (G := G) hw k100 q13) ?_
      obtain ⟨rfl, rfl⟩ := Prod.mk.inj (x_so h)
      exact x_iret dX8_state_37 rfl rfl rfl
    · refine x_if_eq_f (tgt := 32) dX8_state_25 (by decide) c12 ?_
      refine x_iconst (v := 0) dX8_state_28 rfl ?_
      refine x_goto (tgt := 37) dX8_state_29 (by decide) ?_
      obtain ⟨rfl, rfl⟩ := Prod.mk.inj (x_so h)
      exact x_iret dX8_state_37 rfl rfl rfl
set_option maxHeartbeats 4000000 in
set_option maxRecDepth 100000 in
theorem T_X8_linesOf_4 {G : XG} {Y : XY} (hw : WT Y) {r9 : Int32}: ∀ (D9 : Nat) (p_0 : Nat) (v_1 : Int32) (v_2 : Int32) (v_3 : Int32) (N : XN), kc Y p_0 = 18 → f_X8_linesOf_4 Y D9 p_0 v_1 v_2 v_3 N = some r9 → Ex G yX8_linesOf cX8_linesOf 4 (some .int) (xR 3 0 0) (.inl (some (.int r9))) Y N 0 0 4 [(0, .ref p_0), (1, .int v_1), (2, .int v_2), (3, .int v_3)] [] Y N := by
  intro D9
  induction D9 with
  | zero => intro p_0 v_1 v_2 v_3 N kk0 h; exact nomatch (show none = some _ from h)
  | succ D9 ih =>
    intro p_0 v_1 v_2 v_3 N kk0 h
    rw [f_X8_linesOf_4] at h
    refine x_iload_n 3 dX8_linesOf_4 rfl rfl ?_
    refine x_aload_n 0 dX8_linesOf_5 rfl rfl ?_
    obtain ⟨g1, k2, n3⟩ := wt_X8_8 hw kk0
    refine x_getr dX8_linesOf_6 vc_X8 xin8 fb_X8_8 fl_X8_17 xr_X8_8 kk0 g1 ?_
    refine x_iconst (v := 2) dX8_linesOf_9 rfl ?_
    refine x_iald dX8_linesOf_10 k2 (xb_at n3 xbl_2_1784) xl_2 ?_
    rcases x_if h with ⟨c4, h⟩ | ⟨c4, h⟩
    · refine x_icmp_ge_t (tgt := 37) dX8_linesOf_11 (by decide) c4 ?_
      refine x_iload_n 2 dX8_linesOf_37 rfl rfl ?_
      obtain rfl := x_so h
      exact x_iret dX8_linesOf_38 rfl rfl rfl
    · refine x_icmp_ge_f (tgt := 37) dX8_linesOf_11 (by decide) c4 ?_
      refine x_iload_n 2 dX8_linesOf_14 rfl rfl ?_
      refine x_aload_n 0 dX8_linesOf_15 rfl rfl ?_
      refine x_iload_n 1 dX8_linesOf_16 rfl rfl ?_
      refine x_iload_n 3 dX8_linesOf_17 rfl rfl ?_
      obtain ⟨r6, q5, h⟩ := x_bd1 h
      refine x_cv (b := p_0) (As := [.int v_1, .int v_3]) (ci := 8) (d' := 2) (zz := yX8_isTenant) dX8_linesOf_18 ml_X8_258 wi_X8_isTenant wv_X8_isTenant wn_X8 wc_X8_isTenant hp_X8_isTenant (by decide) (by decide) rfl (Nat.le_of_ble_eq_true rfl) ⟨Nat.zero_le _, Nat.zero_le _⟩ rfl kk0 (T_X8_isTenant (G := G) hw kk0 q5) ?_
      rcases x_if h with ⟨c7, h⟩ | ⟨c7, h⟩
      · refine x_if_eq_t (tgt := 28) dX8_linesOf_21 (by decide) c7 ?_
        refine x_iconst (v := 0) dX8_linesOf_28 rfl ?_
        refine x_iadd dX8_linesOf_29 ?_
        refine x_istore_n (L' := [(0, .ref p_0), (1, .int v_1), (2, .int (v_2 + 0)), (3, .int v_3)]) [1, 2, 0, 3] dX8_linesOf_30 rfl (by decide) rfl ?_
        refine x_iinc (L' := [(0, .ref p_0), (1, .int v_1), (2, .int (v_2 + 0)), (3, .int (v_3 + 1))]) 3 [1, 2, 3, 0] dX8_linesOf_31 rfl rfl (by decide) rfl ?_
        refine x_goto (tgt := 4) dX8_linesOf_34 (by decide) ?_
        exact ih p_0 v_1 (v_2 + 0) (v_3 + 1) N kk0 h
      · refine x_if_eq_f (tgt := 28) dX8_linesOf_21 (by decide) c7 ?_
        refine x_iconst (v := 1) dX8_linesOf_24 rfl ?_
        refine x_goto (tgt := 29) dX8_linesOf_25 (by decide) ?_
        refine x_iadd dX8_linesOf_29 ?_
        refine x_istore_n (L' := [(0, .ref p_0), (1, .int v_1), (2, .int (v_2 + 1)), (3, .int v_3)]) [1, 2, 0, 3] dX8_linesOf_30 rfl (by decide) rfl ?_
        refine x_iinc (L' := [(0, .ref p_0), (1, .int v_1), (2, .int (v_2 + 1)), (3, .int (v_3 + 1))]) 3 [1, 2, 3, 0] dX8_linesOf_31 rfl rfl (by decide) rfl ?_
        refine x_goto (tgt := 4) dX8_linesOf_34 (by decide) ?_
        exact ih p_0 v_1 (v_2 + 1) (v_3 + 1) N kk0 h
set_option maxHeartbeats 4000000 in
set_option maxRecDepth 100000 in
theorem T_X8_linesOf {G : XG} {Y : XY} (hw : WT Y) {a0 : Nat} {a1 : Int32} {N : XN} (k100 : kc Y a0 = 18) {r9 : Int32} (h : f_X8_linesOf Y a0 a1 N = some r9) : Cl G yX8_linesOf cX8_linesOf 4 (some .int) (xR 3 0 0) [.ref a0, .int a1] (.inl (some (.int r9))) Y N Y N := by
  refine x_entry (by decide) (Nat.le_of_ble_eq_true rfl) rfl ?_
  rw [f_X8_linesOf] at h
  refine x_iconst (v := 0) dX8_linesOf_0 rfl ?_
  refine x_istore_n (L' := [(0, .ref a0), (1, .int a1), (2, .int 0)]) [1, 2, 0] dX8_linesOf_1 rfl (by decide) rfl ?_
  refine x_iconst (v := 0) dX8_linesOf_2 rfl ?_
  refine x_istore_n (L' := [(0, .ref a0), (1, .int a1), (2, .int 0), (3, .int 0)]) [1, 2, 3, 0] dX8_linesOf_3 rfl (by decide) rfl ?_
  exact T_X8_linesOf_4 (G := G) hw FU a0 a1 0 0 N k100 h
set_option maxHeartbeats 4000000 in
set_option maxRecDepth 100000 in
theorem T_X8_toldHandler {G : XG} {Y : XY} (hw : WT Y) {a0 : Nat} {a1 : Int32} {a2 : Int32} {N : XN} (k100 : kc Y a0 = 18) {r9 : Int32} (h : f_X8_toldHandler Y a0 a1 a2 N = some r9) : Cl G yX8_toldHandler cX8_toldHandler 3 (some .int) (xR 6 0 0) [.ref a0, .int a1, .int a2] (.inl (some (.int r9))) Y N Y N := by
  refine x_entry (by decide) (Nat.le_of_ble_eq_true rfl) rfl ?_
  rw [f_X8_toldHandler] at h
  refine x_iload_n 2 dX8_toldHandler_0 rfl rfl ?_
  refine x_iconst (v := 3) dX8_toldHandler_1 rfl ?_
  rcases x_if h with ⟨c1, h⟩ | ⟨c1, h⟩
  · refine x_icmp_ge_t (tgt := 14) dX8_toldHandler_2 (by decide) c1 ?_
    refine x_iload_n 2 dX8_toldHandler_14 rfl rfl ?_
    refine x_iconst (v := 3) dX8_toldHandler_15 rfl ?_
    rcases x_if h with ⟨c2, h⟩ | ⟨c2, h⟩
    · refine x_icmp_ne_f (tgt := 27) dX8_toldHandler_16 (by decide) c2 ?_
      refine x_aload_n 0 dX8_toldHandler_19 rfl rfl ?_
      refine x_iload_n 1 dX8_toldHandler_20 rfl rfl ?_
      obtain ⟨r4, q3, h⟩ := x_bd1 h
      refine x_cv (b := a0) (As := [.int a1]) (ci := 8) (d' := 5) (zz := yX8_heldBy) dX8_toldHandler_21 ml_X8_216 wi_X8_heldBy wv_X8_heldBy wn_X8 wc_X8_heldBy hp_X8_heldBy (by decide) (by decide) rfl (Nat.le_of_ble_eq_true rfl) ⟨Nat.zero_le _, Nat.zero_le _⟩ rfl k100 (T_X8_heldBy (G := G) hw k100 q3) ?_
      refine x_goto (tgt := 48) dX8_toldHandler_24 (by decide) ?_
      obtain rfl := x_so h
      exact x_iret dX8_toldHandler_48 rfl rfl rfl
    · refine x_icmp_ne_t (tgt := 27) dX8_toldHandler_16 (by decide) c2 ?_
      refine x_iload_n 2 dX8_toldHandler_27 rfl rfl ?_
      refine x_iconst (v := 4) dX8_toldHandler_28 rfl ?_
      rcases x_if h with ⟨c5, h⟩ | ⟨c5, h⟩
      · refine x_icmp_ne_f (tgt := 40) dX8_toldHandler_29 (by decide) c5 ?_
        refine x_aload_n 0 dX8_toldHandler_32 rfl rfl ?_
        refine x_iload_n 1 dX8_toldHandler_33 rfl rfl ?_
        obtain ⟨r7, q6, h⟩ := x_bd1 h
        refine x_cv (b := a0) (As := [.int a1]) (ci := 8) (d' := 3) (zz := yX8_linesOf) dX8_toldHandler_34 ml_X8_284 wi_X8_linesOf wv_X8_linesOf wn_X8 wc_X8_linesOf hp_X8_linesOf (by decide) (by decide) rfl (Nat.le_of_ble_eq_true rfl) ⟨Nat.zero_le _, Nat.zero_le _⟩ rfl k100 (T_X8_linesOf (G := G) hw k100 q6) ?_
        refine x_goto (tgt := 48) dX8_toldHandler_37 (by decide) ?_
        obtain rfl := x_so h
        exact x_iret dX8_toldHandler_48 rfl rfl rfl
      · refine x_icmp_ne_t (tgt := 40) dX8_toldHandler_29 (by decide) c5 ?_
        refine x_aload_n 0 dX8_toldHandler_40 rfl rfl ?_
        refine x_iload_n 1 dX8_toldHandler_41 rfl rfl ?_
        refine x_iload_n 2 dX8_toldHandler_42 rfl rfl ?_
        refine x_iconst (v := 2) dX8_toldHandler_43 rfl ?_
        refine x_isub dX8_toldHandler_44 ?_
        obtain ⟨r9, q8, h⟩ := x_bd1 h
        refine x_cv (b := a0) (As := [.int a1, .int (a2 - 2)]) (ci := 8) (d' := 2) (zz := yX8_ofHandler) dX8_toldHandler_45 ml_X8_245 wi_X8_ofHandler wv_X8_ofHandler wn_X8 wc_X8_ofHandler hp_X8_ofHandler (by decide) (by decide) rfl (Nat.le_of_ble_eq_true rfl) ⟨Nat.zero_le _, Nat.zero_le _⟩ rfl k100 (T_X8_ofHandler (G := G) hw k100 q8) ?_
        obtain rfl := x_so h
        exact x_iret dX8_toldHandler_48 rfl rfl rfl
  · refine x_icmp_ge_f (tgt := 14) dX8_toldHandler_2 (by decide) c1 ?_
    refine x_aload_n 0 dX8_toldHandler_5 rfl rfl ?_
    refine x_iload_n 1 dX8_toldHandler_6 rfl rfl ?_
    refine x_iload_n 2 dX8_toldHandler_7 rfl rfl ?_
    obtain ⟨r11, q10, h⟩ := x_bd1 h
    refine x_cv (b := a0) (As := [.int a1, .int a2]) (ci := 8) (d' := 2) (zz := yX8_ofHandler) dX8_toldHandler_8 ml_X8_245 wi_X8_ofHandler wv_X8_ofHandler wn_X8 wc_X8_ofHandler hp_X8_ofHandler (by decide) (by decide) rfl (Nat.le_of_ble_eq_true rfl) ⟨Nat.zero_le _, Nat.zero_le _⟩ rfl k100 (T_X8_ofHandler (G := G) hw k100 q10) ?_
    refine x_goto (tgt := 48) dX8_toldHandler_11 (by decide) ?_
    obtain rfl := x_so h
    exact x_iret dX8_toldHandler_48 rfl rfl rfl
set_option maxHeartbeats 4000000 in
set_option maxRecDepth 100000 in
theorem T_X8_handler {G : XG} {Y : XY} (hw : WT Y) {a0 : Nat} {a1 : Int32} {a2 : Int32} {N : XN} (k100 : kc Y a0 = 18) {r9 : Int32} {N9 : XN} (h : f_X8_handler Y a0 a1 a2 N = some (r9, N9)) : Cl G yX8_handler cX8_handler 3 (some .int) (xR 7 0 0) [.ref a0, .int a1, .int a2] (.inl (some (.int r9))) Y N Y N9 := by
  refine x_entry (by decide) (Nat.le_of_ble_eq_true rfl) rfl ?_
  rw [f_X8_handler] at h
  refine x_aload_n 0 dX8_handler_0 rfl rfl ?_
  refine x_iconst (v := 0) dX8_handler_1 rfl ?_
  refine x_puti dX8_handler_2 vc_X8 xin8 tyX8_ok nmX8 fb_X8_0 fl_X8_45 ff_X8_0 xr_X8_0 (nf_X8_0 _) (ft_X8_0 _) k100 ?_
  obtain ⟨N1, eN1, h⟩ := x_lt h
  refine x_nmN eN1 ?_
  refine x_aload_n 0 dX8_handler_5 rfl rfl ?_
  refine x_iload_n 1 dX8_handler_6 rfl rfl ?_
  obtain ⟨r3, N4, q2, h⟩ := x_bd2 h
  refine x_cv (b := a0) (As := [.int a1]) (ci := 8) (d' := 2) (zz := yX8_noHandler) dX8_handler_7 ml_X8_287 wi_X8_noHandler wv_X8_noHandler wn_X8 wc_X8_noHandler hp_X8_noHandler (by decide) (by decide) rfl (Nat.le_of_ble_eq_true rfl) ⟨Nat.zero_le _, Nat.zero_le _⟩ rfl k100 (T_X8_noHandler (G := G) hw k100 q2) ?_
  rcases x_if h with ⟨c5, h⟩ | ⟨c5, h⟩
  · refine x_if_ne_f (tgt := 24) dX8_handler_10 (by decide) c5 ?_
    refine x_aload_n 0 dX8_handler_13 rfl rfl ?_
    refine x_iload_n 2 dX8_handler_14 rfl rfl ?_
    refine x_iconst (v := 0) dX8_handler_15 rfl ?_
    refine x_bipush (v := 7) dX8_handler_16 rfl ?_
    obtain ⟨r7, N8, q6, h⟩ := x_bd2 h
    refine x_cv (b := a0) (As := [.int a2, .int 0, .int 7]) (ci := 8) (d' := 2) (zz := yX8_noNumber) dX8_handler_18 ml_X8_290 wi_X8_noNumber wv_X8_noNumber wn_X8 wc_X8_noNumber hp_X8_noNumber (by decide) (by decide) rfl (Nat.le_of_ble_eq_true rfl) ⟨Nat.zero_le _, Nat.zero_le _⟩ rfl k100 (T_X8_noNumber (G := G) hw k100 q6) ?_
    rcases x_if h with ⟨c9, h⟩ | ⟨c9, h⟩
    · refine x_if_eq_t (tgt := 28) dX8_handler_21 (by decide) c9 ?_
      refine x_aload_n 0 dX8_handler_28 rfl rfl ?_
      refine x_iload_n 1 dX8_handler_29 rfl rfl ?_
      refine x_iload_n 2 dX8_handler_30 rfl rfl ?_
      obtain ⟨r11, q10, h⟩ := x_bd1 h
      refine x_cv (b := a0) (As := [.int a1, .int a2]) (ci := 8) (d' := 6) (zz := yX8_toldHandler) dX8_handler_31 ml_X8_293 wi_X8_toldHandler wv_X8_toldHandler wn_X8 wc_X8_toldHandler hp_X8_toldHandler (by decide) (by decide) rfl (Nat.le_of_ble_eq_true rfl) ⟨Nat.zero_le _, Nat.zero_le _⟩ rfl k100 (T_X8_toldHandler (G := G) hw k100 q10) ?_
      obtain ⟨rfl, rfl⟩ := Prod.mk.inj (x_so h)
      exact x_iret dX8_handler_34 rfl rfl rfl
    · refine x_if_eq_f (tgt := 28) dX8_handler_21 (by decide) c9 ?_
      refine x_iconst (v := 0) dX8_handler_24 rfl ?_
      refine x_goto (tgt := 34) dX8_handler_25 (by decide) ?_
      obtain ⟨rfl, rfl⟩ := Prod.mk.inj (x_so h)
      exact x_iret dX8_handler_34 rfl rfl rfl
  · refine x_if_ne_t (tgt := 24) dX8_handler_10 (by decide) c5 ?_
    refine x_iconst (v := 0) dX8_handler_24 rfl ?_
    refine x_goto (tgt := 34) dX8_handler_25 (by decide) ?_
    obtain ⟨rfl, rfl⟩ := Prod.mk.inj (x_so h)
    exact x_iret dX8_handler_34 rfl rfl rfl
