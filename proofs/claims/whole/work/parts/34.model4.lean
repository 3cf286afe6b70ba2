set_option maxHeartbeats 4000000 in
set_option maxRecDepth 100000 in
theorem T_X8_undo {G : XG} {Y : XY} (hw : WT Y) {a0 : Nat} {N : XN} (k100 : kc Y a0 = 18) {r9 : Int32} {N9 : XN} (h : f_X8_undo Y a0 N = some (r9, N9)) : Cl G yX8_undo cX8_undo 1 (some .int) (xR 2 0 0) [.ref a0] (.inl (some (.int r9))) Y N Y N9 := by
  refine x_entry (by decide) (Nat.le_of_ble_eq_true rfl) rfl ?_
  rw [f_X8_undo] at h
  refine x_aload_n 0 dX8_undo_0 rfl rfl ?_
  refine x_iconst (v := 0) dX8_undo_1 rfl ?_
  refine x_puti dX8_undo_2 vc_X8 xin8 tyX8_ok nmX8 fb_X8_0 fl_X8_45 ff_X8_0 xr_X8_0 (nf_X8_0 _) (ft_X8_0 _) k100 ?_
  obtain ⟨N1, eN1, h⟩ := x_lt h
  refine x_nmN eN1 ?_
  refine x_aload_n 0 dX8_undo_5 rfl rfl ?_
  refine x_geti dX8_undo_6 vc_X8 xin8 fb_X8_13 fl_X8_320 xr_X8_13 k100 ?_
  rcases x_if h with ⟨c2, h⟩ | ⟨c2, h⟩
  · refine x_if_ne_f (tgt := 14) dX8_undo_9 (by decide) c2 ?_
    refine x_iconst (v := (-1)) dX8_undo_12 rfl ?_
    obtain ⟨rfl, rfl⟩ := Prod.mk.inj (x_so h)
    exact x_iret dX8_undo_13 rfl rfl rfl
  · refine x_if_ne_t (tgt := 14) dX8_undo_9 (by decide) c2 ?_
    refine x_aload_n 0 dX8_undo_14 rfl rfl ?_
    refine x_dup dX8_undo_15 rfl ?_
    refine x_geti dX8_undo_16 vc_X8 xin8 fb_X8_13 fl_X8_320 xr_X8_13 k100 ?_
    refine x_iconst (v := 1) dX8_undo_19 rfl ?_
    refine x_isub dX8_undo_20 ?_
    refine x_puti dX8_undo_21 vc_X8 xin8 tyX8_ok nmX8 fb_X8_13 fl_X8_320 ff_X8_13 xr_X8_13 (nf_X8_13 _) (ft_X8_13 _) k100 ?_
    obtain ⟨N3, eN3, h⟩ := x_lt h
    refine x_nmN eN3 ?_
    refine x_aload_n 0 dX8_undo_24 rfl rfl ?_
    obtain ⟨g4, k5, n6⟩ := wt_X8_12 hw k100
    refine x_getr dX8_undo_25 vc_X8 xin8 fb_X8_12 fl_X8_31 xr_X8_12 k100 g4 ?_
    refine x_aload_n 0 dX8_undo_28 rfl rfl ?_
    refine x_geti dX8_undo_29 vc_X8 xin8 fb_X8_13 fl_X8_320 xr_X8_13 k100 ?_
    obtain ⟨c7, h⟩ := x_ck h
    obtain ⟨g8, k9, n10⟩ := wt_8 hw k5 (xb_at n6 c7)
    refine x_aald (j := 4) dX8_undo_32 (by decide) k5 (xb_at n6 c7) g8 ?_
    refine x_aload_n 0 dX8_undo_33 rfl rfl ?_
    obtain ⟨g11, k12, n13⟩ := wt_X8_8 hw k100
    refine x_getr dX8_undo_34 vc_X8 xin8 fb_X8_8 fl_X8_17 xr_X8_8 k100 g11 ?_
    refine x_sipush (v := 1784) dX8_undo_37 rfl ?_
    obtain ⟨N15, q14, h⟩ := x_bd1 h
    refine x_cs (As := [.ref (gp Y (gp Y a0 12) (gi N3 a0 13).toNatClampNeg), .ref (gp Y a0 8), .int 1784]) (d' := 1) (zz := yX8_copy) dX8_undo_40 ml_X8_193 wt_X8_copy wn_X8 wc_X8_copy hp_X8_copy (by decide) (by decide) rfl (Nat.le_of_ble_eq_true rfl) ⟨Nat.zero_le _, Nat.zero_le _⟩ (T_X8_copy (G := G) hw k9 k12 q14) ?_
    refine x_aload_n 0 dX8_undo_43 rfl rfl ?_
    refine x_geti dX8_undo_44 vc_X8 xin8 fb_X8_13 fl_X8_320 xr_X8_13 k100 ?_
    obtain ⟨rfl, rfl⟩ := Prod.mk.inj (x_so h)
    exact x_iret dX8_undo_47 rfl rfl rfl
set_option maxHeartbeats 4000000 in
set_option maxRecDepth 100000 in
theorem T_X8_checksum_183 {G : XG} {Y : XY} (hw : WT Y) {r9 : Int64} {N9 : XN} {k170 : Nat → Int64 → Int32 → XN → Option (Int64 × XN)} (hk170 : ∀ (p_0 : Nat) (w_1 : Int64) (v_3 : Int32) (N : XN), kc Y p_0 = 18 → k170 p_0 w_1 v_3 N = some (r9, N9) → Ex G yX8_checksum cX8_checksum 5 (some .long) (xR 7 0 0) (.inl (some (.long r9))) Y N9 0 0 170 [(0, .ref p_0), (1, .long w_1), (3, .int v_3)] [] Y N): ∀ (D9 : Nat) (p_0 : Nat) (w_1 : Int64) (v_3 : Int32) (v_4 : Int32) (N : XN), kc Y p_0 = 18 → f_X8_checksum_183 Y k170 D9 p_0 w_1 v_3 v_4 N = some (r9, N9) → Ex G yX8_checksum cX8_checksum 5 (some .long) (xR 7 0 0) (.inl (some (.long r9))) Y N9 0 0 183 [(0, .ref p_0), (1, .long w_1), (3, .int v_3), (4, .int v_4)] [] Y N := by
  intro D9
  induction D9 with
  | zero => intro p_0 w_1 v_3 v_4 N kk0 h; exact nomatch (show none = some _ from h)
  | succ D9 ih =>
    intro p_0 w_1 v_3 v_4 N kk0 h
    rw [f_X8_checksum_183] at h
    refine x_iload 3 dX8_checksum_183 rfl ?_
    refine x_bipush (v := 7) dX8_checksum_185 rfl ?_
    rcases x_if h with ⟨c1, h⟩ | ⟨c1, h⟩
    · refine x_icmp_ge_t (tgt := 211) dX8_checksum_187 (by decide) c1 ?_
      refine x_iinc (L' := [(0, .ref p_0), (1, .long w_1), (3, .int (v_3 + 1))]) 2 [1, 2, 0] dX8_checksum_211 rfl rfl (by decide) rfl ?_
      refine x_goto (tgt := 170) dX8_checksum_214 (by decide) ?_
      exact hk170 p_0 w_1 (v_3 + 1) N kk0 h
    · refine x_icmp_ge_f (tgt := 211) dX8_checksum_187 (by decide) c1 ?_
      refine x_ldc2 (v := 31) dX8_checksum_190 kl_X8_323 ?_
      refine x_lload_n 1 dX8_checksum_193 rfl rfl ?_
      refine x_lmul dX8_checksum_194 ?_
      refine x_aload_n 0 dX8_checksum_195 rfl rfl ?_
      refine x_iload_n 2 dX8_checksum_196 rfl rfl ?_
      refine x_iload 3 dX8_checksum_197 rfl ?_
      obtain ⟨r3, q2, h⟩ := x_bd1 h
      refine x_cv (b := p_0) (As := [.int v_3, .int v_4]) (ci := 8) (d' := 2) (zz := yX8_ofRequest) dX8_checksum_199 ml_X8_206 wi_X8_ofRequest wv_X8_ofRequest wn_X8 wc_X8_ofRequest hp_X8_ofRequest (by decide) (by decide) rfl (Nat.le_of_ble_eq_true rfl) ⟨Nat.zero_le _, Nat.zero_le _⟩ rfl kk0 (T_X8_ofRequest (G := G) hw kk0 q2) ?_
      refine x_i2l dX8_checksum_202 ?_
      refine x_ladd dX8_checksum_203 ?_
      obtain ⟨w4, ew4, h⟩ := x_lt h
      refine x_nml ew4 ?_
      refine x_lstore_n (L' := [(0, .ref p_0), (1, .long w4), (3, .int v_3), (4, .int v_4)]) [1, 0, 2, 3] dX8_checksum_204 rfl (by decide) rfl ?_
      refine x_iinc (L' := [(0, .ref p_0), (1, .long w4), (3, .int v_3), (4, .int (v_4 + 1))]) 3 [1, 2, 3, 0] dX8_checksum_205 rfl rfl (by decide) rfl ?_
      refine x_goto (tgt := 183) dX8_checksum_208 (by decide) ?_
      exact ih p_0 w4 v_3 (v_4 + 1) N kk0 h
set_option maxHeartbeats 4000000 in
set_option maxRecDepth 100000 in
theorem T_X8_checksum_170 {G : XG} {Y : XY} (hw : WT Y) {r9 : Int64} {N9 : XN}: ∀ (D9 : Nat) (p_0 : Nat) (w_1 : Int64) (v_3 : Int32) (N : XN), kc Y p_0 = 18 → f_X8_checksum_170 Y D9 p_0 w_1 v_3 N = some (r9, N9) → Ex G yX8_checksum cX8_checksum 5 (some .long) (xR 7 0 0) (.inl (some (.long r9))) Y N9 0 0 170 [(0, .ref p_0), (1, .long w_1), (3, .int v_3)] [] Y N := by
  intro D9
  induction D9 with
  | zero => intro p_0 w_1 v_3 N kk0 h; exact nomatch (show none = some _ from h)
  | succ D9 ih =>
    intro p_0 w_1 v_3 N kk0 h
    rw [f_X8_checksum_170] at h
    refine x_iload_n 2 dX8_checksum_170 rfl rfl ?_
    refine x_aload_n 0 dX8_checksum_171 rfl rfl ?_
    obtain ⟨g1, k2, n3⟩ := wt_X8_8 hw kk0
    refine x_getr dX8_checksum_172 vc_X8 xin8 fb_X8_8 fl_X8_17 xr_X8_8 kk0 g1 ?_
    refine x_iconst (v := 3) dX8_checksum_175 rfl ?_
    refine x_iald dX8_checksum_176 k2 (xb_at n3 xbl_3_1784) xl_3 ?_
    rcases x_if h with ⟨c4, h⟩ | ⟨c4, h⟩
    · refine x_icmp_ge_t (tgt := 217) dX8_checksum_177 (by decide) c4 ?_
      refine x_lload_n 1 dX8_checksum_217 rfl rfl ?_
      obtain ⟨rfl, rfl⟩ := Prod.mk.inj (x_so h)
      exact x_lret dX8_checksum_218 rfl rfl rfl
    · refine x_icmp_ge_f (tgt := 217) dX8_checksum_177 (by decide) c4 ?_
      refine x_iconst (v := 0) dX8_checksum_180 rfl ?_
      refine x_istore (L' := [(0, .ref p_0), (1, .long w_1), (3, .int v_3), (4, .int 0)]) [1, 2, 3, 0] dX8_checksum_181 (by decide) rfl ?_
      exact T_X8_checksum_183 (G := G) hw ih FU p_0 w_1 v_3 0 N kk0 h
set_option maxHeartbeats 4000000 in
set_option maxRecDepth 100000 in
theorem T_X8_checksum_128 {G : XG} {Y : XY} (hw : WT Y) {r9 : Int64} {N9 : XN} {k85 : Nat → Int64 → Int32 → XN → Option (Int64 × XN)} (hk85 : ∀ (p_0 : Nat) (w_1 : Int64) (v_3 : Int32) (N : XN), kc Y p_0 = 18 → k85 p_0 w_1 v_3 N = some (r9, N9) → Ex G yX8_checksum cX8_checksum 5 (some .long) (xR 7 0 0) (.inl (some (.long r9))) Y N9 0 0 85 [(0, .ref p_0), (1, .long w_1), (3, .int v_3)] [] Y N): ∀ (D9 : Nat) (p_0 : Nat) (w_1 : Int64) (v_3 : Int32) (v_4 : Int32) (N : XN), kc Y p_0 = 18 → f_X8_checksum_128 Y k85 D9 p_0 w_1 v_3 v_4 N = some (r9, N9) → Ex G yX8_checksum cX8_checksum 5 (some .long) (xR 7 0 0) (.inl (some (.long r9))) Y N9 0 0 128 [(0, .ref p_0), (1, .long w_1), (3, .int v_3), (4, .int v_4)] [] Y N := by
  intro D9
  induction D9 with
  | zero => intro p_0 w_1 v_3 v_4 N kk0 h; exact nomatch (show none = some _ from h)
  | succ D9 ih =>
    intro p_0 w_1 v_3 v_4 N kk0 h
    rw [f_X8_checksum_128] at h
    refine x_iload 3 dX8_checksum_128 rfl ?_
    refine x_aload_n 0 dX8_checksum_130 rfl rfl ?_
    refine x_iload_n 2 dX8_checksum_131 rfl rfl ?_
    refine x_iconst (v := 3) dX8_checksum_132 rfl ?_
    obtain ⟨r2, q1, h⟩ := x_bd1 h
    refine x_cv (b := p_0) (As := [.int v_3, .int 3]) (ci := 8) (d' := 2) (zz := yX8_ofLine) dX8_checksum_133 ml_X8_222 wi_X8_ofLine wv_X8_ofLine wn_X8 wc_X8_ofLine hp_X8_ofLine (by decide) (by decide) rfl (Nat.le_of_ble_eq_true rfl) ⟨Nat.zero_le _, Nat.zero_le _⟩ rfl kk0 (T_X8_ofLine (G := G) hw kk0 q1) ?_
    rcases x_if h with ⟨c3, h⟩ | ⟨c3, h⟩
    · refine x_icmp_ge_t (tgt := 162) dX8_checksum_136 (by decide) c3 ?_
      refine x_iinc (L' := [(0, .ref p_0), (1, .long w_1), (3, .int (v_3 + 1))]) 2 [1, 2, 0] dX8_checksum_162 rfl rfl (by decide) rfl ?_
      refine x_goto (tgt := 85) dX8_checksum_165 (by decide) ?_
      exact hk85 p_0 w_1 (v_3 + 1) N kk0 h
    · refine x_icmp_ge_f (tgt := 162) dX8_checksum_136 (by decide) c3 ?_
      refine x_ldc2 (v := 31) dX8_checksum_139 kl_X8_323 ?_
      refine x_lload_n 1 dX8_checksum_142 rfl rfl ?_
      refine x_lmul dX8_checksum_143 ?_
      refine x_aload_n 0 dX8_checksum_144 rfl rfl ?_
      refine x_iload_n 2 dX8_checksum_145 rfl rfl ?_
      refine x_iconst (v := 4) dX8_checksum_146 rfl ?_
      refine x_iload 3 dX8_checksum_147 rfl ?_
      refine x_iadd dX8_checksum_149 ?_
      obtain ⟨r5, q4, h⟩ := x_bd1 h
      refine x_cv (b := p_0) (As := [.int v_3, .int (4 + v_4)]) (ci := 8) (d' := 2) (zz := yX8_ofLine) dX8_checksum_150 ml_X8_222 wi_X8_ofLine wv_X8_ofLine wn_X8 wc_X8_ofLine hp_X8_ofLine (by decide) (by decide) rfl (Nat.le_of_ble_eq_true rfl) ⟨Nat.zero_le _, Nat.zero_le _⟩ rfl kk0 (T_X8_ofLine (G := G) hw kk0 q4) ?_
      refine x_i2l dX8_checksum_153 ?_
      refine x_ladd dX8_checksum_154 ?_
      obtain ⟨w6, ew6, h⟩ := x_lt h
      refine x_nml ew6 ?_
      refine x_lstore_n (L' := [(0, .ref p_0), (1, .long w6), (3, .int v_3), (4, .int v_4)]) [1, 0, 2, 3] dX8_checksum_155 rfl (by decide) rfl ?_
      refine x_iinc (L' := [(0, .ref p_0), (1, .long w6), (3, .int v_3), (4, .int (v_4 + 1))]) 3 [1, 2, 3, 0] dX8_checksum_156 rfl rfl (by decide) rfl ?_
      refine x_goto (tgt := 128) dX8_checksum_159 (by decide) ?_
      exact ih p_0 w6 v_3 (v_4 + 1) N kk0 h
set_option maxHeartbeats 4000000 in
set_option maxRecDepth 100000 in
theorem T_X8_checksum_98 {G : XG} {Y : XY} (hw : WT Y) {r9 : Int64} {N9 : XN} {k85 : Nat → Int64 → Int32 → XN → Option (Int64 × XN)} (hk85 : ∀ (p_0 : Nat) (w_1 : Int64) (v_3 : Int32) (N : XN), kc Y p_0 = 18 → k85 p_0 w_1 v_3 N = some (r9, N9) → Ex G yX8_checksum cX8_checksum 5 (some .long) (xR 7 0 0) (.inl (some (.long r9))) Y N9 0 0 85 [(0, .ref p_0), (1, .long w_1), (3, .int v_3)] [] Y N): ∀ (D9 : Nat) (p_0 : Nat) (w_1 : Int64) (v_3 : Int32) (v_4 : Int32) (N : XN), kc Y p_0 = 18 → f_X8_checksum_98 Y k85 D9 p_0 w_1 v_3 v_4 N = some (r9, N9) → Ex G yX8_checksum cX8_checksum 5 (some .long) (xR 7 0 0) (.inl (some (.long r9))) Y N9 0 0 98 [(0, .ref p_0), (1, .long w_1), (3, .int v_3), (4, .int v_4)] [] Y N := by
  intro D9
  induction D9 with
  | zero => intro p_0 w_1 v_3 v_4 N kk0 h; exact nomatch (show none = some _ from h)
  | succ D9 ih =>
    intro p_0 w_1 v_3 v_4 N kk0 h
    rw [f_X8_checksum_98] at h
    refine x_iload 3 dX8_checksum_98 rfl ?_
    refine x_iconst (v := 5) dX8_checksum_100 rfl ?_
    rcases x_if h with ⟨c1, h⟩ | ⟨c1, h⟩
    · refine x_icmp_ge_t (tgt := 125) dX8_checksum_101 (by decide) c1 ?_
      refine x_iconst (v := 0) dX8_checksum_125 rfl ?_
      refine x_istore (L' := [(0, .ref p_0), (1, .long w_1), (3, .int v_3), (4, .int 0)]) [1, 2, 3, 0] dX8_checksum_126 (by decide) rfl ?_
      exact T_X8_checksum_128 (G := G) hw hk85 FU p_0 w_1 v_3 0 N kk0 h
    · refine x_icmp_ge_f (tgt := 125) dX8_checksum_101 (by decide) c1 ?_
      refine x_ldc2 (v := 31) dX8_checksum_104 kl_X8_323 ?_
      refine x_lload_n 1 dX8_checksum_107 rfl rfl ?_
      refine x_lmul dX8_checksum_108 ?_
      refine x_aload_n 0 dX8_checksum_109 rfl rfl ?_
      refine x_iload_n 2 dX8_checksum_110 rfl rfl ?_
      refine x_iload 3 dX8_checksum_111 rfl ?_
      obtain ⟨r3, q2, h⟩ := x_bd1 h
      refine x_cv (b := p_0) (As := [.int v_3, .int v_4]) (ci := 8) (d' := 4) (zz := yX8_toldLine) dX8_checksum_113 ml_X8_299 wi_X8_toldLine wv_X8_toldLine wn_X8 wc_X8_toldLine hp_X8_toldLine (by decide) (by decide) rfl (Nat.le_of_ble_eq_true rfl) ⟨Nat.zero_le _, Nat.zero_le _⟩ rfl kk0 (T_X8_toldLine (G := G) hw kk0 q2) ?_
      refine x_i2l dX8_checksum_116 ?_
      refine x_ladd dX8_checksum_117 ?_
      obtain ⟨w4, ew4, h⟩ := x_lt h
      refine x_nml ew4 ?_
      refine x_lstore_n (L' := [(0, .ref p_0), (1, .long w4), (3, .int v_3), (4, .int v_4)]) [1, 0, 2, 3] dX8_checksum_118 rfl (by decide) rfl ?_
      refine x_iinc (L' := [(0, .ref p_0), (1, .long w4), (3, .int v_3), (4, .int (v_4 + 1))]) 3 [1, 2, 3, 0] dX8_checksum_119 rfl rfl (by decide) rfl ?_
      refine x_goto (tgt := 98) dX8_checksum_122 (by decide) ?_
      exact ih p_0 w4 v_3 (v_4 + 1) N kk0 h
set_option maxHeartbeats 4000000 in
set_option maxRecDepth 100000 in
theorem T_X8_checksum_85 {G : XG} {Y : XY} (hw : WT Y) {r9 : Int64} {N9 : XN}: ∀ (D9 : Nat) (p_0 : Nat) (w_1 : Int64) (v_3 : Int32) (N : XN), kc Y p_0 = 18 → f_X8_checksum_85 Y D9 p_0 w_1 v_3 N = some (r9, N9) → Ex G yX8_checksum cX8_checksum 5 (some .long) (xR 7 0 0) (.inl (some (.long r9))) Y N9 0 0 85 [(0, .ref p_0), (1, .long w_1), (3, .int v_3)] [] Y N := by
  intro D9
  induction D9 with
  | zero => intro p_0 w_1 v_3 N kk0 h; exact nomatch (show none = some _ from h)
  | succ D9 ih =>
    intro p_0 w_1 v_3 N kk0 h
    rw [f_X8_checksum_85] at h
    refine x_iload_n 2 dX8_checksum_85 rfl rfl ?_
    refine x_aload_n 0 dX8_checksum_86 rfl rfl ?_
    obtain ⟨g1, k2, n3⟩ := wt_X8_8 hw kk0
    refine x_getr dX8_checksum_87 vc_X8 xin8 fb_X8_8 fl_X8_17 xr_X8_8 kk0 g1 ?_
    refine x_iconst (v := 2) dX8_checksum_90 rfl ?_
    refine x_iald dX8_checksum_91 k2 (xb_at n3 xbl_2_1784) xl_2 ?_
    rcases x_if h with ⟨c4, h⟩ | ⟨c4, h⟩
    · refine x_icmp_ge_t (tgt := 168) dX8_checksum_92 (by decide) c4 ?_
      refine x_iconst (v := 0) dX8_checksum_168 rfl ?_
      refine x_istore_n (L' := [(0, .ref p_0), (1, .long w_1), (3, .int 0)]) [1, 2, 0] dX8_checksum_169 rfl (by decide) rfl ?_
      exact T_X8_checksum_170 (G := G) hw FU p_0 w_1 0 N kk0 h
    · refine x_icmp_ge_f (tgt := 168) dX8_checksum_92 (by decide) c4 ?_
      refine x_iconst (v := 0) dX8_checksum_95 rfl ?_
      refine x_istore (L' := [(0, .ref p_0), (1, .long w_1), (3, .int v_3), (4, .int 0)]) [1, 2, 3, 0] dX8_checksum_96 (by decide) rfl ?_
      exact T_X8_checksum_98 (G := G) hw ih FU p_0 w_1 v_3 0 N kk0 h
set_option maxHeartbeats 4000000 in
set_option maxRecDepth 100000 in
theorem T_X8_checksum_49 {G : XG} {Y : XY} (hw : WT Y) {r9 : Int64} {N9 : XN} {k36 : Nat → Int64 → Int32 → XN → Option (Int64 × XN)} (hk36 : ∀ (p_0 : Nat) (w_1 : Int64) (v_3 : Int32) (N : XN), kc Y p_0 = 18 → k36 p_0 w_1 v_3 N = some (r9, N9) → Ex G yX8_checksum cX8_checksum 5 (some .long) (xR 7 0 0) (.inl (some (.long r9))) Y N9 0 0 36 [(0, .ref p_0), (1, .long w_1), (3, .int v_3)] [] Y N): ∀ (D9 : Nat) (p_0 : Nat) (w_1 : Int64) (v_3 : Int32) (v_4 : Int32) (N : XN), kc Y p_0 = 18 → f_X8_checksum_49 Y k36 D9 p_0 w_1 v_3 v_4 N = some (r9, N9) → Ex G yX8_checksum cX8_checksum 5 (some .long) (xR 7 0 0) (.inl (some (.long r9))) Y N9 0 0 49 [(0, .ref p_0), (1, .long w_1), (3, .int v_3), (4, .int v_4)] [] Y N := by
  intro D9
  induction D9 with
  | zero => intro p_0 w_1 v_3 v_4 N kk0 h; exact nomatch (show none = some _ from h)
  | succ D9 ih =>
    intro p_0 w_1 v_3 v_4 N kk0 h
    rw [f_X8_checksum_49] at h
    refine x_iload 3 dX8_checksum_49 rfl ?_
    refine x_bipush (v := 8) dX8_checksum_51 rfl ?_
    rcases x_if h with ⟨c1, h⟩ | ⟨c1, h⟩
    · refine x_icmp_ge_t (tgt := 77) dX8_checksum_53 (by decide) c1 ?_
      refine x_iinc (L' := [(0, .ref p_0), (1, .long w_1), (3, .int (v_3 + 1))]) 2 [1, 2, 0] dX8_checksum_77 rfl rfl (by decide) rfl ?_
      refine x_goto (tgt := 36) dX8_checksum_80 (by decide) ?_
      exact hk36 p_0 w_1 (v_3 + 1) N kk0 h
    · refine x_icmp_ge_f (tgt := 77) dX8_checksum_53 (by decide) c1 ?_
      refine x_ldc2 (v := 31) dX8_checksum_56 kl_X8_323 ?_
      refine x_lload_n 1 dX8_checksum_59 rfl rfl ?_
      refine x_lmul dX8_checksum_60 ?_
      refine x_aload_n 0 dX8_checksum_61 rfl rfl ?_
      refine x_iload_n 2 dX8_checksum_62 rfl rfl ?_
      refine x_iload 3 dX8_checksum_63 rfl ?_
      obtain ⟨r3, q2, h⟩ := x_bd1 h
      refine x_cv (b := p_0) (As := [.int v_3, .int v_4]) (ci := 8) (d' := 6) (zz := yX8_toldHandler) dX8_checksum_65 ml_X8_293 wi_X8_toldHandler wv_X8_toldHandler wn_X8 wc_X8_toldHandler hp_X8_toldHandler (by decide) (by decide) rfl (Nat.le_of_ble_eq_true rfl) ⟨Nat.zero_le _, Nat.zero_le _⟩ rfl kk0 (T_X8_toldHandler (G := G) hw kk0 q2) ?_
      refine x_i2l dX8_checksum_68 ?_
      refine x_ladd dX8_checksum_69 ?_
      obtain ⟨w4, ew4, h⟩ := x_lt h
      refine x_nml ew4 ?_
      refine x_lstore_n (L' := [(0, .ref p_0), (1, .long w4), (3, .int v_3), (4, .int v_4)]) [1, 0, 2, 3] dX8_checksum_70 rfl (by decide) rfl ?_
      refine x_iinc (L' := [(0, .ref p_0), (1, .long w4), (3, .int v_3), (4, .int (v_4 + 1))]) 3 [1, 2, 3, 0] dX8_checksum_71 rfl rfl (by decide) rfl ?_
      refine x_goto (tgt := 49) dX8_checksum_74 (by decide) ?_
      exact ih p_0 w4 v_3 (v_4 + 1) N kk0 h
set_option maxHeartbeats 4000000 in
set_option maxRecDepth 100000 in
theorem T_X8_checksum_36 {G : XG} {Y : XY} (hw : WT Y) {r9 : Int64} {N9 : XN}: ∀ (D9 : Nat) (p_0 : Nat) (w_1 : Int64) (v_3 : Int32) (N : XN), kc Y p_0 = 18 → f_X8_checksum_36 Y D9 p_0 w_1 v_3 N = some (r9, N9) → Ex G yX8_checksum cX8_checksum 5 (some .long) (xR 7 0 0) (.inl (some (.long r9))) Y N9 0 0 36 [(0, .ref p_0), (1, .long w_1), (3, .int v_3)] [] Y N := by
  intro D9
  induction D9 with
  | zero => intro p_0 w_1 v_3 N kk0 h; exact nomatch (show none = some _ from h)
  | succ D9 ih =>
    intro p_0 w_1 v_3 N kk0 h
    rw [f_X8_checksum_36] at h
    refine x_iload_n 2 dX8_checksum_36 rfl rfl ?_
    refine x_aload_n 0 dX8_checksum_37 rfl rfl ?_
    obtain ⟨g1, k2, n3⟩ := wt_X8_8 hw kk0
    refine x_getr dX8_checksum_38 vc_X8 xin8 fb_X8_8 fl_X8_17 xr_X8_8 kk0 g1 ?_
    refine x_iconst (v := 1) dX8_checksum_41 rfl ?_
    refine x_iald dX8_checksum_42 k2 (xb_at n3 xbl_1_1784) xl_1 ?_
    rcases x_if h with ⟨c4, h⟩ | ⟨c4, h⟩
    · refine x_icmp_ge_t (tgt := 83) dX8_checksum_43 (by decide) c4 ?_
      refine x_iconst (v := 0) dX8_checksum_83 rfl ?_
      refine x_istore_n (L' := [(0, .ref p_0), (1, .long w_1), (3, .int 0)]) [1, 2, 0] dX8_checksum_84 rfl (by decide) rfl ?_
      exact T_X8_checksum_85 (G := G) hw FU p_0 w_1 0 N kk0 h
    · refine x_icmp_ge_f (tgt := 83) dX8_checksum_43 (by decide) c4 ?_
      refine x_iconst (v := 0) dX8_checksum_46 rfl ?_
      refine x_istore (L' := [(0, .ref p_0), (1, .long w_1), (3, .int v_3), (4, .int 0)]) [1, 2, 3, 0] dX8_checksum_47 (by decide) rfl ?_
      exact T_X8_checksum_49 (G := G) hw ih FU p_0 w_1 v_3 0 N kk0 h
set_option maxHeartbeats 4000000 in
set_option maxRecDepth 100000 in
theorem T_X8_checksum_9 {G : XG} {Y : XY} (hw : WT Y) {r9 : Int64} {N9 : XN}: ∀ (D9 : Nat) (p_0 : Nat) (w_1 : Int64) (v_3 : Int32) (N : XN), kc Y p_0 = 18 → f_X8_checksum_9 Y D9 p_0 w_1 v_3 N = some (r9, N9) → Ex G yX8_checksum cX8_checksum 5 (some .long) (xR 7 0 0) (.inl (some (.long r9))) Y N9 0 0 9 [(0, .ref p_0), (1, .long w_1), (3, .int v_3)] [] Y N := by
  intro D9
  induction D9 with
  | zero => intro p_0 w_1 v_3 N kk0 h; exact nomatch (show none = some _ from h)
  | succ D9 ih =>
    intro p_0 w_1 v_3 N kk0 h
    rw [f_X8_checksum_9] at h
    refine x_iload_n 2 dX8_checksum_9 rfl rfl ?_
    refine x_bipush (v := 10) dX8_checksum_10 rfl ?_
    rcases x_if h with ⟨c1, h⟩ | ⟨c1, h⟩
    · refine x_icmp_ge_t (tgt := 34) dX8_checksum_12 (by decide) c1 ?_
      refine x_iconst (v := 0) dX8_checksum_34 rfl ?_
      refine x_istore_n (L' := [(0, .ref p_0), (1, .long w_1), (3, .int 0)]) [1, 2, 0] dX8_checksum_35 rfl (by decide) rfl ?_
      exact T_X8_checksum_36 (G := G) hw FU p_0 w_1 0 N kk0 h
    · refine x_icmp_ge_f (tgt := 34) dX8_checksum_12 (by decide) c1 ?_
      refine x_ldc2 (v := 31) dX8_checksum_15 kl_X8_323 ?_
      refine x_lload_n 1 dX8_checksum_18 rfl rfl ?_
      refine x_lmul dX8_checksum_19 ?_
      refine x_aload_n 0 dX8_checksum_20 rfl rfl ?_
      refine x_iload_n 2 dX8_checksum_21 rfl rfl ?_
      obtain ⟨r3, q2, h⟩ := x_bd1 h
      refine x_cv (b := p_0) (As := [.int v_3]) (ci := 8) (d' := 4) (zz := yX8_told) dX8_checksum_22 ml_X8_281 wi_X8_told wv_X8_told wn_X8 wc_X8_told hp_X8_told (by decide) (by decide) rfl (Nat.le_of_ble_eq_true rfl) ⟨Nat.zero_le _, Nat.zero_le _⟩ rfl kk0 (T_X8_told (G := G) hw kk0 q2) ?_
      refine x_i2l dX8_checksum_25 ?_
      refine x_ladd dX8_checksum_26 ?_
      obtain ⟨w4, ew4, h⟩ := x_lt h
      refine x_nml ew4 ?_
      refine x_lstore_n (L' := [(0, .ref p_0), (1, .long w4), (3, .int v_3)]) [1, 0, 2] dX8_checksum_27 rfl (by decide) rfl ?_
      refine x_iinc (L' := [(0, .ref p_0), (1, .long w4), (3, .int (v_3 + 1))]) 2 [1, 2, 0] dX8_checksum_28 rfl rfl (by decide) rfl ?_
      refine x_goto (tgt := 9) dX8_checksum_31 (by decide) ?_
      exact ih p_0 w4 (v_3 + 1) N kk0 h
set_option maxHeartbeats 4000000 in
set_option maxRecDepth 100000 in
theorem T_X8_checksum {G : XG} {Y : XY} (hw : WT Y) {a0 : Nat} {N : XN} (k100 : kc Y a0 = 18) {r9 : Int64} {N9 : XN} (h : f_X8_checksum Y a0 N = some (r9, N9)) : Cl G yX8_checksum cX8_checksum 5 (some .long) (xR 7 0 0) [.ref a0] (.inl (some (.long r9))) Y N Y N9 := by
  refine x_entry (by decide) (Nat.le_of_ble_eq_true rfl) rfl ?_
  rw [f_X8_checksum] at h
  refine x_aload_n 0 dX8_checksum_0 rfl rfl ?_
  refine x_iconst (v := 0) dX8_checksum_1 rfl ?_
  refine x_puti dX8_checksum_2 vc_X8 xin8 tyX8_ok nmX8 fb_X8_0 fl_X8_45 ff_X8_0 xr_X8_0 (nf_X8_0 _) (ft_X8_0 _) k100 ?_
  obtain ⟨N1, eN1, h⟩ := x_lt h
  refine x_nmN eN1 ?_
  refine x_lconst (v := 0) dX8_checksum_5 rfl ?_
  refine x_lstore_n (L' := [(0, .ref a0), (1, .long 0)]) [1, 0] dX8_checksum_6 rfl (by decide) rfl ?_
  refine x_iconst (v := 0) dX8_checksum_7 rfl ?_
  refine x_istore_n (L' := [(0, .ref a0), (1, .long 0), (3, .int 0)]) [1, 2, 0] dX8_checksum_8 rfl (by decide) rfl ?_
  exact T_X8_checksum_9 (G := G) hw FU a0 0 0 N1 k100 h

