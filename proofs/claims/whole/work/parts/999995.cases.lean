/-! THE LAW'S BODY: what its loop keeps, and its cases -/
def law_Z (G : XG) : List Frame → Array Value → State → State → Prop := fun below args s t => xB G = s.heap.size → lw_Z below args s t
/-- the object at B, the model behind it, the answer's long -/
def OK9 (Y : XY) (B : Nat) : Prop := WT Y ∧ YO Y B ∧ kc Y B = 17 ∧ kc Y (B + 908) = 18 ∧ kc Y (B + 925) = 3 ∧ kn Y (B + 925) = 1 ∧ kc Y (B + 6) = 14
theorem OK9.yrd {Y : XY} {B : Nat} (h : OK9 Y B) : OK9 (yrd Y (B + 6) (B + 2) (B + 97)) B := by
  obtain ⟨h1, h2, h3, h4, h5, h6, h7⟩ := h
  exact ⟨WT_yrd h1 h7, YO_yrd h2, h3, h4, h5, h6, h7⟩
/-- from here the law goes on with its next call -/
def LK (G : XG) (tb : List ExceptionTableEntry) (nm ds : String) (B t c s : Nat) : Prop := ∀ (Y : XY) (N : XN) (c' s' : Nat), OK9 Y B → IV B N → c' ≤ c + 1 → s' ≤ s + 6 → ExZ G ⟨RL, nm, ds⟩ cL_law 7 ret tb room_1 (law_Z G) c' s' 1241 [(0, .ref (xSb G)), (1, .ref B), (2, .ref (B + 908)), (3, .ref (B + 925)), (4, .int (nI (6 * t)))] [] Y N
theorem sidx {t j L : Nat} (hj : j ≤ 5) (ht : 6 * t + 6 ≤ L) (hL : L ≤ 3072) : vp_in (nI (6 * t) + nI j) L ∧ (nI (6 * t) + nI j).toNatClampNeg = 6 * t + j := by
  have e : nI (6 * t) + nI j = nI (6 * t + j) := nI_add _ _
  rw [e]
  have e2 : (nI (6 * t + j)).toNatClampNeg = 6 * t + j := nI_clamp (by omega)
  refine ⟨?_, e2⟩
  unfold vp_in
  rw [e2]
  rintro (h | h)
  · exact nI_nlt (Nat.zero_le _) (by omega) h
  · omega
theorem sidx0 {t L : Nat} (ht : 6 * t + 6 ≤ L) (hL : L ≤ 3072) : vp_in (nI (6 * t)) L ∧ (nI (6 * t)).toNatClampNeg = 6 * t := by
  have e2 : (nI (6 * t)).toNatClampNeg = 6 * t := nI_clamp (by omega)
  refine ⟨?_, e2⟩
  unfold vp_in
  rw [e2]
  rintro (h | h)
  · exact nI_nlt (Nat.zero_le _) (by omega) h
  · omega
theorem sl_cell0 {N : XN} {a k : Nat} {v : Int64} : (sl N a k v).2 a k = v := if_pos ⟨rfl, rfl⟩
theorem lg_cmp0 {x y : Int64} (h : x = y) : lg_cmp x y = 0 := by
  subst h
  unfold lg_cmp
  rw [if_neg (by rw [gt_iff_lt, Int64.lt_iff_toInt_lt]; omega), if_pos rfl]
set_option maxHeartbeats 1000000 in
theorem LC_append {G : XG} {tb : List ExceptionTableEntry} {nm ds : String} {Y : XY} {N : XN} {B t c s : Nat} (ok : OK9 Y B) (hI : IV B N) (ht : 6 * t + 6 ≤ xSl G) (hN : xSl G ≤ 3072) (hc : c + 1 ≤ 601024) (hs : s + 6 ≤ 7293034) (kk : LK G tb nm ds B t c s) : ExZ G ⟨RL, nm, ds⟩ cL_law 7 ret tb room_1 (law_Z G) c s 136 [(0, .ref (xSb G)), (1, .ref B), (2, .ref (B + 908)), (3, .ref (B + 925)), (4, .int (nI (6 * t)))] [] Y N := by
  obtain ⟨w0, y0, kB, kM, kq, kn9, k14⟩ := id ok
  have i1 := sidx (t := t) (j := 1) (L := xSl G) (by omega) ht hN
  have i2 := sidx (t := t) (j := 2) (L := xSl G) (by omega) ht hN
  have i3 := sidx (t := t) (j := 3) (L := xSl G) (by omega) ht hN
  have i4 := sidx (t := t) (j := 4) (L := xSl G) (by omega) ht hN
  have i5 := sidx (t := t) (j := 5) (L := xSl G) (by omega) ht hN
  obtain ⟨v, N1, h1, h2⟩ := F_append y0 hI (xSx G (6 * t + 1)) (xSx G (6 * t + 2)) (xSx G (6 * t + 3)) (xSx G (6 * t + 4)) (xSx G (6 * t + 5))
  obtain ⟨N3, m1, g1, -⟩ := h2 N1 rfl
  refine x_aload_n 1 dL_law_136 rfl rfl ?_
  refine x_aload_n 0 dL_law_137 rfl rfl ?_
  refine x_iload 4 dL_law_138 rfl ?_
  refine x_iconst (v := nI 1) dL_law_140 (by decide) ?_
  refine x_iadd dL_law_141 ?_
  refine x_scrld i1.1 i1.2 dL_law_142 ?_
  refine x_aload_n 0 dL_law_143 rfl rfl ?_
  refine x_iload 4 dL_law_144 rfl ?_
  refine x_iconst (v := nI 2) dL_law_146 (by decide) ?_
  refine x_iadd dL_law_147 ?_
  refine x_scrld i2.1 i2.2 dL_law_148 ?_
  refine x_aload_n 0 dL_law_149 rfl rfl ?_
  refine x_iload 4 dL_law_150 rfl ?_
  refine x_iconst (v := nI 3) dL_law_152 (by decide) ?_
  refine x_iadd dL_law_153 ?_
  refine x_scrld i3.1 i3.2 dL_law_154 ?_
  refine x_aload_n 0 dL_law_155 rfl rfl ?_
  refine x_iload 4 dL_law_156 rfl ?_
  refine x_iconst (v := nI 4) dL_law_158 (by decide) ?_
  refine x_iadd dL_law_159 ?_
  refine x_scrld i4.1 i4.2 dL_law_160 ?_
  refine x_aload_n 0 dL_law_161 rfl rfl ?_
  refine x_iload 4 dL_law_162 rfl ?_
  refine x_iconst (v := nI 5) dL_law_164 (by decide) ?_
  refine x_iadd dL_law_165 ?_
  refine x_scrld i5.1 i5.2 dL_law_166 ?_
  refine x_callV (ci := 7) (b := B) (As := [.int (xSx G (6 * t + 1)), .int (xSx G (6 * t + 2)), .int (xSx G (6 * t + 3)), .int (xSx G (6 * t + 4)), .int (xSx G (6 * t + 5))]) (rest := []) (R' := xR 2 0 0) (zz := yX7_append) dL_law_167 ml_L_71 wi_X7_append wv_X7_append wn_X7 wc_X7_append hp_X7_append ⟨Nat.le_of_ble_eq_true rfl, Nat.le_of_ble_eq_true rfl⟩ rfl (Nat.le_of_ble_eq_true rfl) ⟨by show c + 0 ≤ 601024; omega, by show s + 0 ≤ 7293034; omega⟩ vc_X7 kB (T_X7_append (G := G) w0 kB h1) ?_
  refine x_aload_n 2 dL_law_170 rfl rfl ?_
  refine x_aload_n 0 dL_law_171 rfl rfl ?_
  refine x_iload 4 dL_law_172 rfl ?_
  refine x_iconst (v := nI 1) dL_law_174 (by decide) ?_
  refine x_iadd dL_law_175 ?_
  refine x_scrld i1.1 i1.2 dL_law_176 ?_
  refine x_aload_n 0 dL_law_177 rfl rfl ?_
  refine x_iload 4 dL_law_178 rfl ?_
  refine x_iconst (v := nI 2) dL_law_180 (by decide) ?_
  refine x_iadd dL_law_181 ?_
  refine x_scrld i2.1 i2.2 dL_law_182 ?_
  refine x_aload_n 0 dL_law_183 rfl rfl ?_
  refine x_iload 4 dL_law_184 rfl ?_
  refine x_iconst (v := nI 3) dL_law_186 (by decide) ?_
  refine x_iadd dL_law_187 ?_
  refine x_scrld i3.1 i3.2 dL_law_188 ?_
  refine x_aload_n 0 dL_law_189 rfl rfl ?_
  refine x_iload 4 dL_law_190 rfl ?_
  refine x_iconst (v := nI 4) dL_law_192 (by decide) ?_
  refine x_iadd dL_law_193 ?_
  refine x_scrld i4.1 i4.2 dL_law_194 ?_
  refine x_aload_n 0 dL_law_195 rfl rfl ?_
  refine x_iload 4 dL_law_196 rfl ?_
  refine x_iconst (v := nI 5) dL_law_198 (by decide) ?_
  refine x_iadd dL_law_199 ?_
  refine x_scrld i5.1 i5.2 dL_law_200 ?_
  refine x_callV (ci := 8) (b := B + 908) (As := [.int (xSx G (6 * t + 1)), .int (xSx G (6 * t + 2)), .int (xSx G (6 * t + 3)), .int (xSx G (6 * t + 4)), .int (xSx G (6 * t + 5))]) (rest := [.int v]) (R' := xR 1 0 0) (zz := yX8_append) dL_law_201 ml_L_75 wi_X8_append wv_X8_append wn_X8 wc_X8_append hp_X8_append ⟨Nat.le_of_ble_eq_true rfl, Nat.le_of_ble_eq_true rfl⟩ rfl (Nat.le_of_ble_eq_true rfl) ⟨by show c + 0 + 0 ≤ 601024; omega, by show s + 0 + 0 ≤ 7293034; omega⟩ vc_X8 kM (T_X8_append (G := G) w0 kM m1) ?_
  refine x_icmp_eq_t (tgt := 1241) dL_law_204 (by decide) rfl ?_
  exact kk _ _ _ _ ok g1 (by show c + 0 + 0 ≤ c + 1; omega) (by show s + 0 + 0 ≤ s + 6; omega)
set_option maxHeartbeats 1000000 in
theorem LC_load {G : XG} {tb : List ExceptionTableEntry} {nm ds : String} {Y : XY} {N : XN} {B t c s : Nat} (ok : OK9 Y B) (hI : IV B N) (ht : 6 * t + 6 ≤ xSl G) (hN : xSl G ≤ 3072) (hc : c + 1 ≤ 601024) (hs : s + 6 ≤ 7293034) (kk : LK G tb nm ds B t c s) : ExZ G ⟨RL, nm, ds⟩ cL_law 7 ret tb room_1 (law_Z G) c s 209 [(0, .ref (xSb G)), (1, .ref B), (2, .ref (B + 908)), (3, .ref (B + 925)), (4, .int (nI (6 * t)))] [] Y N := by
  obtain ⟨w0, y0, kB, kM, kq, kn9, k14⟩ := id ok
  have i1 := sidx (t := t) (j := 1) (L := xSl G) (by omega) ht hN
  obtain ⟨o, N1, h1, h2⟩ := F_load y0 hI (xSx G (6 * t + 1))
  have ey : yrd Y (gp Y B 4) (gp Y B 3) (gp Y B 6) = yrd Y (B + 6) (B + 2) (B + 97) := by rw [y0.1.2.1, y0.1.2.2.1, y0.1.2.2.2.2.1]
  cases o with
  | inl r =>
    obtain ⟨v, N3, m1, g1, l1, a1, a2⟩ := h2 (sl N1 (B + 925) 0 r.toInt64) rfl
    have e9 : gl N3 (B + 925) 0 = r.toInt64 := by
      unfold gl
      rw [l1 _ (by omega)]
      exact sl_cell0
    have hW9 := W_load (G := G) w0 kB kq kn9 h1
    rw [ey] at hW9
    refine x_aload_n 1 dL_law_209 rfl rfl ?_
    refine x_aload_n 0 dL_law_210 rfl rfl ?_
    refine x_iload 4 dL_law_211 rfl ?_
    refine x_iconst (v := nI 1) dL_law_213 (by decide) ?_
    refine x_iadd dL_law_214 ?_
    refine x_scrld i1.1 i1.2 dL_law_215 ?_
    refine x_aload_n 3 dL_law_216 rfl rfl ?_
    refine x_csW (As := [.ref B, .int (xSx G (6 * t + 1)), .ref (B + 925)]) (rest := []) (R' := xR 31 0 0) (zz := yL_load) dL_law_217 ml_L_76 wt_L_load wn_L wc_L_load hp_L_load ⟨Nat.le_of_ble_eq_true rfl, Nat.le_of_ble_eq_true rfl⟩ rfl (Nat.le_of_ble_eq_true rfl) ⟨by show c + 0 ≤ 601024; omega, by show s + 0 ≤ 7293034; omega⟩ (hW9) ?_
    refine x_istore (L' := [(0, .ref (xSb G)), (1, .ref B), (2, .ref (B + 908)), (3, .ref (B + 925)), (4, .int (nI (6 * t))), (5, .int 0)]) [1, 2, 3, 4, 5, 0] dL_law_220 (by decide) rfl ?_
    refine x_aload_n 2 dL_law_222 rfl rfl ?_
    refine x_aload_n 0 dL_law_223 rfl rfl ?_
    refine x_iload 4 dL_law_224 rfl ?_
    refine x_iconst (v := nI 1) dL_law_226 (by decide) ?_
    refine x_iadd dL_law_227 ?_
    refine x_scrld i1.1 i1.2 dL_law_228 ?_
    refine x_callV (ci := 8) (b := B + 908) (As := [.int (xSx G (6 * t + 1))]) (rest := []) (R' := xR 35 0 0) (zz := yX8_load) dL_law_229 ml_L_81 wi_X8_load wv_X8_load wn_X8 wc_X8_load hp_X8_load ⟨Nat.le_of_ble_eq_true rfl, Nat.le_of_ble_eq_true rfl⟩ rfl (Nat.le_of_ble_eq_true rfl) ⟨by show c + 0 + 0 ≤ 601024; omega, by show s + 0 + 0 ≤ 7293034; omega⟩ vc_X8 kM (T_X8_load (G := G) (WT_yrd w0 k14) kM m1) ?_
    refine x_istore (L' := [(0, .ref (xSb G)), (1, .ref B), (2, .ref (B + 908)), (3, .ref (B + 925)), (4, .int (nI (6 * t))), (5, .int 0), (6, .int v)]) [1, 2, 3, 4, 5, 6, 0] dL_law_232 (by decide) rfl ?_
    refine x_aload_n 2 dL_law_234 rfl rfl ?_
    refine x_callV (ci := 8) (b := B + 908) (As := []) (rest := []) (R' := xR 1 0 0) (zz := yX8_thrown) dL_law_235 ml_L_82 wi_X8_thrown wv_X8_thrown wn_X8 wc_X8_thrown hp_X8_thrown ⟨Nat.le_of_ble_eq_true rfl, Nat.le_of_ble_eq_true rfl⟩ rfl (Nat.le_of_ble_eq_true rfl) ⟨by show c + 0 + 0 + 0 ≤ 601024; omega, by show s + 0 + 0 + 0 ≤ 7293034; omega⟩ vc_X8 kM (T_X8_thrown (G := G) (r9 := gi N3 (B + 908) 0) (WT_yrd w0 k14) kM rfl) ?_
    refine x_iload 5 dL_law_238 rfl ?_
    refine x_icmp_eq_t (tgt := 245) dL_law_240 (by decide) (a1.trans (by decide)) ?_
    refine x_iload 5 dL_law_245 rfl ?_
    refine x_if_ne_f (tgt := 262) dL_law_247 (by decide) rfl ?_
    refine x_aload_n 3 dL_law_250 rfl rfl ?_
    refine x_iconst (v := 0) dL_law_251 rfl ?_
    refine x_lald (j9 := 0) dL_law_252 kq (show vp_in 0 (kn Y (B + 925)) by rw [kn9]; exact vp01) rfl ?_
    refine x_iload 6 dL_law_253 rfl ?_
    refine x_i2l dL_law_255 ?_
    refine x_lcmp dL_law_256 ?_
    refine x_if_eq_t (tgt := 262) dL_law_257 (by decide) (lg_cmp0 (e9.trans (congrArg Int32.toInt64 a2))) ?_
    refine x_goto (tgt := 1241) dL_law_262 (by decide) ?_
    refine x_sub (L' := [(0, .ref (xSb G)), (1, .ref B), (2, .ref (B + 908)), (3, .ref (B + 925)), (4, .int (nI (6 * t)))]) [0, 1, 2, 3, 4] rfl ?_
    exact kk _ _ _ _ ok.yrd g1 (by show c + 0 + 0 + 0 ≤ c + 1; omega) (by show s + 0 + 0 + 0 ≤ s + 6; omega)
  | inr E =>
    obtain ⟨v, N3, m1, g1, l1, i, hi, hE, a1⟩ := h2 N1 rfl
    match i, hi, hE, a1 with
    | 0, _, hE, a1 =>
      have hE : IAE = E := hE
      subst hE
      refine x_aload_n 1 dL_law_209 rfl rfl ?_
      refine x_aload_n 0 dL_law_210 rfl rfl ?_
      refine x_iload 4 dL_law_211 rfl ?_
      refine x_iconst (v := nI 1) dL_law_213 (by decide) ?_
      refine x_iadd dL_law_214 ?_
      refine x_scrld i1.1 i1.2 dL_law_215 ?_
      refine x_aload_n 3 dL_law_216 rfl rfl ?_
      refine x_csW (As := [.ref B, .int (xSx G (6 * t + 1)), .ref (B + 925)]) (rest := []) (R' := xR 31 1 6) (zz := yL_load) dL_law_217 ml_L_76 wt_L_load wn_L wc_L_load hp_L_load ⟨Nat.le_of_ble_eq_true rfl, Nat.le_of_ble_eq_true rfl⟩ rfl (Nat.le_of_ble_eq_true rfl) ⟨by show c + 1 ≤ 601024; omega, by show s + 6 ≤ 7293034; omega⟩ (W_load_x0 (G := G) w0 kB kq kn9 h1) ?_
      refine x_istore (L' := [(0, .ref (xSb G)), (1, .ref B), (2, .ref (B + 908)), (3, .ref (B + 925)), (4, .int (nI (6 * t))), (5, .int 1)]) [1, 2, 3, 4, 5, 0] dL_law_220 (by decide) rfl ?_
      refine x_aload_n 2 dL_law_222 rfl rfl ?_
      refine x_aload_n 0 dL_law_223 rfl rfl ?_
      refine x_iload 4 dL_law_224 rfl ?_
      refine x_iconst (v := nI 1) dL_law_226 (by decide) ?_
      refine x_iadd dL_law_227 ?_
      refine x_scrld i1.1 i1.2 dL_law_228 ?_
      refine x_callV (ci := 8) (b := B + 908) (As := [.int (xSx G (6 * t + 1))]) (rest := []) (R' := xR 35 0 0) (zz := yX8_load) dL_law_229 ml_L_81 wi_X8_load wv_X8_load wn_X8 wc_X8_load hp_X8_load ⟨Nat.le_of_ble_eq_true rfl, Nat.le_of_ble_eq_true rfl⟩ rfl (Nat.le_of_ble_eq_true rfl) ⟨by show c + 1 + 0 ≤ 601024; omega, by show s + 6 + 0 ≤ 7293034; omega⟩ vc_X8 kM (T_X8_load (G := G) w0 kM m1) ?_
      refine x_istore (L' := [(0, .ref (xSb G)), (1, .ref B), (2, .ref (B + 908)), (3, .ref (B + 925)), (4, .int (nI (6 * t))), (5, .int 1), (6, .int v)]) [1, 2, 3, 4, 5, 6, 0] dL_law_232 (by decide) rfl ?_
      refine x_aload_n 2 dL_law_234 rfl rfl ?_
      refine x_callV (ci := 8) (b := B + 908) (As := []) (rest := []) (R' := xR 1 0 0) (zz := yX8_thrown) dL_law_235 ml_L_82 wi_X8_thrown wv_X8_thrown wn_X8 wc_X8_thrown hp_X8_thrown ⟨Nat.le_of_ble_eq_true rfl, Nat.le_of_ble_eq_true rfl⟩ rfl (Nat.le_of_ble_eq_true rfl) ⟨by show c + 1 + 0 + 0 ≤ 601024; omega, by show s + 6 + 0 + 0 ≤ 7293034; omega⟩ vc_X8 kM (T_X8_thrown (G := G) (r9 := gi N3 (B + 908) 0) w0 kM rfl) ?_
      refine x_iload 5 dL_law_238 rfl ?_
      refine x_icmp_eq_t (tgt := 245) dL_law_240 (by decide) (a1.trans (by decide)) ?_
      refine x_iload 5 dL_law_245 rfl ?_
      refine x_if_ne_t (tgt := 262) dL_law_247 (by decide) (by decide) ?_
      refine x_goto (tgt := 1241) dL_law_262 (by decide) ?_
      refine x_sub (L' := [(0, .ref (xSb G)), (1, .ref B), (2, .ref (B + 908)), (3, .ref (B + 925)), (4, .int (nI (6 * t)))]) [0, 1, 2, 3, 4] rfl ?_
      exact kk _ _ _ _ ok g1 (by show c + 1 + 0 + 0 ≤ c + 1; omega) (by show s + 6 + 0 + 0 ≤ s + 6; omega)
    | z + 1, hi, _, _ => exact absurd hi (by simp only [List.length_cons, List.length_nil]; omega)
set_option maxHeartbeats 1000000 in
theorem LC_errorOffset {G : XG} {tb : List ExceptionTableEntry} {nm ds : String} {Y : XY} {N : XN} {B t c s : Nat} (ok : OK9 Y B) (hI : IV B N) (ht : 6 * t + 6 ≤ xSl G) (hN : xSl G ≤ 3072) (hc : c + 1 ≤ 601024) (hs : s + 6 ≤ 7293034) (kk : LK G tb nm ds B t c s) : ExZ G ⟨RL, nm, ds⟩ cL_law 7 ret tb room_1 (law_Z G) c s 265 [(0, .ref (xSb G)), (1, .ref B), (2, .ref (B + 908)), (3, .ref (B + 925)), (4, .int (nI (6 * t)))] [] Y N := by
  obtain ⟨w0, y0, kB, kM, kq, kn9, k14⟩ := id ok
  obtain ⟨v, N1, h1, h2⟩ := F_errorOffset hI 
  obtain ⟨N3, m1, g1, -⟩ := h2 N1 rfl
  have h1v : f_X7_errorOffset Y B N = v := congrArg Prod.fst (Option.some.inj h1)
  have h1n : N = N1 := congrArg Prod.snd (Option.some.inj h1)
  subst h1n
  refine x_aload_n 1 dL_law_265 rfl rfl ?_
  refine x_callV (ci := 7) (b := B) (As := []) (rest := []) (R' := xR 1 0 0) (zz := yX7_errorOffset) dL_law_266 ml_L_86 wi_X7_errorOffset wv_X7_errorOffset wn_X7 wc_X7_errorOffset hp_X7_errorOffset ⟨Nat.le_of_ble_eq_true rfl, Nat.le_of_ble_eq_true rfl⟩ rfl (Nat.le_of_ble_eq_true rfl) ⟨by show c + 0 ≤ 601024; omega, by show s + 0 ≤ 7293034; omega⟩ vc_X7 kB (T_X7_errorOffset (G := G) w0 kB h1v) ?_
  refine x_aload_n 2 dL_law_269 rfl rfl ?_
  refine x_callV (ci := 8) (b := B + 908) (As := []) (rest := [.int v]) (R' := xR 1 0 0) (zz := yX8_errorOffset) dL_law_270 ml_L_89 wi_X8_errorOffset wv_X8_errorOffset wn_X8 wc_X8_errorOffset hp_X8_errorOffset ⟨Nat.le_of_ble_eq_true rfl, Nat.le_of_ble_eq_true rfl⟩ rfl (Nat.le_of_ble_eq_true rfl) ⟨by show c + 0 + 0 ≤ 601024; omega, by show s + 0 + 0 ≤ 7293034; omega⟩ vc_X8 kM (T_X8_errorOffset (G := G) w0 kM m1) ?_
  refine x_icmp_eq_t (tgt := 1241) dL_law_273 (by decide) rfl ?_
  exact kk _ _ _ _ ok g1 (by show c + 0 + 0 ≤ c + 1; omega) (by show s + 0 + 0 ≤ s + 6; omega)
set_option maxHeartbeats 1000000 in
theorem LC_state {G : XG} {tb : List ExceptionTableEntry} {nm ds : String} {Y : XY} {N : XN} {B t c s : Nat} (ok : OK9 Y B) (hI : IV B N) (ht : 6 * t + 6 ≤ xSl G) (hN : xSl G ≤ 3072) (hc : c + 1 ≤ 601024) (hs : s + 6 ≤ 7293034) (kk : LK G tb nm ds B t c s) : ExZ G ⟨RL, nm, ds⟩ cL_law 7 ret tb room_1 (law_Z G) c s 278 [(0, .ref (xSb G)), (1, .ref B), (2, .ref (B + 908)), (3, .ref (B + 925)), (4, .int (nI (6 * t)))] [] Y N := by
  obtain ⟨w0, y0, kB, kM, kq, kn9, k14⟩ := id ok
  have i1 := sidx (t := t) (j := 1) (L := xSl G) (by omega) ht hN
  obtain ⟨o, N1, h1, h2⟩ := F_state y0 hI (xSx G (6 * t + 1))
  cases o with
  | inl r =>
    obtain ⟨v, N3, m1, g1, l1, a1, a2⟩ := h2 (sl N1 (B + 925) 0 r.toInt64) rfl
    have e9 : gl N3 (B + 925) 0 = r.toInt64 := by
      unfold gl
      rw [l1 _ (by omega)]
      exact sl_cell0
    refine x_aload_n 1 dL_law_278 rfl rfl ?_
    refine x_aload_n 0 dL_law_279 rfl rfl ?_
    refine x_iload 4 dL_law_280 rfl ?_
    refine x_iconst (v := nI 1) dL_law_282 (by decide) ?_
    refine x_iadd dL_law_283 ?_
    refine x_scrld i1.1 i1.2 dL_law_284 ?_
    refine x_aload_n 3 dL_law_285 rfl rfl ?_
    refine x_csW (As := [.ref B, .int (xSx G (6 * t + 1)), .ref (B + 925)]) (rest := []) (R' := xR 8 0 0) (zz := yL_state) dL_law_286 ml_L_90 wt_L_state wn_L wc_L_state hp_L_state ⟨Nat.le_of_ble_eq_true rfl, Nat.le_of_ble_eq_true rfl⟩ rfl (Nat.le_of_ble_eq_true rfl) ⟨by show c + 0 ≤ 601024; omega, by show s + 0 ≤ 7293034; omega⟩ (W_state (G := G) w0 kB kq kn9 h1) ?_
    refine x_istore (L' := [(0, .ref (xSb G)), (1, .ref B), (2, .ref (B + 908)), (3, .ref (B + 925)), (4, .int (nI (6 * t))), (5, .int 0)]) [1, 2, 3, 4, 5, 0] dL_law_289 (by decide) rfl ?_
    refine x_aload_n 2 dL_law_291 rfl rfl ?_
    refine x_aload_n 0 dL_law_292 rfl rfl ?_
    refine x_iload 4 dL_law_293 rfl ?_
    refine x_iconst (v := nI 1) dL_law_295 (by decide) ?_
    refine x_iadd dL_law_296 ?_
    refine x_scrld i1.1 i1.2 dL_law_297 ?_
    refine x_callV (ci := 8) (b := B + 908) (As := [.int (xSx G (6 * t + 1))]) (rest := []) (R' := xR 5 0 0) (zz := yX8_state) dL_law_298 ml_L_92 wi_X8_state wv_X8_state wn_X8 wc_X8_state hp_X8_state ⟨Nat.le_of_ble_eq_true rfl, Nat.le_of_ble_eq_true rfl⟩ rfl (Nat.le_of_ble_eq_true rfl) ⟨by show c + 0 + 0 ≤ 601024; omega, by show s + 0 + 0 ≤ 7293034; omega⟩ vc_X8 kM (T_X8_state (G := G) w0 kM m1) ?_
    refine x_istore (L' := [(0, .ref (xSb G)), (1, .ref B), (2, .ref (B + 908)), (3, .ref (B + 925)), (4, .int (nI (6 * t))), (5, .int 0), (6, .int v)]) [1, 2, 3, 4, 5, 6, 0] dL_law_301 (by decide) rfl ?_
    refine x_aload_n 2 dL_law_303 rfl rfl ?_
    refine x_callV (ci := 8) (b := B + 908) (As := []) (rest := []) (R' := xR 1 0 0) (zz := yX8_thrown) dL_law_304 ml_L_82 wi_X8_thrown wv_X8_thrown wn_X8 wc_X8_thrown hp_X8_thrown ⟨Nat.le_of_ble_eq_true rfl, Nat.le_of_ble_eq_true rfl⟩ rfl (Nat.le_of_ble_eq_true rfl) ⟨by show c + 0 + 0 + 0 ≤ 601024; omega, by show s + 0 + 0 + 0 ≤ 7293034; omega⟩ vc_X8 kM (T_X8_thrown (G := G) (r9 := gi N3 (B + 908) 0) w0 kM rfl) ?_
    refine x_iload 5 dL_law_307 rfl ?_
    refine x_icmp_eq_t (tgt := 314) dL_law_309 (by decide) (a1.trans (by decide)) ?_
    refine x_iload 5 dL_law_314 rfl ?_
    refine x_if_ne_f (tgt := 331) dL_law_316 (by decide) rfl ?_
    refine x_aload_n 3 dL_law_319 rfl rfl ?_
    refine x_iconst (v := 0) dL_law_320 rfl ?_
    refine x_lald (j9 := 0) dL_law_321 kq (show vp_in 0 (kn Y (B + 925)) by rw [kn9]; exact vp01) rfl ?_
    refine x_iload 6 dL_law_322 rfl ?_
    refine x_i2l dL_law_324 ?_
    refine x_lcmp dL_law_325 ?_
    refine x_if_eq_t (tgt := 331) dL_law_326 (by decide) (lg_cmp0 (e9.trans (congrArg Int32.toInt64 a2))) ?_
    refine x_goto (tgt := 1241) dL_law_331 (by decide) ?_
    refine x_sub (L' := [(0, .ref (xSb G)), (1, .ref B), (2, .ref (B + 908)), (3, .ref (B + 925)), (4, .int (nI (6 * t)))]) [0, 1, 2, 3, 4] rfl ?_
    exact kk _ _ _ _ ok g1 (by show c + 0 + 0 + 0 ≤ c + 1; omega) (by show s + 0 + 0 + 0 ≤ s + 6; omega)
  | inr E =>
    obtain ⟨v, N3, m1, g1, l1, i, hi, hE, a1⟩ := h2 N1 rfl
    match i, hi, hE, a1 with
    | 0, _, hE, a1 =>
      have hE : IAE = E := hE
      subst hE
      refine x_aload_n 1 dL_law_278 rfl rfl ?_
      refine x_aload_n 0 dL_law_279 rfl rfl ?_
      refine x_iload 4 dL_law_280 rfl ?_
      refine x_iconst (v := nI 1) dL_law_282 (by decide) ?_
      refine x_iadd dL_law_283 ?_
      refine x_scrld i1.1 i1.2 dL_law_284 ?_
      refine x_aload_n 3 dL_law_285 rfl rfl ?_
      refine x_csW (As := [.ref B, .int (xSx G (6 * t + 1)), .ref (B + 925)]) (rest := []) (R' := xR 8 1 6) (zz := yL_state) dL_law_286 ml_L_90 wt_L_state wn_L wc_L_state hp_L_state ⟨Nat.le_of_ble_eq_true rfl, Nat.le_of_ble_eq_true rfl⟩ rfl (Nat.le_of_ble_eq_true rfl) ⟨by show c + 1 ≤ 601024; omega, by show s + 6 ≤ 7293034; omega⟩ (W_state_x0 (G := G) w0 kB kq kn9 h1) ?_
      refine x_istore (L' := [(0, .ref (xSb G)), (1, .ref B), (2, .ref (B + 908)), (3, .ref (B + 925)), (4, .int (nI (6 * t))), (5, .int 1)]) [1, 2, 3, 4, 5, 0] dL_law_289 (by decide) rfl ?_
      refine x_aload_n 2 dL_law_291 rfl rfl ?_
      refine x_aload_n 0 dL_law_292 rfl rfl ?_
      refine x_iload 4 dL_law_293 rfl ?_
      refine x_iconst (v := nI 1) dL_law_295 (by decide) ?_
      refine x_iadd dL_law_296 ?_
      refine x_scrld i1.1 i1.2 dL_law_297 ?_
      refine x_callV (ci := 8) (b := B + 908) (As := [.int (xSx G (6 * t + 1))]) (rest := []) (R' := xR 5 0 0) (zz := yX8_state) dL_law_298 ml_L_92 wi_X8_state wv_X8_state wn_X8 wc_X8_state hp_X8_state ⟨Nat.le_of_ble_eq_true rfl, Nat.le_of_ble_eq_true rfl⟩ rfl (Nat.le_of_ble_eq_true rfl) ⟨by show c + 1 + 0 ≤ 601024; omega, by show s + 6 + 0 ≤ 7293034; omega⟩ vc_X8 kM (T_X8_state (G := G) w0 kM m1) ?_
      refine x_istore (L' := [(0, .ref (xSb G)), (1, .ref B), (2, .ref (B + 908)), (3, .ref (B + 925)), (4, .int (nI (6 * t))), (5, .int 1), (6, .int v)]) [1, 2, 3, 4, 5, 6, 0] dL_law_301 (by decide) rfl ?_
      refine x_aload_n 2 dL_law_303 rfl rfl ?_
      refine x_callV (ci := 8) (b := B + 908) (As := []) (rest := []) (R' := xR 1 0 0) (zz := yX8_thrown) dL_law_304 ml_L_82 wi_X8_thrown wv_X8_thrown wn_X8 wc_X8_thrown hp_X8_thrown ⟨Nat.le_of_ble_eq_true rfl, Nat.le_of_ble_eq_true rfl⟩ rfl (Nat.le_of_ble_eq_true rfl) ⟨by show c + 1 + 0 + 0 ≤ 601024; omega, by show s + 6 + 0 + 0 ≤ 7293034; omega⟩ vc_X8 kM (T_X8_thrown (G := G) (r9 := gi N3 (B + 908) 0) w0 kM rfl) ?_
      refine x_iload 5 dL_law_307 rfl ?_
      refine x_icmp_eq_t (tgt := 314) dL_law_309 (by decide) (a1.trans (by decide)) ?_
      refine x_iload 5 dL_law_314 rfl ?_
      refine x_if_ne_t (tgt := 331) dL_law_316 (by decide) (by decide) ?_
      refine x_goto (tgt := 1241) dL_law_331 (by decide) ?_
      refine x_sub (L' := [(0, .ref (xSb G)), (1, .ref B), (2, .ref (B + 908)), (3, .ref (B + 925)), (4, .int (nI (6 * t)))]) [0, 1, 2, 3, 4] rfl ?_
      exact kk _ _ _ _ ok g1 (by show c + 1 + 0 + 0 ≤ c + 1; omega) (by show s + 6 + 0 + 0 ≤ s + 6; omega)
    | z + 1, hi, _, _ => exact absurd hi (by simp only [List.length_cons, List.length_nil]; omega)
set_option maxHeartbeats 1000000 in
theorem LC_handler {G : XG} {tb : List ExceptionTableEntry} {nm ds : String} {Y : XY} {N : XN} {B t c s : Nat} (ok : OK9 Y B) (hI : IV B N) (ht : 6 * t + 6 ≤ xSl G) (hN : xSl G ≤ 3072) (hc : c + 1 ≤ 601024) (hs : s + 6 ≤ 7293034) (kk : LK G tb nm ds B t c s) : ExZ G ⟨RL, nm, ds⟩ cL_law 7 ret tb room_1 (law_Z G) c s 334 [(0, .ref (xSb G)), (1, .ref B), (2, .ref (B + 908)), (3, .ref (B + 925)), (4, .int (nI (6 * t)))] [] Y N := by
  obtain ⟨w0, y0, kB, kM, kq, kn9, k14⟩ := id ok
  have i1 := sidx (t := t) (j := 1) (L := xSl G) (by omega) ht hN
  have i2 := sidx (t := t) (j := 2) (L := xSl G) (by omega) ht hN
  obtain ⟨o, N1, h1, h2⟩ := F_handler y0 hI (xSx G (6 * t + 1)) (xSx G (6 * t + 2))
  cases o with
  | inl r =>
    obtain ⟨v, N3, m1, g1, l1, a1, a2⟩ := h2 (sl N1 (B + 925) 0 r.toInt64) rfl
    have e9 : gl N3 (B + 925) 0 = r.toInt64 := by
      unfold gl
      rw [l1 _ (by omega)]
      exact sl_cell0
    refine x_aload_n 1 dL_law_334 rfl rfl ?_
    refine x_aload_n 0 dL_law_335 rfl rfl ?_
    refine x_iload 4 dL_law_336 rfl ?_
    refine x_iconst (v := nI 1) dL_law_338 (by decide) ?_
    refine x_iadd dL_law_339 ?_
    refine x_scrld i1.1 i1.2 dL_law_340 ?_
    refine x_aload_n 0 dL_law_341 rfl rfl ?_
    refine x_iload 4 dL_law_342 rfl ?_
    refine x_iconst (v := nI 2) dL_law_344 (by decide) ?_
    refine x_iadd dL_law_345 ?_
    refine x_scrld i2.1 i2.2 dL_law_346 ?_
    refine x_aload_n 3 dL_law_347 rfl rfl ?_
    refine x_csW (As := [.ref B, .int (xSx G (6 * t + 1)), .int (xSx G (6 * t + 2)), .ref (B + 925)]) (rest := []) (R' := xR 8 0 0) (zz := yL_handler) dL_law_348 ml_L_93 wt_L_handler wn_L wc_L_handler hp_L_handler ⟨Nat.le_of_ble_eq_true rfl, Nat.le_of_ble_eq_true rfl⟩ rfl (Nat.le_of_ble_eq_true rfl) ⟨by show c + 0 ≤ 601024; omega, by show s + 0 ≤ 7293034; omega⟩ (W_handler (G := G) w0 kB kq kn9 h1) ?_
    refine x_istore (L' := [(0, .ref (xSb G)), (1, .ref B), (2, .ref (B + 908)), (3, .ref (B + 925)), (4, .int (nI (6 * t))), (5, .int 0)]) [1, 2, 3, 4, 5, 0] dL_law_351 (by decide) rfl ?_
    refine x_aload_n 2 dL_law_353 rfl rfl ?_
    refine x_aload_n 0 dL_law_354 rfl rfl ?_
    refine x_iload 4 dL_law_355 rfl ?_
    refine x_iconst (v := nI 1) dL_law_357 (by decide) ?_
    refine x_iadd dL_law_358 ?_
    refine x_scrld i1.1 i1.2 dL_law_359 ?_
    refine x_aload_n 0 dL_law_360 rfl rfl ?_
    refine x_iload 4 dL_law_361 rfl ?_
    refine x_iconst (v := nI 2) dL_law_363 (by decide) ?_
    refine x_iadd dL_law_364 ?_
    refine x_scrld i2.1 i2.2 dL_law_365 ?_
    refine x_callV (ci := 8) (b := B + 908) (As := [.int (xSx G (6 * t + 1)), .int (xSx G (6 * t + 2))]) (rest := []) (R' := xR 7 0 0) (zz := yX8_handler) dL_law_366 ml_L_96 wi_X8_handler wv_X8_handler wn_X8 wc_X8_handler hp_X8_handler ⟨Nat.le_of_ble_eq_true rfl, Nat.le_of_ble_eq_true rfl⟩ rfl (Nat.le_of_ble_eq_true rfl) ⟨by show c + 0 + 0 ≤ 601024; omega, by show s + 0 + 0 ≤ 7293034; omega⟩ vc_X8 kM (T_X8_handler (G := G) w0 kM m1) ?_
    refine x_istore (L' := [(0, .ref (xSb G)), (1, .ref B), (2, .ref (B + 908)), (3, .ref (B + 925)), (4, .int (nI (6 * t))), (5, .int 0), (6, .int v)]) [1, 2, 3, 4, 5, 6, 0] dL_law_369 (by decide) rfl ?_
    refine x_aload_n 2 dL_law_371 rfl rfl ?_
    refine x_callV (ci := 8) (b := B + 908) (As := []) (rest := []) (R' := xR 1 0 0) (zz := yX8_thrown) dL_law_372 ml_L_82 wi_X8_thrown wv_X8_thrown wn_X8 wc_X8_thrown hp_X8_thrown ⟨Nat.le_of_ble_eq_true rfl, Nat.le_of_ble_eq_true rfl⟩ rfl (Nat.le_of_ble_eq_true rfl) ⟨by show c + 0 + 0 + 0 ≤ 601024; omega, by show s + 0 + 0 + 0 ≤ 7293034; omega⟩ vc_X8 kM (T_X8_thrown (G := G) (r9 := gi N3 (B + 908) 0) w0 kM rfl) ?_
    refine x_iload 5 dL_law_375 rfl ?_
    refine x_icmp_eq_t (tgt := 382) dL_law_377 (by decide) (a1.trans (by decide)) ?_
    refine x_iload 5 dL_law_382 rfl ?_
    refine x_if_ne_f (tgt := 399) dL_law_384 (by decide) rfl ?_
    refine x_aload_n 3 dL_law_387 rfl rfl ?_
    refine x_iconst (v := 0) dL_law_388 rfl ?_
    refine x_lald (j9 := 0) dL_law_389 kq (show vp_in 0 (kn Y (B + 925)) by rw [kn9]; exact vp01) rfl ?_
    refine x_iload 6 dL_law_390 rfl ?_
    refine x_i2l dL_law_392 ?_
    refine x_lcmp dL_law_393 ?_
    refine x_if_eq_t (tgt := 399) dL_law_394 (by decide) (lg_cmp0 (e9.trans (congrArg Int32.toInt64 a2))) ?_
    refine x_goto (tgt := 1241) dL_law_399 (by decide) ?_
    refine x_sub (L' := [(0, .ref (xSb G)), (1, .ref B), (2, .ref (B + 908)), (3, .ref (B + 925)), (4, .int (nI (6 * t)))]) [0, 1, 2, 3, 4] rfl ?_
    exact kk _ _ _ _ ok g1 (by show c + 0 + 0 + 0 ≤ c + 1; omega) (by show s + 0 + 0 + 0 ≤ s + 6; omega)
  | inr E =>
    obtain ⟨v, N3, m1, g1, l1, i, hi, hE, a1⟩ := h2 N1 rfl
    match i, hi, hE, a1 with
    | 0, _, hE, a1 =>
      have hE : IOB = E := hE
      subst hE
      refine x_aload_n 1 dL_law_334 rfl rfl ?_
      refine x_aload_n 0 dL_law_335 rfl rfl ?_
      refine x_iload 4 dL_law_336 rfl ?_
      refine x_iconst (v := nI 1) dL_law_338 (by decide) ?_
      refine x_iadd dL_law_339 ?_
      refine x_scrld i1.1 i1.2 dL_law_340 ?_
      refine x_aload_n 0 dL_law_341 rfl rfl ?_
      refine x_iload 4 dL_law_342 rfl ?_
      refine x_iconst (v := nI 2) dL_law_344 (by decide) ?_
      refine x_iadd dL_law_345 ?_
      refine x_scrld i2.1 i2.2 dL_law_346 ?_
      refine x_aload_n 3 dL_law_347 rfl rfl ?_
      refine x_csW (As := [.ref B, .int (xSx G (6 * t + 1)), .int (xSx G (6 * t + 2)), .ref (B + 925)]) (rest := []) (R' := xR 8 1 6) (zz := yL_handler) dL_law_348 ml_L_93 wt_L_handler wn_L wc_L_handler hp_L_handler ⟨Nat.le_of_ble_eq_true rfl, Nat.le_of_ble_eq_true rfl⟩ rfl (Nat.le_of_ble_eq_true rfl) ⟨by show c + 1 ≤ 601024; omega, by show s + 6 ≤ 7293034; omega⟩ (W_handler_x0 (G := G) w0 kB kq kn9 h1) ?_
      refine x_istore (L' := [(0, .ref (xSb G)), (1, .ref B), (2, .ref (B + 908)), (3, .ref (B + 925)), (4, .int (nI (6 * t))), (5, .int 1)]) [1, 2, 3, 4, 5, 0] dL_law_351 (by decide) rfl ?_
      refine x_aload_n 2 dL_law_353 rfl rfl ?_
      refine x_aload_n 0 dL_law_354 rfl rfl ?_
      refine x_iload 4 dL_law_355 rfl ?_
      refine x_iconst (v := nI 1) dL_law_357 (by decide) ?_
      refine x_iadd dL_law_358 ?_
      refine x_scrld i1.1 i1.2 dL_law_359 ?_
      refine x_aload_n 0 dL_law_360 rfl rfl ?_
      refine x_iload 4 dL_law_361 rfl ?_
      refine x_iconst (v := nI 2) dL_law_363 (by decide) ?_
      refine x_iadd dL_law_364 ?_
      refine x_scrld i2.1 i2.2 dL_law_365 ?_
      refine x_callV (ci := 8) (b := B + 908) (As := [.int (xSx G (6 * t + 1)), .int (xSx G (6 * t + 2))]) (rest := []) (R' := xR 7 0 0) (zz := yX8_handler) dL_law_366 ml_L_96 wi_X8_handler wv_X8_handler wn_X8 wc_X8_handler hp_X8_handler ⟨Nat.le_of_ble_eq_true rfl, Nat.le_of_ble_eq_true rfl⟩ rfl (Nat.le_of_ble_eq_true rfl) ⟨by show c + 1 + 0 ≤ 601024; omega, by show s + 6 + 0 ≤ 7293034; omega⟩ vc_X8 kM (T_X8_handler (G := G) w0 kM m1) ?_
      refine x_istore (L' := [(0, .ref (xSb G)), (1, .ref B), (2, .ref (B + 908)), (3, .ref (B + 925)), (4, .int (nI (6 * t))), (5, .int 1), (6, .int v)]) [1, 2, 3, 4, 5, 6, 0] dL_law_369 (by decide) rfl ?_
      refine x_aload_n 2 dL_law_371 rfl rfl ?_
      refine x_callV (ci := 8) (b := B + 908) (As := []) (rest := []) (R' := xR 1 0 0) (zz := yX8_thrown) dL_law_372 ml_L_82 wi_X8_thrown wv_X8_thrown wn_X8 wc_X8_thrown hp_X8_thrown ⟨Nat.le_of_ble_eq_true rfl, Nat.le_of_ble_eq_true rfl⟩ rfl (Nat.le_of_ble_eq_true rfl) ⟨by show c + 1 + 0 + 0 ≤ 601024; omega, by show s + 6 + 0 + 0 ≤ 7293034; omega⟩ vc_X8 kM (T_X8_thrown (G := G) (r9 := gi N3 (B + 908) 0) w0 kM rfl) ?_
      refine x_iload 5 dL_law_375 rfl ?_
      refine x_icmp_eq_t (tgt := 382) dL_law_377 (by decide) (a1.trans (by decide)) ?_
      refine x_iload 5 dL_law_382 rfl ?_
      refine x_if_ne_t (tgt := 399) dL_law_384 (by decide) (by decide) ?_
      refine x_goto (tgt := 1241) dL_law_399 (by decide) ?_
      refine x_sub (L' := [(0, .ref (xSb G)), (1, .ref B), (2, .ref (B + 908)), (3, .ref (B + 925)), (4, .int (nI (6 * t)))]) [0, 1, 2, 3, 4] rfl ?_
      exact kk _ _ _ _ ok g1 (by show c + 1 + 0 + 0 ≤ c + 1; omega) (by show s + 6 + 0 + 0 ≤ s + 6; omega)
    | 1, _, hE, a1 =>
      have hE : IAE = E := hE
      subst hE
      refine x_aload_n 1 dL_law_334 rfl rfl ?_
      refine x_aload_n 0 dL_law_335 rfl rfl ?_
      refine x_iload 4 dL_law_336 rfl ?_
      refine x_iconst (v := nI 1) dL_law_338 (by decide) ?_
      refine x_iadd dL_law_339 ?_
      refine x_scrld i1.1 i1.2 dL_law_340 ?_
      refine x_aload_n 0 dL_law_341 rfl rfl ?_
      refine x_iload 4 dL_law_342 rfl ?_
      refine x_iconst (v := nI 2) dL_law_344 (by decide) ?_
      refine x_iadd dL_law_345 ?_
      refine x_scrld i2.1 i2.2 dL_law_346 ?_
      refine x_aload_n 3 dL_law_347 rfl rfl ?_
      refine x_csW (As := [.ref B, .int (xSx G (6 * t + 1)), .int (xSx G (6 * t + 2)), .ref (B + 925)]) (rest := []) (R' := xR 8 1 6) (zz := yL_handler) dL_law_348 ml_L_93 wt_L_handler wn_L wc_L_handler hp_L_handler ⟨Nat.le_of_ble_eq_true rfl, Nat.le_of_ble_eq_true rfl⟩ rfl (Nat.le_of_ble_eq_true rfl) ⟨by show c + 1 ≤ 601024; omega, by show s + 6 ≤ 7293034; omega⟩ (W_handler_x1 (G := G) w0 kB kq kn9 h1) ?_
      refine x_istore (L' := [(0, .ref (xSb G)), (1, .ref B), (2, .ref (B + 908)), (3, .ref (B + 925)), (4, .int (nI (6 * t))), (5, .int 2)]) [1, 2, 3, 4, 5, 0] dL_law_351 (by decide) rfl ?_
      refine x_aload_n 2 dL_law_353 rfl rfl ?_
      refine x_aload_n 0 dL_law_354 rfl rfl ?_
      refine x_iload 4 dL_law_355 rfl ?_
      refine x_iconst (v := nI 1) dL_law_357 (by decide) ?_
      refine x_iadd dL_law_358 ?_
      refine x_scrld i1.1 i1.2 dL_law_359 ?_
      refine x_aload_n 0 dL_law_360 rfl rfl ?_
      refine x_iload 4 dL_law_361 rfl ?_
      refine x_iconst (v := nI 2) dL_law_363 (by decide) ?_
      refine x_iadd dL_law_364 ?_
      refine x_scrld i2.1 i2.2 dL_law_365 ?_
      refine x_callV (ci := 8) (b := B + 908) (As := [.int (xSx G (6 * t + 1)), .int (xSx G (6 * t + 2))]) (rest := []) (R' := xR 7 0 0) (zz := yX8_handler) dL_law_366 ml_L_96 wi_X8_handler wv_X8_handler wn_X8 wc_X8_handler hp_X8_handler ⟨Nat.le_of_ble_eq_true rfl, Nat.le_of_ble_eq_true rfl⟩ rfl (Nat.le_of_ble_eq_true rfl) ⟨by show c + 1 + 0 ≤ 601024; omega, by show s + 6 + 0 ≤ 7293034; omega⟩ vc_X8 kM (T_X8_handler (G := G) w0 kM m1) ?_
      refine x_istore (L' := [(0, .ref (xSb G)), (1, .ref B), (2, .ref (B + 908)), (3, .ref (B + 925)), (4, .int (nI (6 * t))), (5, .int 2), (6, .int v)]) [1, 2, 3, 4, 5, 6, 0] dL_law_369 (by decide) rfl ?_
      refine x_aload_n 2 dL_law_371 rfl rfl ?_
      refine x_callV (ci := 8) (b := B + 908) (As := []) (rest := []) (R' := xR 1 0 0) (zz := yX8_thrown) dL_law_372 ml_L_82 wi_X8_thrown wv_X8_thrown wn_X8 wc_X8_thrown hp_X8_thrown ⟨Nat.le_of_ble_eq_true rfl, Nat.le_of_ble_eq_true rfl⟩ rfl (Nat.le_of_ble_eq_true rfl) ⟨by show c + 1 + 0 + 0 ≤ 601024; omega, by show s + 6 + 0 + 0 ≤ 7293034; omega⟩ vc_X8 kM (T_X8_thrown (G := G) (r9 := gi N3 (B + 908) 0) w0 kM rfl) ?_
      refine x_iload 5 dL_law_375 rfl ?_
      refine x_icmp_eq_t (tgt := 382) dL_law_377 (by decide) (a1.trans (by decide)) ?_
      refine x_iload 5 dL_law_382 rfl ?_
      refine x_if_ne_t (tgt := 399) dL_law_384 (by decide) (by decide) ?_
      refine x_goto (tgt := 1241) dL_law_399 (by decide) ?_
      refine x_sub (L' := [(0, .ref (xSb G)), (1, .ref B), (2, .ref (B + 908)), (3, .ref (B + 925)), (4, .int (nI (6 * t)))]) [0, 1, 2, 3, 4] rfl ?_
      exact kk _ _ _ _ ok g1 (by show c + 1 + 0 + 0 ≤ c + 1; omega) (by show s + 6 + 0 + 0 ≤ s + 6; omega)
    | z + 2, hi, _, _ => exact absurd hi (by simp only [List.length_cons, List.length_nil]; omega)
set_option maxHeartbeats 1000000 in
theorem LC_line {G : XG} {tb : List ExceptionTableEntry} {nm ds : String} {Y : XY} {N : XN} {B t c s : Nat} (ok : OK9 Y B) (hI : IV B N) (ht : 6 * t + 6 ≤ xSl G) (hN : xSl G ≤ 3072) (hc : c + 1 ≤ 601024) (hs : s + 6 ≤ 7293034) (kk : LK G tb nm ds B t c s) : ExZ G ⟨RL, nm, ds⟩ cL_law 7 ret tb room_1 (law_Z G) c s 402 [(0, .ref (xSb G)), (1, .ref B), (2, .ref (B + 908)), (3, .ref (B + 925)), (4, .int (nI (6 * t)))] [] Y N := by
  obtain ⟨w0, y0, kB, kM, kq, kn9, k14⟩ := id ok
  have i1 := sidx (t := t) (j := 1) (L := xSl G) (by omega) ht hN
  have i2 := sidx (t := t) (j := 2) (L := xSl G) (by omega) ht hN
  obtain ⟨o, N1, h1, h2⟩ := F_line y0 hI (xSx G (6 * t + 1)) (xSx G (6 * t + 2))
  cases o with
  | inl r =>
    obtain ⟨v, N3, m1, g1, l1, a1, a2⟩ := h2 (sl N1 (B + 925) 0 r.toInt64) rfl
    have e9 : gl N3 (B + 925) 0 = r.toInt64 := by
      unfold gl
      rw [l1 _ (by omega)]
      exact sl_cell0
    refine x_aload_n 1 dL_law_402 rfl rfl ?_
    refine x_aload_n 0 dL_law_403 rfl rfl ?_
    refine x_iload 4 dL_law_404 rfl ?_
    refine x_iconst (v := nI 1) dL_law_406 (by decide) ?_
    refine x_iadd dL_law_407 ?_
    refine x_scrld i1.1 i1.2 dL_law_408 ?_
    refine x_aload_n 0 dL_law_409 rfl rfl ?_
    refine x_iload 4 dL_law_410 rfl ?_
    refine x_iconst (v := nI 2) dL_law_412 (by decide) ?_
    refine x_iadd dL_law_413 ?_
    refine x_scrld i2.1 i2.2 dL_law_414 ?_
    refine x_aload_n 3 dL_law_415 rfl rfl ?_
    refine x_csW (As := [.ref B, .int (xSx G (6 * t + 1)), .int (xSx G (6 * t + 2)), .ref (B + 925)]) (rest := []) (R' := xR 8 0 0) (zz := yL_line) dL_law_416 ml_L_97 wt_L_line wn_L wc_L_line hp_L_line ⟨Nat.le_of_ble_eq_true rfl, Nat.le_of_ble_eq_true rfl⟩ rfl (Nat.le_of_ble_eq_true rfl) ⟨by show c + 0 ≤ 601024; omega, by show s + 0 ≤ 7293034; omega⟩ (W_line (G := G) w0 kB kq kn9 h1) ?_
    refine x_istore (L' := [(0, .ref (xSb G)), (1, .ref B), (2, .ref (B + 908)), (3, .ref (B + 925)), (4, .int (nI (6 * t))), (5, .int 0)]) [1, 2, 3, 4, 5, 0] dL_law_419 (by decide) rfl ?_
    refine x_aload_n 2 dL_law_421 rfl rfl ?_
    refine x_aload_n 0 dL_law_422 rfl rfl ?_
    refine x_iload 4 dL_law_423 rfl ?_
    refine x_iconst (v := nI 1) dL_law_425 (by decide) ?_
    refine x_iadd dL_law_426 ?_
    refine x_scrld i1.1 i1.2 dL_law_427 ?_
    refine x_aload_n 0 dL_law_428 rfl rfl ?_
    refine x_iload 4 dL_law_429 rfl ?_
    refine x_iconst (v := nI 2) dL_law_431 (by decide) ?_
    refine x_iadd dL_law_432 ?_
    refine x_scrld i2.1 i2.2 dL_law_433 ?_
    refine x_callV (ci := 8) (b := B + 908) (As := [.int (xSx G (6 * t + 1)), .int (xSx G (6 * t + 2))]) (rest := []) (R' := xR 5 0 0) (zz := yX8_line) dL_law_434 ml_L_99 wi_X8_line wv_X8_line wn_X8 wc_X8_line hp_X8_line ⟨Nat.le_of_ble_eq_true rfl, Nat.le_of_ble_eq_true rfl⟩ rfl (Nat.le_of_ble_eq_true rfl) ⟨by show c + 0 + 0 ≤ 601024; omega, by show s + 0 + 0 ≤ 7293034; omega⟩ vc_X8 kM (T_X8_line (G := G) w0 kM m1) ?_
    refine x_istore (L' := [(0, .ref (xSb G)), (1, .ref B), (2, .ref (B + 908)), (3, .ref (B + 925)), (4, .int (nI (6 * t))), (5, .int 0), (6, .int v)]) [1, 2, 3, 4, 5, 6, 0] dL_law_437 (by decide) rfl ?_
    refine x_aload_n 2 dL_law_439 rfl rfl ?_
    refine x_callV (ci := 8) (b := B + 908) (As := []) (rest := []) (R' := xR 1 0 0) (zz := yX8_thrown) dL_law_440 ml_L_82 wi_X8_thrown wv_X8_thrown wn_X8 wc_X8_thrown hp_X8_thrown ⟨Nat.le_of_ble_eq_true rfl, Nat.le_of_ble_eq_true rfl⟩ rfl (Nat.le_of_ble_eq_true rfl) ⟨by show c + 0 + 0 + 0 ≤ 601024; omega, by show s + 0 + 0 + 0 ≤ 7293034; omega⟩ vc_X8 kM (T_X8_thrown (G := G) (r9 := gi N3 (B + 908) 0) w0 kM rfl) ?_
    refine x_iload 5 dL_law_443 rfl ?_
    refine x_icmp_eq_t (tgt := 450) dL_law_445 (by decide) (a1.trans (by decide)) ?_
    refine x_iload 5 dL_law_450 rfl ?_
    refine x_if_ne_f (tgt := 467) dL_law_452 (by decide) rfl ?_
    refine x_aload_n 3 dL_law_455 rfl rfl ?_
    refine x_iconst (v := 0) dL_law_456 rfl ?_
    refine x_lald (j9 := 0) dL_law_457 kq (show vp_in 0 (kn Y (B + 925)) by rw [kn9]; exact vp01) rfl ?_
    refine x_iload 6 dL_law_458 rfl ?_
    refine x_i2l dL_law_460 ?_
    refine x_lcmp dL_law_461 ?_
    refine x_if_eq_t (tgt := 467) dL_law_462 (by decide) (lg_cmp0 (e9.trans (congrArg Int32.toInt64 a2))) ?_
    refine x_goto (tgt := 1241) dL_law_467 (by decide) ?_
    refine x_sub (L' := [(0, .ref (xSb G)), (1, .ref B), (2, .ref (B + 908)), (3, .ref (B + 925)), (4, .int (nI (6 * t)))]) [0, 1, 2, 3, 4] rfl ?_
    exact kk _ _ _ _ ok g1 (by show c + 0 + 0 + 0 ≤ c + 1; omega) (by show s + 0 + 0 + 0 ≤ s + 6; omega)
  | inr E =>
    obtain ⟨v, N3, m1, g1, l1, i, hi, hE, a1⟩ := h2 N1 rfl
    match i, hi, hE, a1 with
    | 0, _, hE, a1 =>
      have hE : IOB = E := hE
      subst hE
      refine x_aload_n 1 dL_law_402 rfl rfl ?_
      refine x_aload_n 0 dL_law_403 rfl rfl ?_
      refine x_iload 4 dL_law_404 rfl ?_
      refine x_iconst (v := nI 1) dL_law_406 (by decide) ?_
      refine x_iadd dL_law_407 ?_
      refine x_scrld i1.1 i1.2 dL_law_408 ?_
      refine x_aload_n 0 dL_law_409 rfl rfl ?_
      refine x_iload 4 dL_law_410 rfl ?_
      refine x_iconst (v := nI 2) dL_law_412 (by decide) ?_
      refine x_iadd dL_law_413 ?_
      refine x_scrld i2.1 i2.2 dL_law_414 ?_
      refine x_aload_n 3 dL_law_415 rfl rfl ?_
      refine x_csW (As := [.ref B, .int (xSx G (6 * t + 1)), .int (xSx G (6 * t + 2)), .ref (B + 925)]) (rest := []) (R' := xR 8 1 6) (zz := yL_line) dL_law_416 ml_L_97 wt_L_line wn_L wc_L_line hp_L_line ⟨Nat.le_of_ble_eq_true rfl, Nat.le_of_ble_eq_true rfl⟩ rfl (Nat.le_of_ble_eq_true rfl) ⟨by show c + 1 ≤ 601024; omega, by show s + 6 ≤ 7293034; omega⟩ (W_line_x0 (G := G) w0 kB kq kn9 h1) ?_
      refine x_istore (L' := [(0, .ref (xSb G)), (1, .ref B), (2, .ref (B + 908)), (3, .ref (B + 925)), (4, .int (nI (6 * t))), (5, .int 1)]) [1, 2, 3, 4, 5, 0] dL_law_419 (by decide) rfl ?_
      refine x_aload_n 2 dL_law_421 rfl rfl ?_
      refine x_aload_n 0 dL_law_422 rfl rfl ?_
      refine x_iload 4 dL_law_423 rfl ?_
      refine x_iconst (v := nI 1) dL_law_425 (by decide) ?_
      refine x_iadd dL_law_426 ?_
      refine x_scrld i1.1 i1.2 dL_law_427 ?_
      refine x_aload_n 0 dL_law_428 rfl rfl ?_
      refine x_iload 4 dL_law_429 rfl ?_
      refine x_iconst (v := nI 2) dL_law_431 (by decide) ?_
      refine x_iadd dL_law_432 ?_
      refine x_scrld i2.1 i2.2 dL_law_433 ?_
      refine x_callV (ci := 8) (b := B + 908) (As := [.int (xSx G (6 * t + 1)), .int (xSx G (6 * t + 2))]) (rest := []) (R' := xR 5 0 0) (zz := yX8_line) dL_law_434 ml_L_99 wi_X8_line wv_X8_line wn_X8 wc_X8_line hp_X8_line ⟨Nat.le_of_ble_eq_true rfl, Nat.le_of_ble_eq_true rfl⟩ rfl (Nat.le_of_ble_eq_true rfl) ⟨by show c + 1 + 0 ≤ 601024; omega, by show s + 6 + 0 ≤ 7293034; omega⟩ vc_X8 kM (T_X8_line (G := G) w0 kM m1) ?_
      refine x_istore (L' := [(0, .ref (xSb G)), (1, .ref B), (2, .ref (B + 908)), (3, .ref (B + 925)), (4, .int (nI (6 * t))), (5, .int 1), (6, .int v)]) [1, 2, 3, 4, 5, 6, 0] dL_law_437 (by decide) rfl ?_
      refine x_aload_n 2 dL_law_439 rfl rfl ?_
      refine x_callV (ci := 8) (b := B + 908) (As := []) (rest := []) (R' := xR 1 0 0) (zz := yX8_thrown) dL_law_440 ml_L_82 wi_X8_thrown wv_X8_thrown wn_X8 wc_X8_thrown hp_X8_thrown ⟨Nat.le_of_ble_eq_true rfl, Nat.le_of_ble_eq_true rfl⟩ rfl (Nat.le_of_ble_eq_true rfl) ⟨by show c + 1 + 0 + 0 ≤ 601024; omega, by show s + 6 + 0 + 0 ≤ 7293034; omega⟩ vc_X8 kM (T_X8_thrown (G := G) (r9 := gi N3 (B + 908) 0) w0 kM rfl) ?_
      refine x_iload 5 dL_law_443 rfl ?_
      refine x_icmp_eq_t (tgt := 450) dL_law_445 (by decide) (a1.trans (by decide)) ?_
      refine x_iload 5 dL_law_450 rfl ?_
      refine x_if_ne_t (tgt := 467) dL_law_452 (by decide) (by decide) ?_
      refine x_goto (tgt := 1241) dL_law_467 (by decide) ?_
      refine x_sub (L' := [(0, .ref (xSb G)), (1, .ref B), (2, .ref (B + 908)), (3, .ref (B + 925)), (4, .int (nI (6 * t)))]) [0, 1, 2, 3, 4] rfl ?_
      exact kk _ _ _ _ ok g1 (by show c + 1 + 0 + 0 ≤ c + 1; omega) (by show s + 6 + 0 + 0 ≤ s + 6; omega)
    | 1, _, hE, a1 =>
      have hE : IAE = E := hE
      subst hE
      refine x_aload_n 1 dL_law_402 rfl rfl ?_
      refine x_aload_n 0 dL_law_403 rfl rfl ?_
      refine x_iload 4 dL_law_404 rfl ?_
      refine x_iconst (v := nI 1) dL_law_406 (by decide) ?_
      refine x_iadd dL_law_407 ?_
      refine x_scrld i1.1 i1.2 dL_law_408 ?_
      refine x_aload_n 0 dL_law_409 rfl rfl ?_
      refine x_iload 4 dL_law_410 rfl ?_
      refine x_iconst (v := nI 2) dL_law_412 (by decide) ?_
      refine x_iadd dL_law_413 ?_
      refine x_scrld i2.1 i2.2 dL_law_414 ?_
      refine x_aload_n 3 dL_law_415 rfl rfl ?_
      refine x_csW (As := [.ref B, .int (xSx G (6 * t + 1)), .int (xSx G (6 * t + 2)), .ref (B + 925)]) (rest := []) (R' := xR 8 1 6) (zz := yL_line) dL_law_416 ml_L_97 wt_L_line wn_L wc_L_line hp_L_line ⟨Nat.le_of_ble_eq_true rfl, Nat.le_of_ble_eq_true rfl⟩ rfl (Nat.le_of_ble_eq_true rfl) ⟨by show c + 1 ≤ 601024; omega, by show s + 6 ≤ 7293034; omega⟩ (W_line_x1 (G := G) w0 kB kq kn9 h1) ?_
      refine x_istore (L' := [(0, .ref (xSb G)), (1, .ref B), (2, .ref (B + 908)), (3, .ref (B + 925)), (4, .int (nI (6 * t))), (5, .int 2)]) [1, 2, 3, 4, 5, 0] dL_law_419 (by decide) rfl ?_
      refine x_aload_n 2 dL_law_421 rfl rfl ?_
      refine x_aload_n 0 dL_law_422 rfl rfl ?_
      refine x_iload 4 dL_law_423 rfl ?_
      refine x_iconst (v := nI 1) dL_law_425 (by decide) ?_
      refine x_iadd dL_law_426 ?_
      refine x_scrld i1.1 i1.2 dL_law_427 ?_
      refine x_aload_n 0 dL_law_428 rfl rfl ?_
      refine x_iload 4 dL_law_429 rfl ?_
      refine x_iconst (v := nI 2) dL_law_431 (by decide) ?_
      refine x_iadd dL_law_432 ?_
      refine x_scrld i2.1 i2.2 dL_law_433 ?_
      refine x_callV (ci := 8) (b := B + 908) (As := [.int (xSx G (6 * t + 1)), .int (xSx G (6 * t + 2))]) (rest := []) (R' := xR 5 0 0) (zz := yX8_line) dL_law_434 ml_L_99 wi_X8_line wv_X8_line wn_X8 wc_X8_line hp_X8_line ⟨Nat.le_of_ble_eq_true rfl, Nat.le_of_ble_eq_true rfl⟩ rfl (Nat.le_of_ble_eq_true rfl) ⟨by show c + 1 + 0 ≤ 601024; omega, by show s + 6 + 0 ≤ 7293034; omega⟩ vc_X8 kM (T_X8_line (G := G) w0 kM m1) ?_
      refine x_istore (L' := [(0, .ref (xSb G)), (1, .ref B), (2, .ref (B + 908)), (3, .ref (B + 925)), (4, .int (nI (6 * t))), (5, .int 2), (6, .int v)]) [1, 2, 3, 4, 5, 6, 0] dL_law_437 (by decide) rfl ?_
      refine x_aload_n 2 dL_law_439 rfl rfl ?_
      refine x_callV (ci := 8) (b := B + 908) (As := []) (rest := []) (R' := xR 1 0 0) (zz := yX8_thrown) dL_law_440 ml_L_82 wi_X8_thrown wv_X8_thrown wn_X8 wc_X8_thrown hp_X8_thrown ⟨Nat.le_of_ble_eq_true rfl, Nat.le_of_ble_eq_true rfl⟩ rfl (Nat.le_of_ble_eq_true rfl) ⟨by show c + 1 + 0 + 0 ≤ 601024; omega, by show s + 6 + 0 + 0 ≤ 7293034; omega⟩ vc_X8 kM (T_X8_thrown (G := G) (r9 := gi N3 (B + 908) 0) w0 kM rfl) ?_
      refine x_iload 5 dL_law_443 rfl ?_
      refine x_icmp_eq_t (tgt := 450) dL_law_445 (by decide) (a1.trans (by decide)) ?_
      refine x_iload 5 dL_law_450 rfl ?_
      refine x_if_ne_t (tgt := 467) dL_law_452 (by decide) (by decide) ?_
      refine x_goto (tgt := 1241) dL_law_467 (by decide) ?_
      refine x_sub (L' := [(0, .ref (xSb G)), (1, .ref B), (2, .ref (B + 908)), (3, .ref (B + 925)), (4, .int (nI (6 * t)))]) [0, 1, 2, 3, 4] rfl ?_
      exact kk _ _ _ _ ok g1 (by show c + 1 + 0 + 0 ≤ c + 1; omega) (by show s + 6 + 0 + 0 ≤ s + 6; omega)
    | z + 2, hi, _, _ => exact absurd hi (by simp only [List.length_cons, List.length_nil]; omega)
set_option maxHeartbeats 1000000 in
theorem LC_tenant {G : XG} {tb : List ExceptionTableEntry} {nm ds : String} {Y : XY} {N : XN} {B t c s : Nat} (ok : OK9 Y B) (hI : IV B N) (ht : 6 * t + 6 ≤ xSl G) (hN : xSl G ≤ 3072) (hc : c + 1 ≤ 601024) (hs : s + 6 ≤ 7293034) (kk : LK G tb nm ds B t c s) : ExZ G ⟨RL, nm, ds⟩ cL_law 7 ret tb room_1 (law_Z G) c s 470 [(0, .ref (xSb G)), (1, .ref B), (2, .ref (B + 908)), (3, .ref (B + 925)), (4, .int (nI (6 * t)))] [] Y N := by
  obtain ⟨w0, y0, kB, kM, kq, kn9, k14⟩ := id ok
  have i1 := sidx (t := t) (j := 1) (L := xSl G) (by omega) ht hN
  have i2 := sidx (t := t) (j := 2) (L := xSl G) (by omega) ht hN
  obtain ⟨o, N1, h1, h2⟩ := F_tenant y0 hI (xSx G (6 * t + 1)) (xSx G (6 * t + 2))
  cases o with
  | inl r =>
    obtain ⟨v, N3, m1, g1, l1, a1, a2⟩ := h2 (sl N1 (B + 925) 0 r.toInt64) rfl
    have e9 : gl N3 (B + 925) 0 = r.toInt64 := by
      unfold gl
      rw [l1 _ (by omega)]
      exact sl_cell0
    refine x_aload_n 1 dL_law_470 rfl rfl ?_
    refine x_aload_n 0 dL_law_471 rfl rfl ?_
    refine x_iload 4 dL_law_472 rfl ?_
    refine x_iconst (v := nI 1) dL_law_474 (by decide) ?_
    refine x_iadd dL_law_475 ?_
    refine x_scrld i1.1 i1.2 dL_law_476 ?_
    refine x_aload_n 0 dL_law_477 rfl rfl ?_
    refine x_iload 4 dL_law_478 rfl ?_
    refine x_iconst (v := nI 2) dL_law_480 (by decide) ?_
    refine x_iadd dL_law_481 ?_
    refine x_scrld i2.1 i2.2 dL_law_482 ?_
    refine x_aload_n 3 dL_law_483 rfl rfl ?_
    refine x_csW (As := [.ref B, .int (xSx G (6 * t + 1)), .int (xSx G (6 * t + 2)), .ref (B + 925)]) (rest := []) (R' := xR 8 0 0) (zz := yL_tenant) dL_law_484 ml_L_100 wt_L_tenant wn_L wc_L_tenant hp_L_tenant ⟨Nat.le_of_ble_eq_true rfl, Nat.le_of_ble_eq_true rfl⟩ rfl (Nat.le_of_ble_eq_true rfl) ⟨by show c + 0 ≤ 601024; omega, by show s + 0 ≤ 7293034; omega⟩ (W_tenant (G := G) w0 kB kq kn9 h1) ?_
    refine x_istore (L' := [(0, .ref (xSb G)), (1, .ref B), (2, .ref (B + 908)), (3, .ref (B + 925)), (4, .int (nI (6 * t))), (5, .int 0)]) [1, 2, 3, 4, 5, 0] dL_law_487 (by decide) rfl ?_
    refine x_aload_n 2 dL_law_489 rfl rfl ?_
    refine x_aload_n 0 dL_law_490 rfl rfl ?_
    refine x_iload 4 dL_law_491 rfl ?_
    refine x_iconst (v := nI 1) dL_law_493 (by decide) ?_
    refine x_iadd dL_law_494 ?_
    refine x_scrld i1.1 i1.2 dL_law_495 ?_
    refine x_aload_n 0 dL_law_496 rfl rfl ?_
    refine x_iload 4 dL_law_497 rfl ?_
    refine x_iconst (v := nI 2) dL_law_499 (by decide) ?_
    refine x_iadd dL_law_500 ?_
    refine x_scrld i2.1 i2.2 dL_law_501 ?_
    refine x_callV (ci := 8) (b := B + 908) (As := [.int (xSx G (6 * t + 1)), .int (xSx G (6 * t + 2))]) (rest := []) (R' := xR 3 0 0) (zz := yX8_tenant) dL_law_502 ml_L_102 wi_X8_tenant wv_X8_tenant wn_X8 wc_X8_tenant hp_X8_tenant ⟨Nat.le_of_ble_eq_true rfl, Nat.le_of_ble_eq_true rfl⟩ rfl (Nat.le_of_ble_eq_true rfl) ⟨by show c + 0 + 0 ≤ 601024; omega, by show s + 0 + 0 ≤ 7293034; omega⟩ vc_X8 kM (T_X8_tenant (G := G) w0 kM m1) ?_
    refine x_istore (L' := [(0, .ref (xSb G)), (1, .ref B), (2, .ref (B + 908)), (3, .ref (B + 925)), (4, .int (nI (6 * t))), (5, .int 0), (6, .int v)]) [1, 2, 3, 4, 5, 6, 0] dL_law_505 (by decide) rfl ?_
    refine x_aload_n 2 dL_law_507 rfl rfl ?_
    refine x_callV (ci := 8) (b := B + 908) (As := []) (rest := []) (R' := xR 1 0 0) (zz := yX8_thrown) dL_law_508 ml_L_82 wi_X8_thrown wv_X8_thrown wn_X8 wc_X8_thrown hp_X8_thrown ⟨Nat.le_of_ble_eq_true rfl, Nat.le_of_ble_eq_true rfl⟩ rfl (Nat.le_of_ble_eq_true rfl) ⟨by show c + 0 + 0 + 0 ≤ 601024; omega, by show s + 0 + 0 + 0 ≤ 7293034; omega⟩ vc_X8 kM (T_X8_thrown (G := G) (r9 := gi N3 (B + 908) 0) w0 kM rfl) ?_
    refine x_iload 5 dL_law_511 rfl ?_
    refine x_icmp_eq_t (tgt := 518) dL_law_513 (by decide) (a1.trans (by decide)) ?_
    refine x_iload 5 dL_law_518 rfl ?_
    refine x_if_ne_f (tgt := 535) dL_law_520 (by decide) rfl ?_
    refine x_aload_n 3 dL_law_523 rfl rfl ?_
    refine x_iconst (v := 0) dL_law_524 rfl ?_
    refine x_lald (j9 := 0) dL_law_525 kq (show vp_in 0 (kn Y (B + 925)) by rw [kn9]; exact vp01) rfl ?_
    refine x_iload 6 dL_law_526 rfl ?_
    refine x_i2l dL_law_528 ?_
    refine x_lcmp dL_law_529 ?_
    refine x_if_eq_t (tgt := 535) dL_law_530 (by decide) (lg_cmp0 (e9.trans (congrArg Int32.toInt64 a2))) ?_
    refine x_goto (tgt := 1241) dL_law_535 (by decide) ?_
    refine x_sub (L' := [(0, .ref (xSb G)), (1, .ref B), (2, .ref (B + 908)), (3, .ref (B + 925)), (4, .int (nI (6 * t)))]) [0, 1, 2, 3, 4] rfl ?_
    exact kk _ _ _ _ ok g1 (by show c + 0 + 0 + 0 ≤ c + 1; omega) (by show s + 0 + 0 + 0 ≤ s + 6; omega)
  | inr E =>
    obtain ⟨v, N3, m1, g1, l1, i, hi, hE, a1⟩ := h2 N1 rfl
    match i, hi, hE, a1 with
    | 0, _, hE, a1 =>
      have hE : IOB = E := hE
      subst hE
      refine x_aload_n 1 dL_law_470 rfl rfl ?_
      refine x_aload_n 0 dL_law_471 rfl rfl ?_
      refine x_iload 4 dL_law_472 rfl ?_
      refine x_iconst (v := nI 1) dL_law_474 (by decide) ?_
      refine x_iadd dL_law_475 ?_
      refine x_scrld i1.1 i1.2 dL_law_476 ?_
      refine x_aload_n 0 dL_law_477 rfl rfl ?_
      refine x_iload 4 dL_law_478 rfl ?_
      refine x_iconst (v := nI 2) dL_law_480 (by decide) ?_
      refine x_iadd dL_law_481 ?_
      refine x_scrld i2.1 i2.2 dL_law_482 ?_
      refine x_aload_n 3 dL_law_483 rfl rfl ?_
      refine x_csW (As := [.ref B, .int (xSx G (6 * t + 1)), .int (xSx G (6 * t + 2)), .ref (B + 925)]) (rest := []) (R' := xR 8 1 6) (zz := yL_tenant) dL_law_484 ml_L_100 wt_L_tenant wn_L wc_L_tenant hp_L_tenant ⟨Nat.le_of_ble_eq_true rfl, Nat.le_of_ble_eq_true rfl⟩ rfl (Nat.le_of_ble_eq_true rfl) ⟨by show c + 1 ≤ 601024; omega, by show s + 6 ≤ 7293034; omega⟩ (W_tenant_x0 (G := G) w0 kB kq kn9 h1) ?_
      refine x_istore (L' := [(0, .ref (xSb G)), (1, .ref B), (2, .ref (B + 908)), (3, .ref (B + 925)), (4, .int (nI (6 * t))), (5, .int 1)]) [1, 2, 3, 4, 5, 0] dL_law_487 (by decide) rfl ?_
      refine x_aload_n 2 dL_law_489 rfl rfl ?_
      refine x_aload_n 0 dL_law_490 rfl rfl ?_
      refine x_iload 4 dL_law_491 rfl ?_
      refine x_iconst (v := nI 1) dL_law_493 (by decide) ?_
      refine x_iadd dL_law_494 ?_
      refine x_scrld i1.1 i1.2 dL_law_495 ?_
      refine x_aload_n 0 dL_law_496 rfl rfl ?_
      refine x_iload 4 dL_law_497 rfl ?_
      refine x_iconst (v := nI 2) dL_law_499 (by decide) ?_
      refine x_iadd dL_law_500 ?_
      refine x_scrld i2.1 i2.2 dL_law_501 ?_
      refine x_callV (ci := 8) (b := B + 908) (As := [.int (xSx G (6 * t + 1)), .int (xSx G (6 * t + 2))]) (rest := []) (R' := xR 3 0 0) (zz := yX8_tenant) dL_law_502 ml_L_102 wi_X8_tenant wv_X8_tenant wn_X8 wc_X8_tenant hp_X8_tenant ⟨Nat.le_of_ble_eq_true rfl, Nat.le_of_ble_eq_true rfl⟩ rfl (Nat.le_of_ble_eq_true rfl) ⟨by show c + 1 + 0 ≤ 601024; omega, by show s + 6 + 0 ≤ 7293034; omega⟩ vc_X8 kM (T_X8_tenant (G := G) w0 kM m1) ?_
      refine x_istore (L' := [(0, .ref (xSb G)), (1, .ref B), (2, .ref (B + 908)), (3, .ref (B + 925)), (4, .int (nI (6 * t))), (5, .int 1), (6, .int v)]) [1, 2, 3, 4, 5, 6, 0] dL_law_505 (by decide) rfl ?_
      refine x_aload_n 2 dL_law_507 rfl rfl ?_
      refine x_callV (ci := 8) (b := B + 908) (As := []) (rest := []) (R' := xR 1 0 0) (zz := yX8_thrown) dL_law_508 ml_L_82 wi_X8_thrown wv_X8_thrown wn_X8 wc_X8_thrown hp_X8_thrown ⟨Nat.le_of_ble_eq_true rfl, Nat.le_of_ble_eq_true rfl⟩ rfl (Nat.le_of_ble_eq_true rfl) ⟨by show c + 1 + 0 + 0 ≤ 601024; omega, by show s + 6 + 0 + 0 ≤ 7293034; omega⟩ vc_X8 kM (T_X8_thrown (G := G) (r9 := gi N3 (B + 908) 0) w0 kM rfl) ?_
      refine x_iload 5 dL_law_511 rfl ?_
      refine x_icmp_eq_t (tgt := 518) dL_law_513 (by decide) (a1.trans (by decide)) ?_
      refine x_iload 5 dL_law_518 rfl ?_
      refine x_if_ne_t (tgt := 535) dL_law_520 (by decide) (by decide) ?_
      refine x_goto (tgt := 1241) dL_law_535 (by decide) ?_
      refine x_sub (L' := [(0, .ref (xSb G)), (1, .ref B), (2, .ref (B + 908)), (3, .ref (B + 925)), (4, .int (nI (6 * t)))]) [0, 1, 2, 3, 4] rfl ?_
      exact kk _ _ _ _ ok g1 (by show c + 1 + 0 + 0 ≤ c + 1; omega) (by show s + 6 + 0 + 0 ≤ s + 6; omega)
    | 1, _, hE, a1 =>
      have hE : NSE = E := hE
      subst hE
      refine x_aload_n 1 dL_law_470 rfl rfl ?_
      refine x_aload_n 0 dL_law_471 rfl rfl ?_
      refine x_iload 4 dL_law_472 rfl ?_
      refine x_iconst (v := nI 1) dL_law_474 (by decide) ?_
      refine x_iadd dL_law_475 ?_
      refine x_scrld i1.1 i1.2 dL_law_476 ?_
      refine x_aload_n 0 dL_law_477 rfl rfl ?_
      refine x_iload 4 dL_law_478 rfl ?_
      refine x_iconst (v := nI 2) dL_law_480 (by decide) ?_
      refine x_iadd dL_law_481 ?_
      refine x_scrld i2.1 i2.2 dL_law_482 ?_
      refine x_aload_n 3 dL_law_483 rfl rfl ?_
      refine x_csW (As := [.ref B, .int (xSx G (6 * t + 1)), .int (xSx G (6 * t + 2)), .ref (B + 925)]) (rest := []) (R' := xR 8 1 6) (zz := yL_tenant) dL_law_484 ml_L_100 wt_L_tenant wn_L wc_L_tenant hp_L_tenant ⟨Nat.le_of_ble_eq_true rfl, Nat.le_of_ble_eq_true rfl⟩ rfl (Nat.le_of_ble_eq_true rfl) ⟨by show c + 1 ≤ 601024; omega, by show s + 6 ≤ 7293034; omega⟩ (W_tenant_x1 (G := G) w0 kB kq kn9 h1) ?_
      refine x_istore (L' := [(0, .ref (xSb G)), (1, .ref B), (2, .ref (B + 908)), (3, .ref (B + 925)), (4, .int (nI (6 * t))), (5, .int 2)]) [1, 2, 3, 4, 5, 0] dL_law_487 (by decide) rfl ?_
      refine x_aload_n 2 dL_law_489 rfl rfl ?_
      refine x_aload_n 0 dL_law_490 rfl rfl ?_
      refine x_iload 4 dL_law_491 rfl ?_
      refine x_iconst (v := nI 1) dL_law_493 (by decide) ?_
      refine x_iadd dL_law_494 ?_
      refine x_scrld i1.1 i1.2 dL_law_495 ?_
      refine x_aload_n 0 dL_law_496 rfl rfl ?_
      refine x_iload 4 dL_law_497 rfl ?_
      refine x_iconst (v := nI 2) dL_law_499 (by decide) ?_
      refine x_iadd dL_law_500 ?_
      refine x_scrld i2.1 i2.2 dL_law_501 ?_
      refine x_callV (ci := 8) (b := B + 908) (As := [.int (xSx G (6 * t + 1)), .int (xSx G (6 * t + 2))]) (rest := []) (R' := xR 3 0 0) (zz := yX8_tenant) dL_law_502 ml_L_102 wi_X8_tenant wv_X8_tenant wn_X8 wc_X8_tenant hp_X8_tenant ⟨Nat.le_of_ble_eq_true rfl, Nat.le_of_ble_eq_true rfl⟩ rfl (Nat.le_of_ble_eq_true rfl) ⟨by show c + 1 + 0 ≤ 601024; omega, by show s + 6 + 0 ≤ 7293034; omega⟩ vc_X8 kM (T_X8_tenant (G := G) w0 kM m1) ?_
      refine x_istore (L' := [(0, .ref (xSb G)), (1, .ref B), (2, .ref (B + 908)), (3, .ref (B + 925)), (4, .int (nI (6 * t))), (5, .int 2), (6, .int v)]) [1, 2, 3, 4, 5, 6, 0] dL_law_505 (by decide) rfl ?_
      refine x_aload_n 2 dL_law_507 rfl rfl ?_
      refine x_callV (ci := 8) (b := B + 908) (As := []) (rest := []) (R' := xR 1 0 0) (zz := yX8_thrown) dL_law_508 ml_L_82 wi_X8_thrown wv_X8_thrown wn_X8 wc_X8_thrown hp_X8_thrown ⟨Nat.le_of_ble_eq_true rfl, Nat.le_of_ble_eq_true rfl⟩ rfl (Nat.le_of_ble_eq_true rfl) ⟨by show c + 1 + 0 + 0 ≤ 601024; omega, by show s + 6 + 0 + 0 ≤ 7293034; omega⟩ vc_X8 kM (T_X8_thrown (G := G) (r9 := gi N3 (B + 908) 0) w0 kM rfl) ?_
      refine x_iload 5 dL_law_511 rfl ?_
      refine x_icmp_eq_t (tgt := 518) dL_law_513 (by decide) (a1.trans (by decide)) ?_
      refine x_iload 5 dL_law_518 rfl ?_
      refine x_if_ne_t (tgt := 535) dL_law_520 (by decide) (by decide) ?_
      refine x_goto (tgt := 1241) dL_law_535 (by decide) ?_
      refine x_sub (L' := [(0, .ref (xSb G)), (1, .ref B), (2, .ref (B + 908)), (3, .ref (B + 925)), (4, .int (nI (6 * t)))]) [0, 1, 2, 3, 4] rfl ?_
      exact kk _ _ _ _ ok g1 (by show c + 1 + 0 + 0 ≤ c + 1; omega) (by show s + 6 + 0 + 0 ≤ s + 6; omega)
    | z + 2, hi, _, _ => exact absurd hi (by simp only [List.length_cons, List.length_nil]; omega)
set_option maxHeartbeats 1000000 in
theorem LC_request {G : XG} {tb : List ExceptionTableEntry} {nm ds : String} {Y : XY} {N : XN} {B t c s : Nat} (ok : OK9 Y B) (hI : IV B N) (ht : 6 * t + 6 ≤ xSl G) (hN : xSl G ≤ 3072) (hc : c + 1 ≤ 601024) (hs : s + 6 ≤ 7293034) (kk : LK G tb nm ds B t c s) : ExZ G ⟨RL, nm, ds⟩ cL_law 7 ret tb room_1 (law_Z G) c s 538 [(0, .ref (xSb G)), (1, .ref B), (2, .ref (B + 908)), (3, .ref (B + 925)), (4, .int (nI (6 * t)))] [] Y N := by
  obtain ⟨w0, y0, kB, kM, kq, kn9, k14⟩ := id ok
  have i1 := sidx (t := t) (j := 1) (L := xSl G) (by omega) ht hN
  have i2 := sidx (t := t) (j := 2) (L := xSl G) (by omega) ht hN
  obtain ⟨o, N1, h1, h2⟩ := F_request y0 hI (xSx G (6 * t + 1)) (xSx G (6 * t + 2))
  cases o with
  | inl r =>
    obtain ⟨v, N3, m1, g1, l1, a1, a2⟩ := h2 (sl N1 (B + 925) 0 r.toInt64) rfl
    have e9 : gl N3 (B + 925) 0 = r.toInt64 := by
      unfold gl
      rw [l1 _ (by omega)]
      exact sl_cell0
    refine x_aload_n 1 dL_law_538 rfl rfl ?_
    refine x_aload_n 0 dL_law_539 rfl rfl ?_
    refine x_iload 4 dL_law_540 rfl ?_
    refine x_iconst (v := nI 1) dL_law_542 (by decide) ?_
    refine x_iadd dL_law_543 ?_
    refine x_scrld i1.1 i1.2 dL_law_544 ?_
    refine x_aload_n 0 dL_law_545 rfl rfl ?_
    refine x_iload 4 dL_law_546 rfl ?_
    refine x_iconst (v := nI 2) dL_law_548 (by decide) ?_
    refine x_iadd dL_law_549 ?_
    refine x_scrld i2.1 i2.2 dL_law_550 ?_
    refine x_aload_n 3 dL_law_551 rfl rfl ?_
    refine x_csW (As := [.ref B, .int (xSx G (6 * t + 1)), .int (xSx G (6 * t + 2)), .ref (B + 925)]) (rest := []) (R' := xR 8 0 0) (zz := yL_request) dL_law_552 ml_L_103 wt_L_request wn_L wc_L_request hp_L_request ⟨Nat.le_of_ble_eq_true rfl, Nat.le_of_ble_eq_true rfl⟩ rfl (Nat.le_of_ble_eq_true rfl) ⟨by show c + 0 ≤ 601024; omega, by show s + 0 ≤ 7293034; omega⟩ (W_request (G := G) w0 kB kq kn9 h1) ?_
    refine x_istore (L' := [(0, .ref (xSb G)), (1, .ref B), (2, .ref (B + 908)), (3, .ref (B + 925)), (4, .int (nI (6 * t))), (5, .int 0)]) [1, 2, 3, 4, 5, 0] dL_law_555 (by decide) rfl ?_
    refine x_aload_n 2 dL_law_557 rfl rfl ?_
    refine x_aload_n 0 dL_law_558 rfl rfl ?_
    refine x_iload 4 dL_law_559 rfl ?_
    refine x_iconst (v := nI 1) dL_law_561 (by decide) ?_
    refine x_iadd dL_law_562 ?_
    refine x_scrld i1.1 i1.2 dL_law_563 ?_
    refine x_aload_n 0 dL_law_564 rfl rfl ?_
    refine x_iload 4 dL_law_565 rfl ?_
    refine x_iconst (v := nI 2) dL_law_567 (by decide) ?_
    refine x_iadd dL_law_568 ?_
    refine x_scrld i2.1 i2.2 dL_law_569 ?_
    refine x_callV (ci := 8) (b := B + 908) (As := [.int (xSx G (6 * t + 1)), .int (xSx G (6 * t + 2))]) (rest := []) (R' := xR 3 0 0) (zz := yX8_request) dL_law_570 ml_L_105 wi_X8_request wv_X8_request wn_X8 wc_X8_request hp_X8_request ⟨Nat.le_of_ble_eq_true rfl, Nat.le_of_ble_eq_true rfl⟩ rfl (Nat.le_of_ble_eq_true rfl) ⟨by show c + 0 + 0 ≤ 601024; omega, by show s + 0 + 0 ≤ 7293034; omega⟩ vc_X8 kM (T_X8_request (G := G) w0 kM m1) ?_
    refine x_istore (L' := [(0, .ref (xSb G)), (1, .ref B), (2, .ref (B + 908)), (3, .ref (B + 925)), (4, .int (nI (6 * t))), (5, .int 0), (6, .int v)]) [1, 2, 3, 4, 5, 6, 0] dL_law_573 (by decide) rfl ?_
    refine x_aload_n 2 dL_law_575 rfl rfl ?_
    refine x_callV (ci := 8) (b := B + 908) (As := []) (rest := []) (R' := xR 1 0 0) (zz := yX8_thrown) dL_law_576 ml_L_82 wi_X8_thrown wv_X8_thrown wn_X8 wc_X8_thrown hp_X8_thrown ⟨Nat.le_of_ble_eq_true rfl, Nat.le_of_ble_eq_true rfl⟩ rfl (Nat.le_of_ble_eq_true rfl) ⟨by show c + 0 + 0 + 0 ≤ 601024; omega, by show s + 0 + 0 + 0 ≤ 7293034; omega⟩ vc_X8 kM (T_X8_thrown (G := G) (r9 := gi N3 (B + 908) 0) w0 kM rfl) ?_
    refine x_iload 5 dL_law_579 rfl ?_
    refine x_icmp_eq_t (tgt := 586) dL_law_581 (by decide) (a1.trans (by decide)) ?_
    refine x_iload 5 dL_law_586 rfl ?_
    refine x_if_ne_f (tgt := 603) dL_law_588 (by decide) rfl ?_
    refine x_aload_n 3 dL_law_591 rfl rfl ?_
    refine x_iconst (v := 0) dL_law_592 rfl ?_
    refine x_lald (j9 := 0) dL_law_593 kq (show vp_in 0 (kn Y (B + 925)) by rw [kn9]; exact vp01) rfl ?_
    refine x_iload 6 dL_law_594 rfl ?_
    refine x_i2l dL_law_596 ?_
    refine x_lcmp dL_law_597 ?_
    refine x_if_eq_t (tgt := 603) dL_law_598 (by decide) (lg_cmp0 (e9.trans (congrArg Int32.toInt64 a2))) ?_
    refine x_goto (tgt := 1241) dL_law_603 (by decide) ?_
    refine x_sub (L' := [(0, .ref (xSb G)), (1, .ref B), (2, .ref (B + 908)), (3, .ref (B + 925)), (4, .int (nI (6 * t)))]) [0, 1, 2, 3, 4] rfl ?_
    exact kk _ _ _ _ ok g1 (by show c + 0 + 0 + 0 ≤ c + 1; omega) (by show s + 0 + 0 + 0 ≤ s + 6; omega)
  | inr E =>
    obtain ⟨v, N3, m1, g1, l1, i, hi, hE, a1⟩ := h2 N1 rfl
    match i, hi, hE, a1 with
    | 0, _, hE, a1 =>
      have hE : IOB = E := hE
      subst hE
      refine x_aload_n 1 dL_law_538 rfl rfl ?_
      refine x_aload_n 0 dL_law_539 rfl rfl ?_
      refine x_iload 4 dL_law_540 rfl ?_
      refine x_iconst (v := nI 1) dL_law_542 (by decide) ?_
      refine x_iadd dL_law_543 ?_
      refine x_scrld i1.1 i1.2 dL_law_544 ?_
      refine x_aload_n 0 dL_law_545 rfl rfl ?_
      refine x_iload 4 dL_law_546 rfl ?_
      refine x_iconst (v := nI 2) dL_law_548 (by decide) ?_
      refine x_iadd dL_law_549 ?_
      refine x_scrld i2.1 i2.2 dL_law_550 ?_
      refine x_aload_n 3 dL_law_551 rfl rfl ?_
      refine x_csW (As := [.ref B, .int (xSx G (6 * t + 1)), .int (xSx G (6 * t + 2)), .ref (B + 925)]) (rest := []) (R' := xR 8 1 6) (zz := yL_request) dL_law_552 ml_L_103 wt_L_request wn_L wc_L_request hp_L_request ⟨Nat.le_of_ble_eq_true rfl, Nat.le_of_ble_eq_true rfl⟩ rfl (Nat.le_of_ble_eq_true rfl) ⟨by show c + 1 ≤ 601024; omega, by show s + 6 ≤ 7293034; omega⟩ (W_request_x0 (G := G) w0 kB kq kn9 h1) ?_
      refine x_istore (L' := [(0, .ref (xSb G)), (1, .ref B), (2, .ref (B + 908)), (3, .ref (B + 925)), (4, .int (nI (6 * t))), (5, .int 1)]) [1, 2, 3, 4, 5, 0] dL_law_555 (by decide) rfl ?_
      refine x_aload_n 2 dL_law_557 rfl rfl ?_
      refine x_aload_n 0 dL_law_558 rfl rfl ?_
      refine x_iload 4 dL_law_559 rfl ?_
      refine x_iconst (v := nI 1) dL_law_561 (by decide) ?_
      refine x_iadd dL_law_562 ?_
      refine x_scrld i1.1 i1.2 dL_law_563 ?_
      refine x_aload_n 0 dL_law_564 rfl rfl ?_
      refine x_iload 4 dL_law_565 rfl ?_
      refine x_iconst (v := nI 2) dL_law_567 (by decide) ?_
      refine x_iadd dL_law_568 ?_
      refine x_scrld i2.1 i2.2 dL_law_569 ?_
      refine x_callV (ci := 8) (b := B + 908) (As := [.int (xSx G (6 * t + 1)), .int (xSx G (6 * t + 2))]) (rest := []) (R' := xR 3 0 0) (zz := yX8_request) dL_law_570 ml_L_105 wi_X8_request wv_X8_request wn_X8 wc_X8_request hp_X8_request ⟨Nat.le_of_ble_eq_true rfl, Nat.le_of_ble_eq_true rfl⟩ rfl (Nat.le_of_ble_eq_true rfl) ⟨by show c + 1 + 0 ≤ 601024; omega, by show s + 6 + 0 ≤ 7293034; omega⟩ vc_X8 kM (T_X8_request (G := G) w0 kM m1) ?_
      refine x_istore (L' := [(0, .ref (xSb G)), (1, .ref B), (2, .ref (B + 908)), (3, .ref (B + 925)), (4, .int (nI (6 * t))), (5, .int 1), (6, .int v)]) [1, 2, 3, 4, 5, 6, 0] dL_law_573 (by decide) rfl ?_
      refine x_aload_n 2 dL_law_575 rfl rfl ?_
      refine x_callV (ci := 8) (b := B + 908) (As := []) (rest := []) (R' := xR 1 0 0) (zz := yX8_thrown) dL_law_576 ml_L_82 wi_X8_thrown wv_X8_thrown wn_X8 wc_X8_thrown hp_X8_thrown ⟨Nat.le_of_ble_eq_true rfl, Nat.le_of_ble_eq_true rfl⟩ rfl (Nat.le_of_ble_eq_true rfl) ⟨by show c + 1 + 0 + 0 ≤ 601024; omega, by show s + 6 + 0 + 0 ≤ 7293034; omega⟩ vc_X8 kM (T_X8_thrown (G := G) (r9 := gi N3 (B + 908) 0) w0 kM rfl) ?_
      refine x_iload 5 dL_law_579 rfl ?_
      refine x_icmp_eq_t (tgt := 586) dL_law_581 (by decide) (a1.trans (by decide)) ?_
      refine x_iload 5 dL_law_586 rfl ?_
      refine x_if_ne_t (tgt := 603) dL_law_588 (by decide) (by decide) ?_
      refine x_goto (tgt := 1241) dL_law_603 (by decide) ?_
      refine x_sub (L' := [(0, .ref (xSb G)), (1, .ref B), (2, .ref (B + 908)), (3, .ref (B + 925)), (4, .int (nI (6 * t)))]) [0, 1, 2, 3, 4] rfl ?_
      exact kk _ _ _ _ ok g1 (by show c + 1 + 0 + 0 ≤ c + 1; omega) (by show s + 6 + 0 + 0 ≤ s + 6; omega)
    | 1, _, hE, a1 =>
      have hE : IAE = E := hE
      subst hE
      refine x_aload_n 1 dL_law_538 rfl rfl ?_
      refine x_aload_n 0 dL_law_539 rfl rfl ?_
      refine x_iload 4 dL_law_540 rfl ?_
      refine x_iconst (v := nI 1) dL_law_542 (by decide) ?_
      refine x_iadd dL_law_543 ?_
      refine x_scrld i1.1 i1.2 dL_law_544 ?_
      refine x_aload_n 0 dL_law_545 rfl rfl ?_
      refine x_iload 4 dL_law_546 rfl ?_
      refine x_iconst (v := nI 2) dL_law_548 (by decide) ?_
      refine x_iadd dL_law_549 ?_
      refine x_scrld i2.1 i2.2 dL_law_550 ?_
      refine x_aload_n 3 dL_law_551 rfl rfl ?_
      refine x_csW (As := [.ref B, .int (xSx G (6 * t + 1)), .int (xSx G (6 * t + 2)), .ref (B + 925)]) (rest := []) (R' := xR 8 1 6) (zz := yL_request) dL_law_552 ml_L_103 wt_L_request wn_L wc_L_request hp_L_request ⟨Nat.le_of_ble_eq_true rfl, Nat.le_of_ble_eq_true rfl⟩ rfl (Nat.le_of_ble_eq_true rfl) ⟨by show c + 1 ≤ 601024; omega, by show s + 6 ≤ 7293034; omega⟩ (W_request_x1 (G := G) w0 kB kq kn9 h1) ?_
      refine x_istore (L' := [(0, .ref (xSb G)), (1, .ref B), (2, .ref (B + 908)), (3, .ref (B + 925)), (4, .int (nI (6 * t))), (5, .int 2)]) [1, 2, 3, 4, 5, 0] dL_law_555 (by decide) rfl ?_
      refine x_aload_n 2 dL_law_557 rfl rfl ?_
      refine x_aload_n 0 dL_law_558 rfl rfl ?_
      refine x_iload 4 dL_law_559 rfl ?_
      refine x_iconst (v := nI 1) dL_law_561 (by decide) ?_
      refine x_iadd dL_law_562 ?_
      refine x_scrld i1.1 i1.2 dL_law_563 ?_
      refine x_aload_n 0 dL_law_564 rfl rfl ?_
      refine x_iload 4 dL_law_565 rfl ?_
      refine x_iconst (v := nI 2) dL_law_567 (by decide) ?_
      refine x_iadd dL_law_568 ?_
      refine x_scrld i2.1 i2.2 dL_law_569 ?_
      refine x_callV (ci := 8) (b := B + 908) (As := [.int (xSx G (6 * t + 1)), .int (xSx G (6 * t + 2))]) (rest := []) (R' := xR 3 0 0) (zz := yX8_request) dL_law_570 ml_L_105 wi_X8_request wv_X8_request wn_X8 wc_X8_request hp_X8_request ⟨Nat.le_of_ble_eq_true rfl, Nat.le_of_ble_eq_true rfl⟩ rfl (Nat.le_of_ble_eq_true rfl) ⟨by show c + 1 + 0 ≤ 601024; omega, by show s + 6 + 0 ≤ 7293034; omega⟩ vc_X8 kM (T_X8_request (G := G) w0 kM m1) ?_
      refine x_istore (L' := [(0, .ref (xSb G)), (1, .ref B), (2, .ref (B + 908)), (3, .ref (B + 925)), (4, .int (nI (6 * t))), (5, .int 2), (6, .int v)]) [1, 2, 3, 4, 5, 6, 0] dL_law_573 (by decide) rfl ?_
      refine x_aload_n 2 dL_law_575 rfl rfl ?_
      refine x_callV (ci := 8) (b := B + 908) (As := []) (rest := []) (R' := xR 1 0 0) (zz := yX8_thrown) dL_law_576 ml_L_82 wi_X8_thrown wv_X8_thrown wn_X8 wc_X8_thrown hp_X8_thrown ⟨Nat.le_of_ble_eq_true rfl, Nat.le_of_ble_eq_true rfl⟩ rfl (Nat.le_of_ble_eq_true rfl) ⟨by show c + 1 + 0 + 0 ≤ 601024; omega, by show s + 6 + 0 + 0 ≤ 7293034; omega⟩ vc_X8 kM (T_X8_thrown (G := G) (r9 := gi N3 (B + 908) 0) w0 kM rfl) ?_
      refine x_iload 5 dL_law_579 rfl ?_
      refine x_icmp_eq_t (tgt := 586) dL_law_581 (by decide) (a1.trans (by decide)) ?_
      refine x_iload 5 dL_law_586 rfl ?_
      refine x_if_ne_t (tgt := 603) dL_law_588 (by decide) (by decide) ?_
      refine x_goto (tgt := 1241) dL_law_603 (by decide) ?_
      refine x_sub (L' := [(0, .ref (xSb G)), (1, .ref B), (2, .ref (B + 908)), (3, .ref (B + 925)), (4, .int (nI (6 * t)))]) [0, 1, 2, 3, 4] rfl ?_
      exact kk _ _ _ _ ok g1 (by show c + 1 + 0 + 0 ≤ c + 1; omega) (by show s + 6 + 0 + 0 ≤ s + 6; omega)
    | z + 2, hi, _, _ => exact absurd hi (by simp only [List.length_cons, List.length_nil]; omega)
set_option maxHeartbeats 1000000 in
theorem LC_calm {G : XG} {tb : List ExceptionTableEntry} {nm ds : String} {Y : XY} {N : XN} {B t c s : Nat} (ok : OK9 Y B) (hI : IV B N) (ht : 6 * t + 6 ≤ xSl G) (hN : xSl G ≤ 3072) (hc : c + 1 ≤ 601024) (hs : s + 6 ≤ 7293034) (kk : LK G tb nm ds B t c s) : ExZ G ⟨RL, nm, ds⟩ cL_law 7 ret tb room_1 (law_Z G) c s 606 [(0, .ref (xSb G)), (1, .ref B), (2, .ref (B + 908)), (3, .ref (B + 925)), (4, .int (nI (6 * t)))] [] Y N := by
  obtain ⟨w0, y0, kB, kM, kq, kn9, k14⟩ := id ok
  have i1 := sidx (t := t) (j := 1) (L := xSl G) (by omega) ht hN
  obtain ⟨o, N1, h1, h2⟩ := F_calm y0 hI (xSx G (6 * t + 1))
  cases o with
  | inl r =>
    obtain ⟨v, N3, m1, g1, l1, a1, a2⟩ := h2 (sl N1 (B + 925) 0 r.toInt64) rfl
    have e9 : gl N3 (B + 925) 0 = r.toInt64 := by
      unfold gl
      rw [l1 _ (by omega)]
      exact sl_cell0
    refine x_aload_n 1 dL_law_606 rfl rfl ?_
    refine x_aload_n 0 dL_law_607 rfl rfl ?_
    refine x_iload 4 dL_law_608 rfl ?_
    refine x_iconst (v := nI 1) dL_law_610 (by decide) ?_
    refine x_iadd dL_law_611 ?_
    refine x_scrld i1.1 i1.2 dL_law_612 ?_
    refine x_aload_n 3 dL_law_613 rfl rfl ?_
    refine x_csW (As := [.ref B, .int (xSx G (6 * t + 1)), .ref (B + 925)]) (rest := []) (R' := xR 8 0 0) (zz := yL_calm) dL_law_614 ml_L_106 wt_L_calm wn_L wc_L_calm hp_L_calm ⟨Nat.le_of_ble_eq_true rfl, Nat.le_of_ble_eq_true rfl⟩ rfl (Nat.le_of_ble_eq_true rfl) ⟨by show c + 0 ≤ 601024; omega, by show s + 0 ≤ 7293034; omega⟩ (W_calm (G := G) w0 kB kq kn9 h1) ?_
    refine x_istore (L' := [(0, .ref (xSb G)), (1, .ref B), (2, .ref (B + 908)), (3, .ref (B + 925)), (4, .int (nI (6 * t))), (5, .int 0)]) [1, 2, 3, 4, 5, 0] dL_law_617 (by decide) rfl ?_
    refine x_aload_n 2 dL_law_619 rfl rfl ?_
    refine x_aload_n 0 dL_law_620 rfl rfl ?_
    refine x_iload 4 dL_law_621 rfl ?_
    refine x_iconst (v := nI 1) dL_law_623 (by decide) ?_
    refine x_iadd dL_law_624 ?_
    refine x_scrld i1.1 i1.2 dL_law_625 ?_
    refine x_callV (ci := 8) (b := B + 908) (As := [.int (xSx G (6 * t + 1))]) (rest := []) (R' := xR 4 0 0) (zz := yX8_calm) dL_law_626 ml_L_108 wi_X8_calm wv_X8_calm wn_X8 wc_X8_calm hp_X8_calm ⟨Nat.le_of_ble_eq_true rfl, Nat.le_of_ble_eq_true rfl⟩ rfl (Nat.le_of_ble_eq_true rfl) ⟨by show c + 0 + 0 ≤ 601024; omega, by show s + 0 + 0 ≤ 7293034; omega⟩ vc_X8 kM (T_X8_calm (G := G) w0 kM m1) ?_
    refine x_istore (L' := [(0, .ref (xSb G)), (1, .ref B), (2, .ref (B + 908)), (3, .ref (B + 925)), (4, .int (nI (6 * t))), (5, .int 0), (6, .int v)]) [1, 2, 3, 4, 5, 6, 0] dL_law_629 (by decide) rfl ?_
    refine x_aload_n 2 dL_law_631 rfl rfl ?_
    refine x_callV (ci := 8) (b := B + 908) (As := []) (rest := []) (R' := xR 1 0 0) (zz := yX8_thrown) dL_law_632 ml_L_82 wi_X8_thrown wv_X8_thrown wn_X8 wc_X8_thrown hp_X8_thrown ⟨Nat.le_of_ble_eq_true rfl, Nat.le_of_ble_eq_true rfl⟩ rfl (Nat.le_of_ble_eq_true rfl) ⟨by show c + 0 + 0 + 0 ≤ 601024; omega, by show s + 0 + 0 + 0 ≤ 7293034; omega⟩ vc_X8 kM (T_X8_thrown (G := G) (r9 := gi N3 (B + 908) 0) w0 kM rfl) ?_
    refine x_iload 5 dL_law_635 rfl ?_
    refine x_icmp_eq_t (tgt := 642) dL_law_637 (by decide) (a1.trans (by decide)) ?_
    refine x_iload 5 dL_law_642 rfl ?_
    refine x_if_ne_f (tgt := 659) dL_law_644 (by decide) rfl ?_
    refine x_aload_n 3 dL_law_647 rfl rfl ?_
    refine x_iconst (v := 0) dL_law_648 rfl ?_
    refine x_lald (j9 := 0) dL_law_649 kq (show vp_in 0 (kn Y (B + 925)) by rw [kn9]; exact vp01) rfl ?_
    refine x_iload 6 dL_law_650 rfl ?_
    refine x_i2l dL_law_652 ?_
    refine x_lcmp dL_law_653 ?_
    refine x_if_eq_t (tgt := 659) dL_law_654 (by decide) (lg_cmp0 (e9.trans (congrArg Int32.toInt64 a2))) ?_
    refine x_goto (tgt := 1241) dL_law_659 (by decide) ?_
    refine x_sub (L' := [(0, .ref (xSb G)), (1, .ref B), (2, .ref (B + 908)), (3, .ref (B + 925)), (4, .int (nI (6 * t)))]) [0, 1, 2, 3, 4] rfl ?_
    exact kk _ _ _ _ ok g1 (by show c + 0 + 0 + 0 ≤ c + 1; omega) (by show s + 0 + 0 + 0 ≤ s + 6; omega)
  | inr E =>
    obtain ⟨v, N3, m1, g1, l1, i, hi, hE, a1⟩ := h2 N1 rfl
    match i, hi, hE, a1 with
    | 0, _, hE, a1 =>
      have hE : IOB = E := hE
      subst hE
      refine x_aload_n 1 dL_law_606 rfl rfl ?_
      refine x_aload_n 0 dL_law_607 rfl rfl ?_
      refine x_iload 4 dL_law_608 rfl ?_
      refine x_iconst (v := nI 1) dL_law_610 (by decide) ?_
      refine x_iadd dL_law_611 ?_
      refine x_scrld i1.1 i1.2 dL_law_612 ?_
      refine x_aload_n 3 dL_law_613 rfl rfl ?_
      refine x_csW (As := [.ref B, .int (xSx G (6 * t + 1)), .ref (B + 925)]) (rest := []) (R' := xR 8 1 6) (zz := yL_calm) dL_law_614 ml_L_106 wt_L_calm wn_L wc_L_calm hp_L_calm ⟨Nat.le_of_ble_eq_true rfl, Nat.le_of_ble_eq_true rfl⟩ rfl (Nat.le_of_ble_eq_true rfl) ⟨by show c + 1 ≤ 601024; omega, by show s + 6 ≤ 7293034; omega⟩ (W_calm_x0 (G := G) w0 kB kq kn9 h1) ?_
      refine x_istore (L' := [(0, .ref (xSb G)), (1, .ref B), (2, .ref (B + 908)), (3, .ref (B + 925)), (4, .int (nI (6 * t))), (5, .int 1)]) [1, 2, 3, 4, 5, 0] dL_law_617 (by decide) rfl ?_
      refine x_aload_n 2 dL_law_619 rfl rfl ?_
      refine x_aload_n 0 dL_law_620 rfl rfl ?_
      refine x_iload 4 dL_law_621 rfl ?_
      refine x_iconst (v := nI 1) dL_law_623 (by decide) ?_
      refine x_iadd dL_law_624 ?_
      refine x_scrld i1.1 i1.2 dL_law_625 ?_
      refine x_callV (ci := 8) (b := B + 908) (As := [.int (xSx G (6 * t + 1))]) (rest := []) (R' := xR 4 0 0) (zz := yX8_calm) dL_law_626 ml_L_108 wi_X8_calm wv_X8_calm wn_X8 wc_X8_calm hp_X8_calm ⟨Nat.le_of_ble_eq_true rfl, Nat.le_of_ble_eq_true rfl⟩ rfl (Nat.le_of_ble_eq_true rfl) ⟨by show c + 1 + 0 ≤ 601024; omega, by show s + 6 + 0 ≤ 7293034; omega⟩ vc_X8 kM (T_X8_calm (G := G) w0 kM m1) ?_
      refine x_istore (L' := [(0, .ref (xSb G)), (1, .ref B), (2, .ref (B + 908)), (3, .ref (B + 925)), (4, .int (nI (6 * t))), (5, .int 1), (6, .int v)]) [1, 2, 3, 4, 5, 6, 0] dL_law_629 (by decide) rfl ?_
      refine x_aload_n 2 dL_law_631 rfl rfl ?_
      refine x_callV (ci := 8) (b := B + 908) (As := []) (rest := []) (R' := xR 1 0 0) (zz := yX8_thrown) dL_law_632 ml_L_82 wi_X8_thrown wv_X8_thrown wn_X8 wc_X8_thrown hp_X8_thrown ⟨Nat.le_of_ble_eq_true rfl, Nat.le_of_ble_eq_true rfl⟩ rfl (Nat.le_of_ble_eq_true rfl) ⟨by show c + 1 + 0 + 0 ≤ 601024; omega, by show s + 6 + 0 + 0 ≤ 7293034; omega⟩ vc_X8 kM (T_X8_thrown (G := G) (r9 := gi N3 (B + 908) 0) w0 kM rfl) ?_
      refine x_iload 5 dL_law_635 rfl ?_
      refine x_icmp_eq_t (tgt := 642) dL_law_637 (by decide) (a1.trans (by decide)) ?_
      refine x_iload 5 dL_law_642 rfl ?_
      refine x_if_ne_t (tgt := 659) dL_law_644 (by decide) (by decide) ?_
      refine x_goto (tgt := 1241) dL_law_659 (by decide) ?_
      refine x_sub (L' := [(0, .ref (xSb G)), (1, .ref B), (2, .ref (B + 908)), (3, .ref (B + 925)), (4, .int (nI (6 * t)))]) [0, 1, 2, 3, 4] rfl ?_
      exact kk _ _ _ _ ok g1 (by show c + 1 + 0 + 0 ≤ c + 1; omega) (by show s + 6 + 0 + 0 ≤ s + 6; omega)
    | z + 1, hi, _, _ => exact absurd hi (by simp only [List.length_cons, List.length_nil]; omega)
set_option maxHeartbeats 1000000 in
theorem LC_endsAt {G : XG} {tb : List ExceptionTableEntry} {nm ds : String} {Y : XY} {N : XN} {B t c s : Nat} (ok : OK9 Y B) (hI : IV B N) (ht : 6 * t + 6 ≤ xSl G) (hN : xSl G ≤ 3072) (hc : c + 1 ≤ 601024) (hs : s + 6 ≤ 7293034) (kk : LK G tb nm ds B t c s) : ExZ G ⟨RL, nm, ds⟩ cL_law 7 ret tb room_1 (law_Z G) c s 662 [(0, .ref (xSb G)), (1, .ref B), (2, .ref (B + 908)), (3, .ref (B + 925)), (4, .int (nI (6 * t)))] [] Y N := by
  obtain ⟨w0, y0, kB, kM, kq, kn9, k14⟩ := id ok
  have i1 := sidx (t := t) (j := 1) (L := xSl G) (by omega) ht hN
  obtain ⟨o, N1, h1, h2⟩ := F_endsAt y0 hI (xSx G (6 * t + 1))
  cases o with
  | inl r =>
    obtain ⟨v, N3, m1, g1, l1, a1, a2⟩ := h2 (sl N1 (B + 925) 0 r.toInt64) rfl
    have e9 : gl N3 (B + 925) 0 = r.toInt64 := by
      unfold gl
      rw [l1 _ (by omega)]
      exact sl_cell0
    refine x_aload_n 1 dL_law_662 rfl rfl ?_
    refine x_aload_n 0 dL_law_663 rfl rfl ?_
    refine x_iload 4 dL_law_664 rfl ?_
    refine x_iconst (v := nI 1) dL_law_666 (by decide) ?_
    refine x_iadd dL_law_667 ?_
    refine x_scrld i1.1 i1.2 dL_law_668 ?_
    refine x_aload_n 3 dL_law_669 rfl rfl ?_
    refine x_csW (As := [.ref B, .int (xSx G (6 * t + 1)), .ref (B + 925)]) (rest := []) (R' := xR 8 0 0) (zz := yL_endsAt) dL_law_670 ml_L_109 wt_L_endsAt wn_L wc_L_endsAt hp_L_endsAt ⟨Nat.le_of_ble_eq_true rfl, Nat.le_of_ble_eq_true rfl⟩ rfl (Nat.le_of_ble_eq_true rfl) ⟨by show c + 0 ≤ 601024; omega, by show s + 0 ≤ 7293034; omega⟩ (W_endsAt (G := G) w0 kB kq kn9 h1) ?_
    refine x_istore (L' := [(0, .ref (xSb G)), (1, .ref B), (2, .ref (B + 908)), (3, .ref (B + 925)), (4, .int (nI (6 * t))), (5, .int 0)]) [1, 2, 3, 4, 5, 0] dL_law_673 (by decide) rfl ?_
    refine x_aload_n 2 dL_law_675 rfl rfl ?_
    refine x_aload_n 0 dL_law_676 rfl rfl ?_
    refine x_iload 4 dL_law_677 rfl ?_
    refine x_iconst (v := nI 1) dL_law_679 (by decide) ?_
    refine x_iadd dL_law_680 ?_
    refine x_scrld i1.1 i1.2 dL_law_681 ?_
    refine x_callV (ci := 8) (b := B + 908) (As := [.int (xSx G (6 * t + 1))]) (rest := []) (R' := xR 10 0 0) (zz := yX8_endsAt) dL_law_682 ml_L_111 wi_X8_endsAt wv_X8_endsAt wn_X8 wc_X8_endsAt hp_X8_endsAt ⟨Nat.le_of_ble_eq_true rfl, Nat.le_of_ble_eq_true rfl⟩ rfl (Nat.le_of_ble_eq_true rfl) ⟨by show c + 0 + 0 ≤ 601024; omega, by show s + 0 + 0 ≤ 7293034; omega⟩ vc_X8 kM (T_X8_endsAt (G := G) w0 kM m1) ?_
    refine x_istore (L' := [(0, .ref (xSb G)), (1, .ref B), (2, .ref (B + 908)), (3, .ref (B + 925)), (4, .int (nI (6 * t))), (5, .int 0), (6, .int v)]) [1, 2, 3, 4, 5, 6, 0] dL_law_685 (by decide) rfl ?_
    refine x_aload_n 2 dL_law_687 rfl rfl ?_
    refine x_callV (ci := 8) (b := B + 908) (As := []) (rest := []) (R' := xR 1 0 0) (zz := yX8_thrown) dL_law_688 ml_L_82 wi_X8_thrown wv_X8_thrown wn_X8 wc_X8_thrown hp_X8_thrown ⟨Nat.le_of_ble_eq_true rfl, Nat.le_of_ble_eq_true rfl⟩ rfl (Nat.le_of_ble_eq_true rfl) ⟨by show c + 0 + 0 + 0 ≤ 601024; omega, by show s + 0 + 0 + 0 ≤ 7293034; omega⟩ vc_X8 kM (T_X8_thrown (G := G) (r9 := gi N3 (B + 908) 0) w0 kM rfl) ?_
    refine x_iload 5 dL_law_691 rfl ?_
    refine x_icmp_eq_t (tgt := 698) dL_law_693 (by decide) (a1.trans (by decide)) ?_
    refine x_iload 5 dL_law_698 rfl ?_
    refine x_if_ne_f (tgt := 715) dL_law_700 (by decide) rfl ?_
    refine x_aload_n 3 dL_law_703 rfl rfl ?_
    refine x_iconst (v := 0) dL_law_704 rfl ?_
    refine x_lald (j9 := 0) dL_law_705 kq (show vp_in 0 (kn Y (B + 925)) by rw [kn9]; exact vp01) rfl ?_
    refine x_iload 6 dL_law_706 rfl ?_
    refine x_i2l dL_law_708 ?_
    refine x_lcmp dL_law_709 ?_
    refine x_if_eq_t (tgt := 715) dL_law_710 (by decide) (lg_cmp0 (e9.trans (congrArg Int32.toInt64 a2))) ?_
    refine x_goto (tgt := 1241) dL_law_715 (by decide) ?_
    refine x_sub (L' := [(0, .ref (xSb G)), (1, .ref B), (2, .ref (B + 908)), (3, .ref (B + 925)), (4, .int (nI (6 * t)))]) [0, 1, 2, 3, 4] rfl ?_
    exact kk _ _ _ _ ok g1 (by show c + 0 + 0 + 0 ≤ c + 1; omega) (by show s + 0 + 0 + 0 ≤ s + 6; omega)
  | inr E =>
    obtain ⟨v, N3, m1, g1, l1, i, hi, hE, a1⟩ := h2 N1 rfl
    match i, hi, hE, a1 with
    | 0, _, hE, a1 =>
      have hE : IOB = E := hE
      subst hE
      refine x_aload_n 1 dL_law_662 rfl rfl ?_
      refine x_aload_n 0 dL_law_663 rfl rfl ?_
      refine x_iload 4 dL_law_664 rfl ?_
      refine x_iconst (v := nI 1) dL_law_666 (by decide) ?_
      refine x_iadd dL_law_667 ?_
      refine x_scrld i1.1 i1.2 dL_law_668 ?_
      refine x_aload_n 3 dL_law_669 rfl rfl ?_
      refine x_csW (As := [.ref B, .int (xSx G (6 * t + 1)), .ref (B + 925)]) (rest := []) (R' := xR 8 1 6) (zz := yL_endsAt) dL_law_670 ml_L_109 wt_L_endsAt wn_L wc_L_endsAt hp_L_endsAt ⟨Nat.le_of_ble_eq_true rfl, Nat.le_of_ble_eq_true rfl⟩ rfl (Nat.le_of_ble_eq_true rfl) ⟨by show c + 1 ≤ 601024; omega, by show s + 6 ≤ 7293034; omega⟩ (W_endsAt_x0 (G := G) w0 kB kq kn9 h1) ?_
      refine x_istore (L' := [(0, .ref (xSb G)), (1, .ref B), (2, .ref (B + 908)), (3, .ref (B + 925)), (4, .int (nI (6 * t))), (5, .int 1)]) [1, 2, 3, 4, 5, 0] dL_law_673 (by decide) rfl ?_
      refine x_aload_n 2 dL_law_675 rfl rfl ?_
      refine x_aload_n 0 dL_law_676 rfl rfl ?_
      refine x_iload 4 dL_law_677 rfl ?_
      refine x_iconst (v := nI 1) dL_law_679 (by decide) ?_
      refine x_iadd dL_law_680 ?_
      refine x_scrld i1.1 i1.2 dL_law_681 ?_
      refine x_callV (ci := 8) (b := B + 908) (As := [.int (xSx G (6 * t + 1))]) (rest := []) (R' := xR 10 0 0) (zz := yX8_endsAt) dL_law_682 ml_L_111 wi_X8_endsAt wv_X8_endsAt wn_X8 wc_X8_endsAt hp_X8_endsAt ⟨Nat.le_of_ble_eq_true rfl, Nat.le_of_ble_eq_true rfl⟩ rfl (Nat.le_of_ble_eq_true rfl) ⟨by show c + 1 + 0 ≤ 601024; omega, by show s + 6 + 0 ≤ 7293034; omega⟩ vc_X8 kM (T_X8_endsAt (G := G) w0 kM m1) ?_
      refine x_istore (L' := [(0, .ref (xSb G)), (1, .ref B), (2, .ref (B + 908)), (3, .ref (B + 925)), (4, .int (nI (6 * t))), (5, .int 1), (6, .int v)]) [1, 2, 3, 4, 5, 6, 0] dL_law_685 (by decide) rfl ?_
      refine x_aload_n 2 dL_law_687 rfl rfl ?_
      refine x_callV (ci := 8) (b := B + 908) (As := []) (rest := []) (R' := xR 1 0 0) (zz := yX8_thrown) dL_law_688 ml_L_82 wi_X8_thrown wv_X8_thrown wn_X8 wc_X8_thrown hp_X8_thrown ⟨Nat.le_of_ble_eq_true rfl, Nat.le_of_ble_eq_true rfl⟩ rfl (Nat.le_of_ble_eq_true rfl) ⟨by show c + 1 + 0 + 0 ≤ 601024; omega, by show s + 6 + 0 + 0 ≤ 7293034; omega⟩ vc_X8 kM (T_X8_thrown (G := G) (r9 := gi N3 (B + 908) 0) w0 kM rfl) ?_
      refine x_iload 5 dL_law_691 rfl ?_
      refine x_icmp_eq_t (tgt := 698) dL_law_693 (by decide) (a1.trans (by decide)) ?_
      refine x_iload 5 dL_law_698 rfl ?_
      refine x_if_ne_t (tgt := 715) dL_law_700 (by decide) (by decide) ?_
      refine x_goto (tgt := 1241) dL_law_715 (by decide) ?_
      refine x_sub (L' := [(0, .ref (xSb G)), (1, .ref B), (2, .ref (B + 908)), (3, .ref (B + 925)), (4, .int (nI (6 * t)))]) [0, 1, 2, 3, 4] rfl ?_
      exact kk _ _ _ _ ok g1 (by show c + 1 + 0 + 0 ≤ c + 1; omega) (by show s + 6 + 0 + 0 ≤ s + 6; omega)
    | z + 1, hi, _, _ => exact absurd hi (by simp only [List.length_cons, List.length_nil]; omega)
set_option maxHeartbeats 1000000 in
theorem LC_bankruptIn {G : XG} {tb : List ExceptionTableEntry} {nm ds : String} {Y : XY} {N : XN} {B t c s : Nat} (ok : OK9 Y B) (hI : IV B N) (ht : 6 * t + 6 ≤ xSl G) (hN : xSl G ≤ 3072) (hc : c + 1 ≤ 601024) (hs : s + 6 ≤ 7293034) (kk : LK G tb nm ds B t c s) : ExZ G ⟨RL, nm, ds⟩ cL_law 7 ret tb room_1 (law_Z G) c s 718 [(0, .ref (xSb G)), (1, .ref B), (2, .ref (B + 908)), (3, .ref (B + 925)), (4, .int (nI (6 * t)))] [] Y N := by
  obtain ⟨w0, y0, kB, kM, kq, kn9, k14⟩ := id ok
  have i1 := sidx (t := t) (j := 1) (L := xSl G) (by omega) ht hN
  obtain ⟨o, N1, h1, h2⟩ := F_bankruptIn y0 hI (xSx G (6 * t + 1))
  cases o with
  | inl r =>
    obtain ⟨v, N3, m1, g1, l1, a1, a2⟩ := h2 (sl N1 (B + 925) 0 r.toInt64) rfl
    have e9 : gl N3 (B + 925) 0 = r.toInt64 := by
      unfold gl
      rw [l1 _ (by omega)]
      exact sl_cell0
    refine x_aload_n 1 dL_law_718 rfl rfl ?_
    refine x_aload_n 0 dL_law_719 rfl rfl ?_
    refine x_iload 4 dL_law_720 rfl ?_
    refine x_iconst (v := nI 1) dL_law_722 (by decide) ?_
    refine x_iadd dL_law_723 ?_
    refine x_scrld i1.1 i1.2 dL_law_724 ?_
    refine x_aload_n 3 dL_law_725 rfl rfl ?_
    refine x_csW (As := [.ref B, .int (xSx G (6 * t + 1)), .ref (B + 925)]) (rest := []) (R' := xR 8 0 0) (zz := yL_bankruptIn) dL_law_726 ml_L_112 wt_L_bankruptIn wn_L wc_L_bankruptIn hp_L_bankruptIn ⟨Nat.le_of_ble_eq_true rfl, Nat.le_of_ble_eq_true rfl⟩ rfl (Nat.le_of_ble_eq_true rfl) ⟨by show c + 0 ≤ 601024; omega, by show s + 0 ≤ 7293034; omega⟩ (W_bankruptIn (G := G) w0 kB kq kn9 h1) ?_
    refine x_istore (L' := [(0, .ref (xSb G)), (1, .ref B), (2, .ref (B + 908)), (3, .ref (B + 925)), (4, .int (nI (6 * t))), (5, .int 0)]) [1, 2, 3, 4, 5, 0] dL_law_729 (by decide) rfl ?_
    refine x_aload_n 2 dL_law_731 rfl rfl ?_
    refine x_aload_n 0 dL_law_732 rfl rfl ?_
    refine x_iload 4 dL_law_733 rfl ?_
    refine x_iconst (v := nI 1) dL_law_735 (by decide) ?_
    refine x_iadd dL_law_736 ?_
    refine x_scrld i1.1 i1.2 dL_law_737 ?_
    refine x_callV (ci := 8) (b := B + 908) (As := [.int (xSx G (6 * t + 1))]) (rest := []) (R' := xR 10 0 0) (zz := yX8_bankruptIn) dL_law_738 ml_L_114 wi_X8_bankruptIn wv_X8_bankruptIn wn_X8 wc_X8_bankruptIn hp_X8_bankruptIn ⟨Nat.le_of_ble_eq_true rfl, Nat.le_of_ble_eq_true rfl⟩ rfl (Nat.le_of_ble_eq_true rfl) ⟨by show c + 0 + 0 ≤ 601024; omega, by show s + 0 + 0 ≤ 7293034; omega⟩ vc_X8 kM (T_X8_bankruptIn (G := G) w0 kM m1) ?_
    refine x_istore (L' := [(0, .ref (xSb G)), (1, .ref B), (2, .ref (B + 908)), (3, .ref (B + 925)), (4, .int (nI (6 * t))), (5, .int 0), (6, .int v)]) [1, 2, 3, 4, 5, 6, 0] dL_law_741 (by decide) rfl ?_
    refine x_aload_n 2 dL_law_743 rfl rfl ?_
    refine x_callV (ci := 8) (b := B + 908) (As := []) (rest := []) (R' := xR 1 0 0) (zz := yX8_thrown) dL_law_744 ml_L_82 wi_X8_thrown wv_X8_thrown wn_X8 wc_X8_thrown hp_X8_thrown ⟨Nat.le_of_ble_eq_true rfl, Nat.le_of_ble_eq_true rfl⟩ rfl (Nat.le_of_ble_eq_true rfl) ⟨by show c + 0 + 0 + 0 ≤ 601024; omega, by show s + 0 + 0 + 0 ≤ 7293034; omega⟩ vc_X8 kM (T_X8_thrown (G := G) (r9 := gi N3 (B + 908) 0) w0 kM rfl) ?_
    refine x_iload 5 dL_law_747 rfl ?_
    refine x_icmp_eq_t (tgt := 754) dL_law_749 (by decide) (a1.trans (by decide)) ?_
    refine x_iload 5 dL_law_754 rfl ?_
    refine x_if_ne_f (tgt := 771) dL_law_756 (by decide) rfl ?_
    refine x_aload_n 3 dL_law_759 rfl rfl ?_
    refine x_iconst (v := 0) dL_law_760 rfl ?_
    refine x_lald (j9 := 0) dL_law_761 kq (show vp_in 0 (kn Y (B + 925)) by rw [kn9]; exact vp01) rfl ?_
    refine x_iload 6 dL_law_762 rfl ?_
    refine x_i2l dL_law_764 ?_
    refine x_lcmp dL_law_765 ?_
    refine x_if_eq_t (tgt := 771) dL_law_766 (by decide) (lg_cmp0 (e9.trans (congrArg Int32.toInt64 a2))) ?_
    refine x_goto (tgt := 1241) dL_law_771 (by decide) ?_
    refine x_sub (L' := [(0, .ref (xSb G)), (1, .ref B), (2, .ref (B + 908)), (3, .ref (B + 925)), (4, .int (nI (6 * t)))]) [0, 1, 2, 3, 4] rfl ?_
    exact kk _ _ _ _ ok g1 (by show c + 0 + 0 + 0 ≤ c + 1; omega) (by show s + 0 + 0 + 0 ≤ s + 6; omega)
  | inr E =>
    obtain ⟨v, N3, m1, g1, l1, i, hi, hE, a1⟩ := h2 N1 rfl
    match i, hi, hE, a1 with
    | 0, _, hE, a1 =>
      have hE : IOB = E := hE
      subst hE
      refine x_aload_n 1 dL_law_718 rfl rfl ?_
      refine x_aload_n 0 dL_law_719 rfl rfl ?_
      refine x_iload 4 dL_law_720 rfl ?_
      refine x_iconst (v := nI 1) dL_law_722 (by decide) ?_
      refine x_iadd dL_law_723 ?_
      refine x_scrld i1.1 i1.2 dL_law_724 ?_
      refine x_aload_n 3 dL_law_725 rfl rfl ?_
      refine x_csW (As := [.ref B, .int (xSx G (6 * t + 1)), .ref (B + 925)]) (rest := []) (R' := xR 8 1 6) (zz := yL_bankruptIn) dL_law_726 ml_L_112 wt_L_bankruptIn wn_L wc_L_bankruptIn hp_L_bankruptIn ⟨Nat.le_of_ble_eq_true rfl, Nat.le_of_ble_eq_true rfl⟩ rfl (Nat.le_of_ble_eq_true rfl) ⟨by show c + 1 ≤ 601024; omega, by show s + 6 ≤ 7293034; omega⟩ (W_bankruptIn_x0 (G := G) w0 kB kq kn9 h1) ?_
      refine x_istore (L' := [(0, .ref (xSb G)), (1, .ref B), (2, .ref (B + 908)), (3, .ref (B + 925)), (4, .int (nI (6 * t))), (5, .int 1)]) [1, 2, 3, 4, 5, 0] dL_law_729 (by decide) rfl ?_
      refine x_aload_n 2 dL_law_731 rfl rfl ?_
      refine x_aload_n 0 dL_law_732 rfl rfl ?_
      refine x_iload 4 dL_law_733 rfl ?_
      refine x_iconst (v := nI 1) dL_law_735 (by decide) ?_
      refine x_iadd dL_law_736 ?_
      refine x_scrld i1.1 i1.2 dL_law_737 ?_
      refine x_callV (ci := 8) (b := B + 908) (As := [.int (xSx G (6 * t + 1))]) (rest := []) (R' := xR 10 0 0) (zz := yX8_bankruptIn) dL_law_738 ml_L_114 wi_X8_bankruptIn wv_X8_bankruptIn wn_X8 wc_X8_bankruptIn hp_X8_bankruptIn ⟨Nat.le_of_ble_eq_true rfl, Nat.le_of_ble_eq_true rfl⟩ rfl (Nat.le_of_ble_eq_true rfl) ⟨by show c + 1 + 0 ≤ 601024; omega, by show s + 6 + 0 ≤ 7293034; omega⟩ vc_X8 kM (T_X8_bankruptIn (G := G) w0 kM m1) ?_
      refine x_istore (L' := [(0, .ref (xSb G)), (1, .ref B), (2, .ref (B + 908)), (3, .ref (B + 925)), (4, .int (nI (6 * t))), (5, .int 1), (6, .int v)]) [1, 2, 3, 4, 5, 6, 0] dL_law_741 (by decide) rfl ?_
      refine x_aload_n 2 dL_law_743 rfl rfl ?_
      refine x_callV (ci := 8) (b := B + 908) (As := []) (rest := []) (R' := xR 1 0 0) (zz := yX8_thrown) dL_law_744 ml_L_82 wi_X8_thrown wv_X8_thrown wn_X8 wc_X8_thrown hp_X8_thrown ⟨Nat.le_of_ble_eq_true rfl, Nat.le_of_ble_eq_true rfl⟩ rfl (Nat.le_of_ble_eq_true rfl) ⟨by show c + 1 + 0 + 0 ≤ 601024; omega, by show s + 6 + 0 + 0 ≤ 7293034; omega⟩ vc_X8 kM (T_X8_thrown (G := G) (r9 := gi N3 (B + 908) 0) w0 kM rfl) ?_
      refine x_iload 5 dL_law_747 rfl ?_
      refine x_icmp_eq_t (tgt := 754) dL_law_749 (by decide) (a1.trans (by decide)) ?_
      refine x_iload 5 dL_law_754 rfl ?_
      refine x_if_ne_t (tgt := 771) dL_law_756 (by decide) (by decide) ?_
      refine x_goto (tgt := 1241) dL_law_771 (by decide) ?_
      refine x_sub (L' := [(0, .ref (xSb G)), (1, .ref B), (2, .ref (B + 908)), (3, .ref (B + 925)), (4, .int (nI (6 * t)))]) [0, 1, 2, 3, 4] rfl ?_
      exact kk _ _ _ _ ok g1 (by show c + 1 + 0 + 0 ≤ c + 1; omega) (by show s + 6 + 0 + 0 ≤ s + 6; omega)
    | z + 1, hi, _, _ => exact absurd hi (by simp only [List.length_cons, List.length_nil]; omega)
set_option maxHeartbeats 1000000 in
theorem LC_finesIn {G : XG} {tb : List ExceptionTableEntry} {nm ds : String} {Y : XY} {N : XN} {B t c s : Nat} (ok : OK9 Y B) (hI : IV B N) (ht : 6 * t + 6 ≤ xSl G) (hN : xSl G ≤ 3072) (hc : c + 1 ≤ 601024) (hs : s + 6 ≤ 7293034) (kk : LK G tb nm ds B t c s) : ExZ G ⟨RL, nm, ds⟩ cL_law 7 ret tb room_1 (law_Z G) c s 774 [(0, .ref (xSb G)), (1, .ref B), (2, .ref (B + 908)), (3, .ref (B + 925)), (4, .int (nI (6 * t)))] [] Y N := by
  obtain ⟨w0, y0, kB, kM, kq, kn9, k14⟩ := id ok
  have i1 := sidx (t := t) (j := 1) (L := xSl G) (by omega) ht hN
  obtain ⟨o, N1, h1, h2⟩ := F_finesIn y0 hI (xSx G (6 * t + 1))
  cases o with
  | inl r =>
    obtain ⟨v, N3, m1, g1, l1, a1, a2⟩ := h2 (sl N1 (B + 925) 0 r.toInt64) rfl
    have e9 : gl N3 (B + 925) 0 = r.toInt64 := by
      unfold gl
      rw [l1 _ (by omega)]
      exact sl_cell0
    refine x_aload_n 1 dL_law_774 rfl rfl ?_
    refine x_aload_n 0 dL_law_775 rfl rfl ?_
    refine x_iload 4 dL_law_776 rfl ?_
    refine x_iconst (v := nI 1) dL_law_778 (by decide) ?_
    refine x_iadd dL_law_779 ?_
    refine x_scrld i1.1 i1.2 dL_law_780 ?_
    refine x_aload_n 3 dL_law_781 rfl rfl ?_
    refine x_csW (As := [.ref B, .int (xSx G (6 * t + 1)), .ref (B + 925)]) (rest := []) (R' := xR 9 0 0) (zz := yL_finesIn) dL_law_782 ml_L_115 wt_L_finesIn wn_L wc_L_finesIn hp_L_finesIn ⟨Nat.le_of_ble_eq_true rfl, Nat.le_of_ble_eq_true rfl⟩ rfl (Nat.le_of_ble_eq_true rfl) ⟨by show c + 0 ≤ 601024; omega, by show s + 0 ≤ 7293034; omega⟩ (W_finesIn (G := G) w0 kB kq kn9 h1) ?_
    refine x_istore (L' := [(0, .ref (xSb G)), (1, .ref B), (2, .ref (B + 908)), (3, .ref (B + 925)), (4, .int (nI (6 * t))), (5, .int 0)]) [1, 2, 3, 4, 5, 0] dL_law_785 (by decide) rfl ?_
    refine x_aload_n 2 dL_law_787 rfl rfl ?_
    refine x_aload_n 0 dL_law_788 rfl rfl ?_
    refine x_iload 4 dL_law_789 rfl ?_
    refine x_iconst (v := nI 1) dL_law_791 (by decide) ?_
    refine x_iadd dL_law_792 ?_
    refine x_scrld i1.1 i1.2 dL_law_793 ?_
    refine x_callV (ci := 8) (b := B + 908) (As := [.int (xSx G (6 * t + 1))]) (rest := []) (R' := xR 11 0 0) (zz := yX8_finesIn) dL_law_794 ml_L_117 wi_X8_finesIn wv_X8_finesIn wn_X8 wc_X8_finesIn hp_X8_finesIn ⟨Nat.le_of_ble_eq_true rfl, Nat.le_of_ble_eq_true rfl⟩ rfl (Nat.le_of_ble_eq_true rfl) ⟨by show c + 0 + 0 ≤ 601024; omega, by show s + 0 + 0 ≤ 7293034; omega⟩ vc_X8 kM (T_X8_finesIn (G := G) w0 kM m1) ?_
    refine x_istore (L' := [(0, .ref (xSb G)), (1, .ref B), (2, .ref (B + 908)), (3, .ref (B + 925)), (4, .int (nI (6 * t))), (5, .int 0), (6, .int v)]) [1, 2, 3, 4, 5, 6, 0] dL_law_797 (by decide) rfl ?_
    refine x_aload_n 2 dL_law_799 rfl rfl ?_
    refine x_callV (ci := 8) (b := B + 908) (As := []) (rest := []) (R' := xR 1 0 0) (zz := yX8_thrown) dL_law_800 ml_L_82 wi_X8_thrown wv_X8_thrown wn_X8 wc_X8_thrown hp_X8_thrown ⟨Nat.le_of_ble_eq_true rfl, Nat.le_of_ble_eq_true rfl⟩ rfl (Nat.le_of_ble_eq_true rfl) ⟨by show c + 0 + 0 + 0 ≤ 601024; omega, by show s + 0 + 0 + 0 ≤ 7293034; omega⟩ vc_X8 kM (T_X8_thrown (G := G) (r9 := gi N3 (B + 908) 0) w0 kM rfl) ?_
    refine x_iload 5 dL_law_803 rfl ?_
    refine x_icmp_eq_t (tgt := 810) dL_law_805 (by decide) (a1.trans (by decide)) ?_
    refine x_iload 5 dL_law_810 rfl ?_
    refine x_if_ne_f (tgt := 827) dL_law_812 (by decide) rfl ?_
    refine x_aload_n 3 dL_law_815 rfl rfl ?_
    refine x_iconst (v := 0) dL_law_816 rfl ?_
    refine x_lald (j9 := 0) dL_law_817 kq (show vp_in 0 (kn Y (B + 925)) by rw [kn9]; exact vp01) rfl ?_
    refine x_iload 6 dL_law_818 rfl ?_
    refine x_i2l dL_law_820 ?_
    refine x_lcmp dL_law_821 ?_
    refine x_if_eq_t (tgt := 827) dL_law_822 (by decide) (lg_cmp0 (e9.trans (congrArg Int32.toInt64 a2))) ?_
    refine x_goto (tgt := 1241) dL_law_827 (by decide) ?_
    refine x_sub (L' := [(0, .ref (xSb G)), (1, .ref B), (2, .ref (B + 908)), (3, .ref (B + 925)), (4, .int (nI (6 * t)))]) [0, 1, 2, 3, 4] rfl ?_
    exact kk _ _ _ _ ok g1 (by show c + 0 + 0 + 0 ≤ c + 1; omega) (by show s + 0 + 0 + 0 ≤ s + 6; omega)
  | inr E =>
    obtain ⟨v, N3, m1, g1, l1, i, hi, hE, a1⟩ := h2 N1 rfl
    match i, hi, hE, a1 with
    | 0, _, hE, a1 =>
      have hE : IAE = E := hE
      subst hE
      refine x_aload_n 1 dL_law_774 rfl rfl ?_
      refine x_aload_n 0 dL_law_775 rfl rfl ?_
      refine x_iload 4 dL_law_776 rfl ?_
      refine x_iconst (v := nI 1) dL_law_778 (by decide) ?_
      refine x_iadd dL_law_779 ?_
      refine x_scrld i1.1 i1.2 dL_law_780 ?_
      refine x_aload_n 3 dL_law_781 rfl rfl ?_
      refine x_csW (As := [.ref B, .int (xSx G (6 * t + 1)), .ref (B + 925)]) (rest := []) (R' := xR 9 1 6) (zz := yL_finesIn) dL_law_782 ml_L_115 wt_L_finesIn wn_L wc_L_finesIn hp_L_finesIn ⟨Nat.le_of_ble_eq_true rfl, Nat.le_of_ble_eq_true rfl⟩ rfl (Nat.le_of_ble_eq_true rfl) ⟨by show c + 1 ≤ 601024; omega, by show s + 6 ≤ 7293034; omega⟩ (W_finesIn_x0 (G := G) w0 kB kq kn9 h1) ?_
      refine x_istore (L' := [(0, .ref (xSb G)), (1, .ref B), (2, .ref (B + 908)), (3, .ref (B + 925)), (4, .int (nI (6 * t))), (5, .int 1)]) [1, 2, 3, 4, 5, 0] dL_law_785 (by decide) rfl ?_
      refine x_aload_n 2 dL_law_787 rfl rfl ?_
      refine x_aload_n 0 dL_law_788 rfl rfl ?_
      refine x_iload 4 dL_law_789 rfl ?_
      refine x_iconst (v := nI 1) dL_law_791 (by decide) ?_
      refine x_iadd dL_law_792 ?_
      refine x_scrld i1.1 i1.2 dL_law_793 ?_
      refine x_callV (ci := 8) (b := B + 908) (As := [.int (xSx G (6 * t + 1))]) (rest := []) (R' := xR 11 0 0) (zz := yX8_finesIn) dL_law_794 ml_L_117 wi_X8_finesIn wv_X8_finesIn wn_X8 wc_X8_finesIn hp_X8_finesIn ⟨Nat.le_of_ble_eq_true rfl, Nat.le_of_ble_eq_true rfl⟩ rfl (Nat.le_of_ble_eq_true rfl) ⟨by show c + 1 + 0 ≤ 601024; omega, by show s + 6 + 0 ≤ 7293034; omega⟩ vc_X8 kM (T_X8_finesIn (G := G) w0 kM m1) ?_
      refine x_istore (L' := [(0, .ref (xSb G)), (1, .ref B), (2, .ref (B + 908)), (3, .ref (B + 925)), (4, .int (nI (6 * t))), (5, .int 1), (6, .int v)]) [1, 2, 3, 4, 5, 6, 0] dL_law_797 (by decide) rfl ?_
      refine x_aload_n 2 dL_law_799 rfl rfl ?_
      refine x_callV (ci := 8) (b := B + 908) (As := []) (rest := []) (R' := xR 1 0 0) (zz := yX8_thrown) dL_law_800 ml_L_82 wi_X8_thrown wv_X8_thrown wn_X8 wc_X8_thrown hp_X8_thrown ⟨Nat.le_of_ble_eq_true rfl, Nat.le_of_ble_eq_true rfl⟩ rfl (Nat.le_of_ble_eq_true rfl) ⟨by show c + 1 + 0 + 0 ≤ 601024; omega, by show s + 6 + 0 + 0 ≤ 7293034; omega⟩ vc_X8 kM (T_X8_thrown (G := G) (r9 := gi N3 (B + 908) 0) w0 kM rfl) ?_
      refine x_iload 5 dL_law_803 rfl ?_
      refine x_icmp_eq_t (tgt := 810) dL_law_805 (by decide) (a1.trans (by decide)) ?_
      refine x_iload 5 dL_law_810 rfl ?_
      refine x_if_ne_t (tgt := 827) dL_law_812 (by decide) (by decide) ?_
      refine x_goto (tgt := 1241) dL_law_827 (by decide) ?_
      refine x_sub (L' := [(0, .ref (xSb G)), (1, .ref B), (2, .ref (B + 908)), (3, .ref (B + 925)), (4, .int (nI (6 * t)))]) [0, 1, 2, 3, 4] rfl ?_
      exact kk _ _ _ _ ok g1 (by show c + 1 + 0 + 0 ≤ c + 1; omega) (by show s + 6 + 0 + 0 ≤ s + 6; omega)
    | z + 1, hi, _, _ => exact absurd hi (by simp only [List.length_cons, List.length_nil]; omega)
set_option maxHeartbeats 1000000 in
theorem LC_advise {G : XG} {tb : List ExceptionTableEntry} {nm ds : String} {Y : XY} {N : XN} {B t c s : Nat} (ok : OK9 Y B) (hI : IV B N) (ht : 6 * t + 6 ≤ xSl G) (hN : xSl G ≤ 3072) (hc : c + 1 ≤ 601024) (hs : s + 6 ≤ 7293034) (kk : LK G tb nm ds B t c s) : ExZ G ⟨RL, nm, ds⟩ cL_law 7 ret tb room_1 (law_Z G) c s 830 [(0, .ref (xSb G)), (1, .ref B), (2, .ref (B + 908)), (3, .ref (B + 925)), (4, .int (nI (6 * t)))] [] Y N := by
  obtain ⟨w0, y0, kB, kM, kq, kn9, k14⟩ := id ok
  have i1 := sidx (t := t) (j := 1) (L := xSl G) (by omega) ht hN
  obtain ⟨o, N1, h1, h2⟩ := F_advise y0 hI (xSx G (6 * t + 1))
  cases o with
  | inl r =>
    obtain ⟨v, N3, m1, g1, l1, a1, a2⟩ := h2 (sl N1 (B + 925) 0 r.toInt64) rfl
    have e9 : gl N3 (B + 925) 0 = r.toInt64 := by
      unfold gl
      rw [l1 _ (by omega)]
      exact sl_cell0
    refine x_aload_n 1 dL_law_830 rfl rfl ?_
    refine x_aload_n 0 dL_law_831 rfl rfl ?_
    refine x_iload 4 dL_law_832 rfl ?_
    refine x_iconst (v := nI 1) dL_law_834 (by decide) ?_
    refine x_iadd dL_law_835 ?_
    refine x_scrld i1.1 i1.2 dL_law_836 ?_
    refine x_aload_n 3 dL_law_837 rfl rfl ?_
    refine x_csW (As := [.ref B, .int (xSx G (6 * t + 1)), .ref (B + 925)]) (rest := []) (R' := xR 9 0 0) (zz := yL_advise) dL_law_838 ml_L_118 wt_L_advise wn_L wc_L_advise hp_L_advise ⟨Nat.le_of_ble_eq_true rfl, Nat.le_of_ble_eq_true rfl⟩ rfl (Nat.le_of_ble_eq_true rfl) ⟨by show c + 0 ≤ 601024; omega, by show s + 0 ≤ 7293034; omega⟩ (W_advise (G := G) w0 kB kq kn9 h1) ?_
    refine x_istore (L' := [(0, .ref (xSb G)), (1, .ref B), (2, .ref (B + 908)), (3, .ref (B + 925)), (4, .int (nI (6 * t))), (5, .int 0)]) [1, 2, 3, 4, 5, 0] dL_law_841 (by decide) rfl ?_
    refine x_aload_n 2 dL_law_843 rfl rfl ?_
    refine x_aload_n 0 dL_law_844 rfl rfl ?_
    refine x_iload 4 dL_law_845 rfl ?_
    refine x_iconst (v := nI 1) dL_law_847 (by decide) ?_
    refine x_iadd dL_law_848 ?_
    refine x_scrld i1.1 i1.2 dL_law_849 ?_
    refine x_callV (ci := 8) (b := B + 908) (As := [.int (xSx G (6 * t + 1))]) (rest := []) (R' := xR 11 0 0) (zz := yX8_advise) dL_law_850 ml_L_120 wi_X8_advise wv_X8_advise wn_X8 wc_X8_advise hp_X8_advise ⟨Nat.le_of_ble_eq_true rfl, Nat.le_of_ble_eq_true rfl⟩ rfl (Nat.le_of_ble_eq_true rfl) ⟨by show c + 0 + 0 ≤ 601024; omega, by show s + 0 + 0 ≤ 7293034; omega⟩ vc_X8 kM (T_X8_advise (G := G) w0 kM m1) ?_
    refine x_istore (L' := [(0, .ref (xSb G)), (1, .ref B), (2, .ref (B + 908)), (3, .ref (B + 925)), (4, .int (nI (6 * t))), (5, .int 0), (6, .int v)]) [1, 2, 3, 4, 5, 6, 0] dL_law_853 (by decide) rfl ?_
    refine x_aload_n 2 dL_law_855 rfl rfl ?_
    refine x_callV (ci := 8) (b := B + 908) (As := []) (rest := []) (R' := xR 1 0 0) (zz := yX8_thrown) dL_law_856 ml_L_82 wi_X8_thrown wv_X8_thrown wn_X8 wc_X8_thrown hp_X8_thrown ⟨Nat.le_of_ble_eq_true rfl, Nat.le_of_ble_eq_true rfl⟩ rfl (Nat.le_of_ble_eq_true rfl) ⟨by show c + 0 + 0 + 0 ≤ 601024; omega, by show s + 0 + 0 + 0 ≤ 7293034; omega⟩ vc_X8 kM (T_X8_thrown (G := G) (r9 := gi N3 (B + 908) 0) w0 kM rfl) ?_
    refine x_iload 5 dL_law_859 rfl ?_
    refine x_icmp_eq_t (tgt := 866) dL_law_861 (by decide) (a1.trans (by decide)) ?_
    refine x_iload 5 dL_law_866 rfl ?_
    refine x_if_ne_f (tgt := 883) dL_law_868 (by decide) rfl ?_
    refine x_aload_n 3 dL_law_871 rfl rfl ?_
    refine x_iconst (v := 0) dL_law_872 rfl ?_
    refine x_lald (j9 := 0) dL_law_873 kq (show vp_in 0 (kn Y (B + 925)) by rw [kn9]; exact vp01) rfl ?_
    refine x_iload 6 dL_law_874 rfl ?_
    refine x_i2l dL_law_876 ?_
    refine x_lcmp dL_law_877 ?_
    refine x_if_eq_t (tgt := 883) dL_law_878 (by decide) (lg_cmp0 (e9.trans (congrArg Int32.toInt64 a2))) ?_
    refine x_goto (tgt := 1241) dL_law_883 (by decide) ?_
    refine x_sub (L' := [(0, .ref (xSb G)), (1, .ref B), (2, .ref (B + 908)), (3, .ref (B + 925)), (4, .int (nI (6 * t)))]) [0, 1, 2, 3, 4] rfl ?_
    exact kk _ _ _ _ ok g1 (by show c + 0 + 0 + 0 ≤ c + 1; omega) (by show s + 0 + 0 + 0 ≤ s + 6; omega)
  | inr E =>
    obtain ⟨v, N3, m1, g1, l1, i, hi, hE, a1⟩ := h2 N1 rfl
    match i, hi, hE, a1 with
    | 0, _, hE, a1 =>
      have hE : IOB = E := hE
      subst hE
      refine x_aload_n 1 dL_law_830 rfl rfl ?_
      refine x_aload_n 0 dL_law_831 rfl rfl ?_
      refine x_iload 4 dL_law_832 rfl ?_
      refine x_iconst (v := nI 1) dL_law_834 (by decide) ?_
      refine x_iadd dL_law_835 ?_
      refine x_scrld i1.1 i1.2 dL_law_836 ?_
      refine x_aload_n 3 dL_law_837 rfl rfl ?_
      refine x_csW (As := [.ref B, .int (xSx G (6 * t + 1)), .ref (B + 925)]) (rest := []) (R' := xR 9 1 6) (zz := yL_advise) dL_law_838 ml_L_118 wt_L_advise wn_L wc_L_advise hp_L_advise ⟨Nat.le_of_ble_eq_true rfl, Nat.le_of_ble_eq_true rfl⟩ rfl (Nat.le_of_ble_eq_true rfl) ⟨by show c + 1 ≤ 601024; omega, by show s + 6 ≤ 7293034; omega⟩ (W_advise_x0 (G := G) w0 kB kq kn9 h1) ?_
      refine x_istore (L' := [(0, .ref (xSb G)), (1, .ref B), (2, .ref (B + 908)), (3, .ref (B + 925)), (4, .int (nI (6 * t))), (5, .int 1)]) [1, 2, 3, 4, 5, 0] dL_law_841 (by decide) rfl ?_
      refine x_aload_n 2 dL_law_843 rfl rfl ?_
      refine x_aload_n 0 dL_law_844 rfl rfl ?_
      refine x_iload 4 dL_law_845 rfl ?_
      refine x_iconst (v := nI 1) dL_law_847 (by decide) ?_
      refine x_iadd dL_law_848 ?_
      refine x_scrld i1.1 i1.2 dL_law_849 ?_
      refine x_callV (ci := 8) (b := B + 908) (As := [.int (xSx G (6 * t + 1))]) (rest := []) (R' := xR 11 0 0) (zz := yX8_advise) dL_law_850 ml_L_120 wi_X8_advise wv_X8_advise wn_X8 wc_X8_advise hp_X8_advise ⟨Nat.le_of_ble_eq_true rfl, Nat.le_of_ble_eq_true rfl⟩ rfl (Nat.le_of_ble_eq_true rfl) ⟨by show c + 1 + 0 ≤ 601024; omega, by show s + 6 + 0 ≤ 7293034; omega⟩ vc_X8 kM (T_X8_advise (G := G) w0 kM m1) ?_
      refine x_istore (L' := [(0, .ref (xSb G)), (1, .ref B), (2, .ref (B + 908)), (3, .ref (B + 925)), (4, .int (nI (6 * t))), (5, .int 1), (6, .int v)]) [1, 2, 3, 4, 5, 6, 0] dL_law_853 (by decide) rfl ?_
      refine x_aload_n 2 dL_law_855 rfl rfl ?_
      refine x_callV (ci := 8) (b := B + 908) (As := []) (rest := []) (R' := xR 1 0 0) (zz := yX8_thrown) dL_law_856 ml_L_82 wi_X8_thrown wv_X8_thrown wn_X8 wc_X8_thrown hp_X8_thrown ⟨Nat.le_of_ble_eq_true rfl, Nat.le_of_ble_eq_true rfl⟩ rfl (Nat.le_of_ble_eq_true rfl) ⟨by show c + 1 + 0 + 0 ≤ 601024; omega, by show s + 6 + 0 + 0 ≤ 7293034; omega⟩ vc_X8 kM (T_X8_thrown (G := G) (r9 := gi N3 (B + 908) 0) w0 kM rfl) ?_
      refine x_iload 5 dL_law_859 rfl ?_
      refine x_icmp_eq_t (tgt := 866) dL_law_861 (by decide) (a1.trans (by decide)) ?_
      refine x_iload 5 dL_law_866 rfl ?_
      refine x_if_ne_t (tgt := 883) dL_law_868 (by decide) (by decide) ?_
      refine x_goto (tgt := 1241) dL_law_883 (by decide) ?_
      refine x_sub (L' := [(0, .ref (xSb G)), (1, .ref B), (2, .ref (B + 908)), (3, .ref (B + 925)), (4, .int (nI (6 * t)))]) [0, 1, 2, 3, 4] rfl ?_
      exact kk _ _ _ _ ok g1 (by show c + 1 + 0 + 0 ≤ c + 1; omega) (by show s + 6 + 0 + 0 ≤ s + 6; omega)
    | z + 1, hi, _, _ => exact absurd hi (by simp only [List.length_cons, List.length_nil]; omega)
set_option maxHeartbeats 1000000 in
theorem LC_pass {G : XG} {tb : List ExceptionTableEntry} {nm ds : String} {Y : XY} {N : XN} {B t c s : Nat} (ok : OK9 Y B) (hI : IV B N) (ht : 6 * t + 6 ≤ xSl G) (hN : xSl G ≤ 3072) (hc : c + 1 ≤ 601024) (hs : s + 6 ≤ 7293034) (kk : LK G tb nm ds B t c s) : ExZ G ⟨RL, nm, ds⟩ cL_law 7 ret tb room_1 (law_Z G) c s 886 [(0, .ref (xSb G)), (1, .ref B), (2, .ref (B + 908)), (3, .ref (B + 925)), (4, .int (nI (6 * t)))] [] Y N := by
  obtain ⟨w0, y0, kB, kM, kq, kn9, k14⟩ := id ok
  have i1 := sidx (t := t) (j := 1) (L := xSl G) (by omega) ht hN
  obtain ⟨o, N1, h1, h2⟩ := F_pass y0 hI (xSx G (6 * t + 1))
  cases o with
  | inl r =>
    obtain ⟨v, N3, m1, g1, l1, a1, a2⟩ := h2 (sl N1 (B + 925) 0 r.toInt64) rfl
    have e9 : gl N3 (B + 925) 0 = r.toInt64 := by
      unfold gl
      rw [l1 _ (by omega)]
      exact sl_cell0
    refine x_aload_n 1 dL_law_886 rfl rfl ?_
    refine x_aload_n 0 dL_law_887 rfl rfl ?_
    refine x_iload 4 dL_law_888 rfl ?_
    refine x_iconst (v := nI 1) dL_law_890 (by decide) ?_
    refine x_iadd dL_law_891 ?_
    refine x_scrld i1.1 i1.2 dL_law_892 ?_
    refine x_aload_n 3 dL_law_893 rfl rfl ?_
    refine x_csW (As := [.ref B, .int (xSx G (6 * t + 1)), .ref (B + 925)]) (rest := []) (R' := xR 8 0 0) (zz := yL_pass) dL_law_894 ml_L_121 wt_L_pass wn_L wc_L_pass hp_L_pass ⟨Nat.le_of_ble_eq_true rfl, Nat.le_of_ble_eq_true rfl⟩ rfl (Nat.le_of_ble_eq_true rfl) ⟨by show c + 0 ≤ 601024; omega, by show s + 0 ≤ 7293034; omega⟩ (W_pass (G := G) w0 kB kq kn9 h1) ?_
    refine x_istore (L' := [(0, .ref (xSb G)), (1, .ref B), (2, .ref (B + 908)), (3, .ref (B + 925)), (4, .int (nI (6 * t))), (5, .int 0)]) [1, 2, 3, 4, 5, 0] dL_law_897 (by decide) rfl ?_
    refine x_aload_n 2 dL_law_899 rfl rfl ?_
    refine x_aload_n 0 dL_law_900 rfl rfl ?_
    refine x_iload 4 dL_law_901 rfl ?_
    refine x_iconst (v := nI 1) dL_law_903 (by decide) ?_
    refine x_iadd dL_law_904 ?_
    refine x_scrld i1.1 i1.2 dL_law_905 ?_
    refine x_callV (ci := 8) (b := B + 908) (As := [.int (xSx G (6 * t + 1))]) (rest := []) (R' := xR 10 0 0) (zz := yX8_pass) dL_law_906 ml_L_123 wi_X8_pass wv_X8_pass wn_X8 wc_X8_pass hp_X8_pass ⟨Nat.le_of_ble_eq_true rfl, Nat.le_of_ble_eq_true rfl⟩ rfl (Nat.le_of_ble_eq_true rfl) ⟨by show c + 0 + 0 ≤ 601024; omega, by show s + 0 + 0 ≤ 7293034; omega⟩ vc_X8 kM (T_X8_pass (G := G) w0 kM m1) ?_
    refine x_istore (L' := [(0, .ref (xSb G)), (1, .ref B), (2, .ref (B + 908)), (3, .ref (B + 925)), (4, .int (nI (6 * t))), (5, .int 0), (6, .int v)]) [1, 2, 3, 4, 5, 6, 0] dL_law_909 (by decide) rfl ?_
    refine x_aload_n 2 dL_law_911 rfl rfl ?_
    refine x_callV (ci := 8) (b := B + 908) (As := []) (rest := []) (R' := xR 1 0 0) (zz := yX8_thrown) dL_law_912 ml_L_82 wi_X8_thrown wv_X8_thrown wn_X8 wc_X8_thrown hp_X8_thrown ⟨Nat.le_of_ble_eq_true rfl, Nat.le_of_ble_eq_true rfl⟩ rfl (Nat.le_of_ble_eq_true rfl) ⟨by show c + 0 + 0 + 0 ≤ 601024; omega, by show s + 0 + 0 + 0 ≤ 7293034; omega⟩ vc_X8 kM (T_X8_thrown (G := G) (r9 := gi N3 (B + 908) 0) w0 kM rfl) ?_
    refine x_iload 5 dL_law_915 rfl ?_
    refine x_icmp_eq_t (tgt := 922) dL_law_917 (by decide) (a1.trans (by decide)) ?_
    refine x_iload 5 dL_law_922 rfl ?_
    refine x_if_ne_f (tgt := 939) dL_law_924 (by decide) rfl ?_
    refine x_aload_n 3 dL_law_927 rfl rfl ?_
    refine x_iconst (v := 0) dL_law_928 rfl ?_
    refine x_lald (j9 := 0) dL_law_929 kq (show vp_in 0 (kn Y (B + 925)) by rw [kn9]; exact vp01) rfl ?_
    refine x_iload 6 dL_law_930 rfl ?_
    refine x_i2l dL_law_932 ?_
    refine x_lcmp dL_law_933 ?_
    refine x_if_eq_t (tgt := 939) dL_law_934 (by decide) (lg_cmp0 (e9.trans (congrArg Int32.toInt64 a2))) ?_
    refine x_goto (tgt := 1241) dL_law_939 (by decide) ?_
    refine x_sub (L' := [(0, .ref (xSb G)), (1, .ref B), (2, .ref (B + 908)), (3, .ref (B + 925)), (4, .int (nI (6 * t)))]) [0, 1, 2, 3, 4] rfl ?_
    exact kk _ _ _ _ ok g1 (by show c + 0 + 0 + 0 ≤ c + 1; omega) (by show s + 0 + 0 + 0 ≤ s + 6; omega)
  | inr E =>
    obtain ⟨v, N3, m1, g1, l1, i, hi, hE, a1⟩ := h2 N1 rfl
    match i, hi, hE, a1 with
    | 0, _, hE, a1 =>
      have hE : IAE = E := hE
      subst hE
      refine x_aload_n 1 dL_law_886 rfl rfl ?_
      refine x_aload_n 0 dL_law_887 rfl rfl ?_
      refine x_iload 4 dL_law_888 rfl ?_
      refine x_iconst (v := nI 1) dL_law_890 (by decide) ?_
      refine x_iadd dL_law_891 ?_
      refine x_scrld i1.1 i1.2 dL_law_892 ?_
      refine x_aload_n 3 dL_law_893 rfl rfl ?_
      refine x_csW (As := [.ref B, .int (xSx G (6 * t + 1)), .ref (B + 925)]) (rest := []) (R' := xR 8 1 6) (zz := yL_pass) dL_law_894 ml_L_121 wt_L_pass wn_L wc_L_pass hp_L_pass ⟨Nat.le_of_ble_eq_true rfl, Nat.le_of_ble_eq_true rfl⟩ rfl (Nat.le_of_ble_eq_true rfl) ⟨by show c + 1 ≤ 601024; omega, by show s + 6 ≤ 7293034; omega⟩ (W_pass_x0 (G := G) w0 kB kq kn9 h1) ?_
      refine x_istore (L' := [(0, .ref (xSb G)), (1, .ref B), (2, .ref (B + 908)), (3, .ref (B + 925)), (4, .int (nI (6 * t))), (5, .int 1)]) [1, 2, 3, 4, 5, 0] dL_law_897 (by decide) rfl ?_
      refine x_aload_n 2 dL_law_899 rfl rfl ?_
      refine x_aload_n 0 dL_law_900 rfl rfl ?_
      refine x_iload 4 dL_law_901 rfl ?_
      refine x_iconst (v := nI 1) dL_law_903 (by decide) ?_
      refine x_iadd dL_law_904 ?_
      refine x_scrld i1.1 i1.2 dL_law_905 ?_
      refine x_callV (ci := 8) (b := B + 908) (As := [.int (xSx G (6 * t + 1))]) (rest := []) (R' := xR 10 0 0) (zz := yX8_pass) dL_law_906 ml_L_123 wi_X8_pass wv_X8_pass wn_X8 wc_X8_pass hp_X8_pass ⟨Nat.le_of_ble_eq_true rfl, Nat.le_of_ble_eq_true rfl⟩ rfl (Nat.le_of_ble_eq_true rfl) ⟨by show c + 1 + 0 ≤ 601024; omega, by show s + 6 + 0 ≤ 7293034; omega⟩ vc_X8 kM (T_X8_pass (G := G) w0 kM m1) ?_
      refine x_istore (L' := [(0, .ref (xSb G)), (1, .ref B), (2, .ref (B + 908)), (3, .ref (B + 925)), (4, .int (nI (6 * t))), (5, .int 1), (6, .int v)]) [1, 2, 3, 4, 5, 6, 0] dL_law_909 (by decide) rfl ?_
      refine x_aload_n 2 dL_law_911 rfl rfl ?_
      refine x_callV (ci := 8) (b := B + 908) (As := []) (rest := []) (R' := xR 1 0 0) (zz := yX8_thrown) dL_law_912 ml_L_82 wi_X8_thrown wv_X8_thrown wn_X8 wc_X8_thrown hp_X8_thrown ⟨Nat.le_of_ble_eq_true rfl, Nat.le_of_ble_eq_true rfl⟩ rfl (Nat.le_of_ble_eq_true rfl) ⟨by show c + 1 + 0 + 0 ≤ 601024; omega, by show s + 6 + 0 + 0 ≤ 7293034; omega⟩ vc_X8 kM (T_X8_thrown (G := G) (r9 := gi N3 (B + 908) 0) w0 kM rfl) ?_
      refine x_iload 5 dL_law_915 rfl ?_
      refine x_icmp_eq_t (tgt := 922) dL_law_917 (by decide) (a1.trans (by decide)) ?_
      refine x_iload 5 dL_law_922 rfl ?_
      refine x_if_ne_t (tgt := 939) dL_law_924 (by decide) (by decide) ?_
      refine x_goto (tgt := 1241) dL_law_939 (by decide) ?_
      refine x_sub (L' := [(0, .ref (xSb G)), (1, .ref B), (2, .ref (B + 908)), (3, .ref (B + 925)), (4, .int (nI (6 * t)))]) [0, 1, 2, 3, 4] rfl ?_
      exact kk _ _ _ _ ok g1 (by show c + 1 + 0 + 0 ≤ c + 1; omega) (by show s + 6 + 0 + 0 ≤ s + 6; omega)
    | z + 1, hi, _, _ => exact absurd hi (by simp only [List.length_cons, List.length_nil]; omega)
set_option maxHeartbeats 1000000 in
theorem LC_raise {G : XG} {tb : List ExceptionTableEntry} {nm ds : String} {Y : XY} {N : XN} {B t c s : Nat} (ok : OK9 Y B) (hI : IV B N) (ht : 6 * t + 6 ≤ xSl G) (hN : xSl G ≤ 3072) (hc : c + 1 ≤ 601024) (hs : s + 6 ≤ 7293034) (kk : LK G tb nm ds B t c s) : ExZ G ⟨RL, nm, ds⟩ cL_law 7 ret tb room_1 (law_Z G) c s 942 [(0, .ref (xSb G)), (1, .ref B), (2, .ref (B + 908)), (3, .ref (B + 925)), (4, .int (nI (6 * t)))] [] Y N := by
  obtain ⟨w0, y0, kB, kM, kq, kn9, k14⟩ := id ok
  have i1 := sidx (t := t) (j := 1) (L := xSl G) (by omega) ht hN
  have i2 := sidx (t := t) (j := 2) (L := xSl G) (by omega) ht hN
  obtain ⟨o, N1, h1, h2⟩ := F_raise y0 hI (xSx G (6 * t + 1)) (xSx G (6 * t + 2))
  cases o with
  | inl r =>
    obtain ⟨v, N3, m1, g1, l1, a1, a2⟩ := h2 (sl N1 (B + 925) 0 r.toInt64) rfl
    have e9 : gl N3 (B + 925) 0 = r.toInt64 := by
      unfold gl
      rw [l1 _ (by omega)]
      exact sl_cell0
    refine x_aload_n 1 dL_law_942 rfl rfl ?_
    refine x_aload_n 0 dL_law_943 rfl rfl ?_
    refine x_iload 4 dL_law_944 rfl ?_
    refine x_iconst (v := nI 1) dL_law_946 (by decide) ?_
    refine x_iadd dL_law_947 ?_
    refine x_scrld i1.1 i1.2 dL_law_948 ?_
    refine x_aload_n 0 dL_law_949 rfl rfl ?_
    refine x_iload 4 dL_law_950 rfl ?_
    refine x_iconst (v := nI 2) dL_law_952 (by decide) ?_
    refine x_iadd dL_law_953 ?_
    refine x_scrld i2.1 i2.2 dL_law_954 ?_
    refine x_aload_n 3 dL_law_955 rfl rfl ?_
    refine x_csW (As := [.ref B, .int (xSx G (6 * t + 1)), .int (xSx G (6 * t + 2)), .ref (B + 925)]) (rest := []) (R' := xR 8 0 0) (zz := yL_raise) dL_law_956 ml_L_124 wt_L_raise wn_L wc_L_raise hp_L_raise ⟨Nat.le_of_ble_eq_true rfl, Nat.le_of_ble_eq_true rfl⟩ rfl (Nat.le_of_ble_eq_true rfl) ⟨by show c + 0 ≤ 601024; omega, by show s + 0 ≤ 7293034; omega⟩ (W_raise (G := G) w0 kB kq kn9 h1) ?_
    refine x_istore (L' := [(0, .ref (xSb G)), (1, .ref B), (2, .ref (B + 908)), (3, .ref (B + 925)), (4, .int (nI (6 * t))), (5, .int 0)]) [1, 2, 3, 4, 5, 0] dL_law_959 (by decide) rfl ?_
    refine x_aload_n 2 dL_law_961 rfl rfl ?_
    refine x_aload_n 0 dL_law_962 rfl rfl ?_
    refine x_iload 4 dL_law_963 rfl ?_
    refine x_iconst (v := nI 1) dL_law_965 (by decide) ?_
    refine x_iadd dL_law_966 ?_
    refine x_scrld i1.1 i1.2 dL_law_967 ?_
    refine x_aload_n 0 dL_law_968 rfl rfl ?_
    refine x_iload 4 dL_law_969 rfl ?_
    refine x_iconst (v := nI 2) dL_law_971 (by decide) ?_
    refine x_iadd dL_law_972 ?_
    refine x_scrld i2.1 i2.2 dL_law_973 ?_
    refine x_callV (ci := 8) (b := B + 908) (As := [.int (xSx G (6 * t + 1)), .int (xSx G (6 * t + 2))]) (rest := []) (R' := xR 8 0 0) (zz := yX8_raise) dL_law_974 ml_L_126 wi_X8_raise wv_X8_raise wn_X8 wc_X8_raise hp_X8_raise ⟨Nat.le_of_ble_eq_true rfl, Nat.le_of_ble_eq_true rfl⟩ rfl (Nat.le_of_ble_eq_true rfl) ⟨by show c + 0 + 0 ≤ 601024; omega, by show s + 0 + 0 ≤ 7293034; omega⟩ vc_X8 kM (T_X8_raise (G := G) w0 kM m1) ?_
    refine x_istore (L' := [(0, .ref (xSb G)), (1, .ref B), (2, .ref (B + 908)), (3, .ref (B + 925)), (4, .int (nI (6 * t))), (5, .int 0), (6, .int v)]) [1, 2, 3, 4, 5, 6, 0] dL_law_977 (by decide) rfl ?_
    refine x_aload_n 2 dL_law_979 rfl rfl ?_
    refine x_callV (ci := 8) (b := B + 908) (As := []) (rest := []) (R' := xR 1 0 0) (zz := yX8_thrown) dL_law_980 ml_L_82 wi_X8_thrown wv_X8_thrown wn_X8 wc_X8_thrown hp_X8_thrown ⟨Nat.le_of_ble_eq_true rfl, Nat.le_of_ble_eq_true rfl⟩ rfl (Nat.le_of_ble_eq_true rfl) ⟨by show c + 0 + 0 + 0 ≤ 601024; omega, by show s + 0 + 0 + 0 ≤ 7293034; omega⟩ vc_X8 kM (T_X8_thrown (G := G) (r9 := gi N3 (B + 908) 0) w0 kM rfl) ?_
    refine x_iload 5 dL_law_983 rfl ?_
    refine x_icmp_eq_t (tgt := 990) dL_law_985 (by decide) (a1.trans (by decide)) ?_
    refine x_iload 5 dL_law_990 rfl ?_
    refine x_if_ne_f (tgt := 1007) dL_law_992 (by decide) rfl ?_
    refine x_aload_n 3 dL_law_995 rfl rfl ?_
    refine x_iconst (v := 0) dL_law_996 rfl ?_
    refine x_lald (j9 := 0) dL_law_997 kq (show vp_in 0 (kn Y (B + 925)) by rw [kn9]; exact vp01) rfl ?_
    refine x_iload 6 dL_law_998 rfl ?_
    refine x_i2l dL_law_1000 ?_
    refine x_lcmp dL_law_1001 ?_
    refine x_if_eq_t (tgt := 1007) dL_law_1002 (by decide) (lg_cmp0 (e9.trans (congrArg Int32.toInt64 a2))) ?_
    refine x_goto (tgt := 1241) dL_law_1007 (by decide) ?_
    refine x_sub (L' := [(0, .ref (xSb G)), (1, .ref B), (2, .ref (B + 908)), (3, .ref (B + 925)), (4, .int (nI (6 * t)))]) [0, 1, 2, 3, 4] rfl ?_
    exact kk _ _ _ _ ok g1 (by show c + 0 + 0 + 0 ≤ c + 1; omega) (by show s + 0 + 0 + 0 ≤ s + 6; omega)
  | inr E =>
    obtain ⟨v, N3, m1, g1, l1, i, hi, hE, a1⟩ := h2 N1 rfl
    match i, hi, hE, a1 with
    | 0, _, hE, a1 =>
      have hE : IOB = E := hE
      subst hE
      refine x_aload_n 1 dL_law_942 rfl rfl ?_
      refine x_aload_n 0 dL_law_943 rfl rfl ?_
      refine x_iload 4 dL_law_944 rfl ?_
      refine x_iconst (v := nI 1) dL_law_946 (by decide) ?_
      refine x_iadd dL_law_947 ?_
      refine x_scrld i1.1 i1.2 dL_law_948 ?_
      refine x_aload_n 0 dL_law_949 rfl rfl ?_
      refine x_iload 4 dL_law_950 rfl ?_
      refine x_iconst (v := nI 2) dL_law_952 (by decide) ?_
      refine x_iadd dL_law_953 ?_
      refine x_scrld i2.1 i2.2 dL_law_954 ?_
      refine x_aload_n 3 dL_law_955 rfl rfl ?_
      refine x_csW (As := [.ref B, .int (xSx G (6 * t + 1)), .int (xSx G (6 * t + 2)), .ref (B + 925)]) (rest := []) (R' := xR 8 1 6) (zz := yL_raise) dL_law_956 ml_L_124 wt_L_raise wn_L wc_L_raise hp_L_raise ⟨Nat.le_of_ble_eq_true rfl, Nat.le_of_ble_eq_true rfl⟩ rfl (Nat.le_of_ble_eq_true rfl) ⟨by show c + 1 ≤ 601024; omega, by show s + 6 ≤ 7293034; omega⟩ (W_raise_x0 (G := G) w0 kB kq kn9 h1) ?_
      refine x_istore (L' := [(0, .ref (xSb G)), (1, .ref B), (2, .ref (B + 908)), (3, .ref (B + 925)), (4, .int (nI (6 * t))), (5, .int 1)]) [1, 2, 3, 4, 5, 0] dL_law_959 (by decide) rfl ?_
      refine x_aload_n 2 dL_law_961 rfl rfl ?_
      refine x_aload_n 0 dL_law_962 rfl rfl ?_
      refine x_iload 4 dL_law_963 rfl ?_
      refine x_iconst (v := nI 1) dL_law_965 (by decide) ?_
      refine x_iadd dL_law_966 ?_
      refine x_scrld i1.1 i1.2 dL_law_967 ?_
      refine x_aload_n 0 dL_law_968 rfl rfl ?_
      refine x_iload 4 dL_law_969 rfl ?_
      refine x_iconst (v := nI 2) dL_law_971 (by decide) ?_
      refine x_iadd dL_law_972 ?_
      refine x_scrld i2.1 i2.2 dL_law_973 ?_
      refine x_callV (ci := 8) (b := B + 908) (As := [.int (xSx G (6 * t + 1)), .int (xSx G (6 * t + 2))]) (rest := []) (R' := xR 8 0 0) (zz := yX8_raise) dL_law_974 ml_L_126 wi_X8_raise wv_X8_raise wn_X8 wc_X8_raise hp_X8_raise ⟨Nat.le_of_ble_eq_true rfl, Nat.le_of_ble_eq_true rfl⟩ rfl (Nat.le_of_ble_eq_true rfl) ⟨by show c + 1 + 0 ≤ 601024; omega, by show s + 6 + 0 ≤ 7293034; omega⟩ vc_X8 kM (T_X8_raise (G := G) w0 kM m1) ?_
      refine x_istore (L' := [(0, .ref (xSb G)), (1, .ref B), (2, .ref (B + 908)), (3, .ref (B + 925)), (4, .int (nI (6 * t))), (5, .int 1), (6, .int v)]) [1, 2, 3, 4, 5, 6, 0] dL_law_977 (by decide) rfl ?_
      refine x_aload_n 2 dL_law_979 rfl rfl ?_
      refine x_callV (ci := 8) (b := B + 908) (As := []) (rest := []) (R' := xR 1 0 0) (zz := yX8_thrown) dL_law_980 ml_L_82 wi_X8_thrown wv_X8_thrown wn_X8 wc_X8_thrown hp_X8_thrown ⟨Nat.le_of_ble_eq_true rfl, Nat.le_of_ble_eq_true rfl⟩ rfl (Nat.le_of_ble_eq_true rfl) ⟨by show c + 1 + 0 + 0 ≤ 601024; omega, by show s + 6 + 0 + 0 ≤ 7293034; omega⟩ vc_X8 kM (T_X8_thrown (G := G) (r9 := gi N3 (B + 908) 0) w0 kM rfl) ?_
      refine x_iload 5 dL_law_983 rfl ?_
      refine x_icmp_eq_t (tgt := 990) dL_law_985 (by decide) (a1.trans (by decide)) ?_
      refine x_iload 5 dL_law_990 rfl ?_
      refine x_if_ne_t (tgt := 1007) dL_law_992 (by decide) (by decide) ?_
      refine x_goto (tgt := 1241) dL_law_1007 (by decide) ?_
      refine x_sub (L' := [(0, .ref (xSb G)), (1, .ref B), (2, .ref (B + 908)), (3, .ref (B + 925)), (4, .int (nI (6 * t)))]) [0, 1, 2, 3, 4] rfl ?_
      exact kk _ _ _ _ ok g1 (by show c + 1 + 0 + 0 ≤ c + 1; omega) (by show s + 6 + 0 + 0 ≤ s + 6; omega)
    | 1, _, hE, a1 =>
      have hE : IAE = E := hE
      subst hE
      refine x_aload_n 1 dL_law_942 rfl rfl ?_
      refine x_aload_n 0 dL_law_943 rfl rfl ?_
      refine x_iload 4 dL_law_944 rfl ?_
      refine x_iconst (v := nI 1) dL_law_946 (by decide) ?_
      refine x_iadd dL_law_947 ?_
      refine x_scrld i1.1 i1.2 dL_law_948 ?_
      refine x_aload_n 0 dL_law_949 rfl rfl ?_
      refine x_iload 4 dL_law_950 rfl ?_
      refine x_iconst (v := nI 2) dL_law_952 (by decide) ?_
      refine x_iadd dL_law_953 ?_
      refine x_scrld i2.1 i2.2 dL_law_954 ?_
      refine x_aload_n 3 dL_law_955 rfl rfl ?_
      refine x_csW (As := [.ref B, .int (xSx G (6 * t + 1)), .int (xSx G (6 * t + 2)), .ref (B + 925)]) (rest := []) (R' := xR 8 1 6) (zz := yL_raise) dL_law_956 ml_L_124 wt_L_raise wn_L wc_L_raise hp_L_raise ⟨Nat.le_of_ble_eq_true rfl, Nat.le_of_ble_eq_true rfl⟩ rfl (Nat.le_of_ble_eq_true rfl) ⟨by show c + 1 ≤ 601024; omega, by show s + 6 ≤ 7293034; omega⟩ (W_raise_x1 (G := G) w0 kB kq kn9 h1) ?_
      refine x_istore (L' := [(0, .ref (xSb G)), (1, .ref B), (2, .ref (B + 908)), (3, .ref (B + 925)), (4, .int (nI (6 * t))), (5, .int 2)]) [1, 2, 3, 4, 5, 0] dL_law_959 (by decide) rfl ?_
      refine x_aload_n 2 dL_law_961 rfl rfl ?_
      refine x_aload_n 0 dL_law_962 rfl rfl ?_
      refine x_iload 4 dL_law_963 rfl ?_
      refine x_iconst (v := nI 1) dL_law_965 (by decide) ?_
      refine x_iadd dL_law_966 ?_
      refine x_scrld i1.1 i1.2 dL_law_967 ?_
      refine x_aload_n 0 dL_law_968 rfl rfl ?_
      refine x_iload 4 dL_law_969 rfl ?_
      refine x_iconst (v := nI 2) dL_law_971 (by decide) ?_
      refine x_iadd dL_law_972 ?_
      refine x_scrld i2.1 i2.2 dL_law_973 ?_
      refine x_callV (ci := 8) (b := B + 908) (As := [.int (xSx G (6 * t + 1)), .int (xSx G (6 * t + 2))]) (rest := []) (R' := xR 8 0 0) (zz := yX8_raise) dL_law_974 ml_L_126 wi_X8_raise wv_X8_raise wn_X8 wc_X8_raise hp_X8_raise ⟨Nat.le_of_ble_eq_true rfl, Nat.le_of_ble_eq_true rfl⟩ rfl (Nat.le_of_ble_eq_true rfl) ⟨by show c + 1 + 0 ≤ 601024; omega, by show s + 6 + 0 ≤ 7293034; omega⟩ vc_X8 kM (T_X8_raise (G := G) w0 kM m1) ?_
      refine x_istore (L' := [(0, .ref (xSb G)), (1, .ref B), (2, .ref (B + 908)), (3, .ref (B + 925)), (4, .int (nI (6 * t))), (5, .int 2), (6, .int v)]) [1, 2, 3, 4, 5, 6, 0] dL_law_977 (by decide) rfl ?_
      refine x_aload_n 2 dL_law_979 rfl rfl ?_
      refine x_callV (ci := 8) (b := B + 908) (As := []) (rest := []) (R' := xR 1 0 0) (zz := yX8_thrown) dL_law_980 ml_L_82 wi_X8_thrown wv_X8_thrown wn_X8 wc_X8_thrown hp_X8_thrown ⟨Nat.le_of_ble_eq_true rfl, Nat.le_of_ble_eq_true rfl⟩ rfl (Nat.le_of_ble_eq_true rfl) ⟨by show c + 1 + 0 + 0 ≤ 601024; omega, by show s + 6 + 0 + 0 ≤ 7293034; omega⟩ vc_X8 kM (T_X8_thrown (G := G) (r9 := gi N3 (B + 908) 0) w0 kM rfl) ?_
      refine x_iload 5 dL_law_983 rfl ?_
      refine x_icmp_eq_t (tgt := 990) dL_law_985 (by decide) (a1.trans (by decide)) ?_
      refine x_iload 5 dL_law_990 rfl ?_
      refine x_if_ne_t (tgt := 1007) dL_law_992 (by decide) (by decide) ?_
      refine x_goto (tgt := 1241) dL_law_1007 (by decide) ?_
      refine x_sub (L' := [(0, .ref (xSb G)), (1, .ref B), (2, .ref (B + 908)), (3, .ref (B + 925)), (4, .int (nI (6 * t)))]) [0, 1, 2, 3, 4] rfl ?_
      exact kk _ _ _ _ ok g1 (by show c + 1 + 0 + 0 ≤ c + 1; omega) (by show s + 6 + 0 + 0 ≤ s + 6; omega)
    | 2, _, hE, a1 =>
      have hE : ISE = E := hE
      subst hE
      refine x_aload_n 1 dL_law_942 rfl rfl ?_
      refine x_aload_n 0 dL_law_943 rfl rfl ?_
      refine x_iload 4 dL_law_944 rfl ?_
      refine x_iconst (v := nI 1) dL_law_946 (by decide) ?_
      refine x_iadd dL_law_947 ?_
      refine x_scrld i1.1 i1.2 dL_law_948 ?_
      refine x_aload_n 0 dL_law_949 rfl rfl ?_
      refine x_iload 4 dL_law_950 rfl ?_
      refine x_iconst (v := nI 2) dL_law_952 (by decide) ?_
      refine x_iadd dL_law_953 ?_
      refine x_scrld i2.1 i2.2 dL_law_954 ?_
      refine x_aload_n 3 dL_law_955 rfl rfl ?_
      refine x_csW (As := [.ref B, .int (xSx G (6 * t + 1)), .int (xSx G (6 * t + 2)), .ref (B + 925)]) (rest := []) (R' := xR 8 1 6) (zz := yL_raise) dL_law_956 ml_L_124 wt_L_raise wn_L wc_L_raise hp_L_raise ⟨Nat.le_of_ble_eq_true rfl, Nat.le_of_ble_eq_true rfl⟩ rfl (Nat.le_of_ble_eq_true rfl) ⟨by show c + 1 ≤ 601024; omega, by show s + 6 ≤ 7293034; omega⟩ (W_raise_x2 (G := G) w0 kB kq kn9 h1) ?_
      refine x_istore (L' := [(0, .ref (xSb G)), (1, .ref B), (2, .ref (B + 908)), (3, .ref (B + 925)), (4, .int (nI (6 * t))), (5, .int 3)]) [1, 2, 3, 4, 5, 0] dL_law_959 (by decide) rfl ?_
      refine x_aload_n 2 dL_law_961 rfl rfl ?_
      refine x_aload_n 0 dL_law_962 rfl rfl ?_
      refine x_iload 4 dL_law_963 rfl ?_
      refine x_iconst (v := nI 1) dL_law_965 (by decide) ?_
      refine x_iadd dL_law_966 ?_
      refine x_scrld i1.1 i1.2 dL_law_967 ?_
      refine x_aload_n 0 dL_law_968 rfl rfl ?_
      refine x_iload 4 dL_law_969 rfl ?_
      refine x_iconst (v := nI 2) dL_law_971 (by decide) ?_
      refine x_iadd dL_law_972 ?_
      refine x_scrld i2.1 i2.2 dL_law_973 ?_
      refine x_callV (ci := 8) (b := B + 908) (As := [.int (xSx G (6 * t + 1)), .int (xSx G (6 * t + 2))]) (rest := []) (R' := xR 8 0 0) (zz := yX8_raise) dL_law_974 ml_L_126 wi_X8_raise wv_X8_raise wn_X8 wc_X8_raise hp_X8_raise ⟨Nat.le_of_ble_eq_true rfl, Nat.le_of_ble_eq_true rfl⟩ rfl (Nat.le_of_ble_eq_true rfl) ⟨by show c + 1 + 0 ≤ 601024; omega, by show s + 6 + 0 ≤ 7293034; omega⟩ vc_X8 kM (T_X8_raise (G := G) w0 kM m1) ?_
      refine x_istore (L' := [(0, .ref (xSb G)), (1, .ref B), (2, .ref (B + 908)), (3, .ref (B + 925)), (4, .int (nI (6 * t))), (5, .int 3), (6, .int v)]) [1, 2, 3, 4, 5, 6, 0] dL_law_977 (by decide) rfl ?_
      refine x_aload_n 2 dL_law_979 rfl rfl ?_
      refine x_callV (ci := 8) (b := B + 908) (As := []) (rest := []) (R' := xR 1 0 0) (zz := yX8_thrown) dL_law_980 ml_L_82 wi_X8_thrown wv_X8_thrown wn_X8 wc_X8_thrown hp_X8_thrown ⟨Nat.le_of_ble_eq_true rfl, Nat.le_of_ble_eq_true rfl⟩ rfl (Nat.le_of_ble_eq_true rfl) ⟨by show c + 1 + 0 + 0 ≤ 601024; omega, by show s + 6 + 0 + 0 ≤ 7293034; omega⟩ vc_X8 kM (T_X8_thrown (G := G) (r9 := gi N3 (B + 908) 0) w0 kM rfl) ?_
      refine x_iload 5 dL_law_983 rfl ?_
      refine x_icmp_eq_t (tgt := 990) dL_law_985 (by decide) (a1.trans (by decide)) ?_
      refine x_iload 5 dL_law_990 rfl ?_
      refine x_if_ne_t (tgt := 1007) dL_law_992 (by decide) (by decide) ?_
      refine x_goto (tgt := 1241) dL_law_1007 (by decide) ?_
      refine x_sub (L' := [(0, .ref (xSb G)), (1, .ref B), (2, .ref (B + 908)), (3, .ref (B + 925)), (4, .int (nI (6 * t)))]) [0, 1, 2, 3, 4] rfl ?_
      exact kk _ _ _ _ ok g1 (by show c + 1 + 0 + 0 ≤ c + 1; omega) (by show s + 6 + 0 + 0 ≤ s + 6; omega)
    | z + 3, hi, _, _ => exact absurd hi (by simp only [List.length_cons, List.length_nil]; omega)
set_option maxHeartbeats 1000000 in
theorem LC_lease {G : XG} {tb : List ExceptionTableEntry} {nm ds : String} {Y : XY} {N : XN} {B t c s : Nat} (ok : OK9 Y B) (hI : IV B N) (ht : 6 * t + 6 ≤ xSl G) (hN : xSl G ≤ 3072) (hc : c + 1 ≤ 601024) (hs : s + 6 ≤ 7293034) (kk : LK G tb nm ds B t c s) : ExZ G ⟨RL, nm, ds⟩ cL_law 7 ret tb room_1 (law_Z G) c s 1010 [(0, .ref (xSb G)), (1, .ref B), (2, .ref (B + 908)), (3, .ref (B + 925)), (4, .int (nI (6 * t)))] [] Y N := by
  obtain ⟨w0, y0, kB, kM, kq, kn9, k14⟩ := id ok
  have i1 := sidx (t := t) (j := 1) (L := xSl G) (by omega) ht hN
  have i2 := sidx (t := t) (j := 2) (L := xSl G) (by omega) ht hN
  obtain ⟨o, N1, h1, h2⟩ := F_lease y0 hI (xSx G (6 * t + 1)) (xSx G (6 * t + 2))
  cases o with
  | inl r =>
    obtain ⟨v, N3, m1, g1, l1, a1, a2⟩ := h2 (sl N1 (B + 925) 0 r.toInt64) rfl
    have e9 : gl N3 (B + 925) 0 = r.toInt64 := by
      unfold gl
      rw [l1 _ (by omega)]
      exact sl_cell0
    refine x_aload_n 1 dL_law_1010 rfl rfl ?_
    refine x_aload_n 0 dL_law_1011 rfl rfl ?_
    refine x_iload 4 dL_law_1012 rfl ?_
    refine x_iconst (v := nI 1) dL_law_1014 (by decide) ?_
    refine x_iadd dL_law_1015 ?_
    refine x_scrld i1.1 i1.2 dL_law_1016 ?_
    refine x_aload_n 0 dL_law_1017 rfl rfl ?_
    refine x_iload 4 dL_law_1018 rfl ?_
    refine x_iconst (v := nI 2) dL_law_1020 (by decide) ?_
    refine x_iadd dL_law_1021 ?_
    refine x_scrld i2.1 i2.2 dL_law_1022 ?_
    refine x_aload_n 3 dL_law_1023 rfl rfl ?_
    refine x_csW (As := [.ref B, .int (xSx G (6 * t + 1)), .int (xSx G (6 * t + 2)), .ref (B + 925)]) (rest := []) (R' := xR 8 0 0) (zz := yL_lease) dL_law_1024 ml_L_127 wt_L_lease wn_L wc_L_lease hp_L_lease ⟨Nat.le_of_ble_eq_true rfl, Nat.le_of_ble_eq_true rfl⟩ rfl (Nat.le_of_ble_eq_true rfl) ⟨by show c + 0 ≤ 601024; omega, by show s + 0 ≤ 7293034; omega⟩ (W_lease (G := G) w0 kB kq kn9 h1) ?_
    refine x_istore (L' := [(0, .ref (xSb G)), (1, .ref B), (2, .ref (B + 908)), (3, .ref (B + 925)), (4, .int (nI (6 * t))), (5, .int 0)]) [1, 2, 3, 4, 5, 0] dL_law_1027 (by decide) rfl ?_
    refine x_aload_n 2 dL_law_1029 rfl rfl ?_
    refine x_aload_n 0 dL_law_1030 rfl rfl ?_
    refine x_iload 4 dL_law_1031 rfl ?_
    refine x_iconst (v := nI 1) dL_law_1033 (by decide) ?_
    refine x_iadd dL_law_1034 ?_
    refine x_scrld i1.1 i1.2 dL_law_1035 ?_
    refine x_aload_n 0 dL_law_1036 rfl rfl ?_
    refine x_iload 4 dL_law_1037 rfl ?_
    refine x_iconst (v := nI 2) dL_law_1039 (by decide) ?_
    refine x_iadd dL_law_1040 ?_
    refine x_scrld i2.1 i2.2 dL_law_1041 ?_
    refine x_callV (ci := 8) (b := B + 908) (As := [.int (xSx G (6 * t + 1)), .int (xSx G (6 * t + 2))]) (rest := []) (R' := xR 8 0 0) (zz := yX8_lease) dL_law_1042 ml_L_129 wi_X8_lease wv_X8_lease wn_X8 wc_X8_lease hp_X8_lease ⟨Nat.le_of_ble_eq_true rfl, Nat.le_of_ble_eq_true rfl⟩ rfl (Nat.le_of_ble_eq_true rfl) ⟨by show c + 0 + 0 ≤ 601024; omega, by show s + 0 + 0 ≤ 7293034; omega⟩ vc_X8 kM (T_X8_lease (G := G) w0 kM m1) ?_
    refine x_istore (L' := [(0, .ref (xSb G)), (1, .ref B), (2, .ref (B + 908)), (3, .ref (B + 925)), (4, .int (nI (6 * t))), (5, .int 0), (6, .int v)]) [1, 2, 3, 4, 5, 6, 0] dL_law_1045 (by decide) rfl ?_
    refine x_aload_n 2 dL_law_1047 rfl rfl ?_
    refine x_callV (ci := 8) (b := B + 908) (As := []) (rest := []) (R' := xR 1 0 0) (zz := yX8_thrown) dL_law_1048 ml_L_82 wi_X8_thrown wv_X8_thrown wn_X8 wc_X8_thrown hp_X8_thrown ⟨Nat.le_of_ble_eq_true rfl, Nat.le_of_ble_eq_true rfl⟩ rfl (Nat.le_of_ble_eq_true rfl) ⟨by show c + 0 + 0 + 0 ≤ 601024; omega, by show s + 0 + 0 + 0 ≤ 7293034; omega⟩ vc_X8 kM (T_X8_thrown (G := G) (r9 := gi N3 (B + 908) 0) w0 kM rfl) ?_
    refine x_iload 5 dL_law_1051 rfl ?_
    refine x_icmp_eq_t (tgt := 1058) dL_law_1053 (by decide) (a1.trans (by decide)) ?_
    refine x_iload 5 dL_law_1058 rfl ?_
    refine x_if_ne_f (tgt := 1075) dL_law_1060 (by decide) rfl ?_
    refine x_aload_n 3 dL_law_1063 rfl rfl ?_
    refine x_iconst (v := 0) dL_law_1064 rfl ?_
    refine x_lald (j9 := 0) dL_law_1065 kq (show vp_in 0 (kn Y (B + 925)) by rw [kn9]; exact vp01) rfl ?_
    refine x_iload 6 dL_law_1066 rfl ?_
    refine x_i2l dL_law_1068 ?_
    refine x_lcmp dL_law_1069 ?_
    refine x_if_eq_t (tgt := 1075) dL_law_1070 (by decide) (lg_cmp0 (e9.trans (congrArg Int32.toInt64 a2))) ?_
    refine x_goto (tgt := 1241) dL_law_1075 (by decide) ?_
    refine x_sub (L' := [(0, .ref (xSb G)), (1, .ref B), (2, .ref (B + 908)), (3, .ref (B + 925)), (4, .int (nI (6 * t)))]) [0, 1, 2, 3, 4] rfl ?_
    exact kk _ _ _ _ ok g1 (by show c + 0 + 0 + 0 ≤ c + 1; omega) (by show s + 0 + 0 + 0 ≤ s + 6; omega)
  | inr E =>
    obtain ⟨v, N3, m1, g1, l1, i, hi, hE, a1⟩ := h2 N1 rfl
    match i, hi, hE, a1 with
    | 0, _, hE, a1 =>
      have hE : IOB = E := hE
      subst hE
      refine x_aload_n 1 dL_law_1010 rfl rfl ?_
      refine x_aload_n 0 dL_law_1011 rfl rfl ?_
      refine x_iload 4 dL_law_1012 rfl ?_
      refine x_iconst (v := nI 1) dL_law_1014 (by decide) ?_
      refine x_iadd dL_law_1015 ?_
      refine x_scrld i1.1 i1.2 dL_law_1016 ?_
      refine x_aload_n 0 dL_law_1017 rfl rfl ?_
      refine x_iload 4 dL_law_1018 rfl ?_
      refine x_iconst (v := nI 2) dL_law_1020 (by decide) ?_
      refine x_iadd dL_law_1021 ?_
      refine x_scrld i2.1 i2.2 dL_law_1022 ?_
      refine x_aload_n 3 dL_law_1023 rfl rfl ?_
      refine x_csW (As := [.ref B, .int (xSx G (6 * t + 1)), .int (xSx G (6 * t + 2)), .ref (B + 925)]) (rest := []) (R' := xR 8 1 6) (zz := yL_lease) dL_law_1024 ml_L_127 wt_L_lease wn_L wc_L_lease hp_L_lease ⟨Nat.le_of_ble_eq_true rfl, Nat.le_of_ble_eq_true rfl⟩ rfl (Nat.le_of_ble_eq_true rfl) ⟨by show c + 1 ≤ 601024; omega, by show s + 6 ≤ 7293034; omega⟩ (W_lease_x0 (G := G) w0 kB kq kn9 h1) ?_
      refine x_istore (L' := [(0, .ref (xSb G)), (1, .ref B), (2, .ref (B + 908)), (3, .ref (B + 925)), (4, .int (nI (6 * t))), (5, .int 1)]) [1, 2, 3, 4, 5, 0] dL_law_1027 (by decide) rfl ?_
      refine x_aload_n 2 dL_law_1029 rfl rfl ?_
      refine x_aload_n 0 dL_law_1030 rfl rfl ?_
      refine x_iload 4 dL_law_1031 rfl ?_
      refine x_iconst (v := nI 1) dL_law_1033 (by decide) ?_
      refine x_iadd dL_law_1034 ?_
      refine x_scrld i1.1 i1.2 dL_law_1035 ?_
      refine x_aload_n 0 dL_law_1036 rfl rfl ?_
      refine x_iload 4 dL_law_1037 rfl ?_
      refine x_iconst (v := nI 2) dL_law_1039 (by decide) ?_
      refine x_iadd dL_law_1040 ?_
      refine x_scrld i2.1 i2.2 dL_law_1041 ?_
      refine x_callV (ci := 8) (b := B + 908) (As := [.int (xSx G (6 * t + 1)), .int (xSx G (6 * t + 2))]) (rest := []) (R' := xR 8 0 0) (zz := yX8_lease) dL_law_1042 ml_L_129 wi_X8_lease wv_X8_lease wn_X8 wc_X8_lease hp_X8_lease ⟨Nat.le_of_ble_eq_true rfl, Nat.le_of_ble_eq_true rfl⟩ rfl (Nat.le_of_ble_eq_true rfl) ⟨by show c + 1 + 0 ≤ 601024; omega, by show s + 6 + 0 ≤ 7293034; omega⟩ vc_X8 kM (T_X8_lease (G := G) w0 kM m1) ?_
      refine x_istore (L' := [(0, .ref (xSb G)), (1, .ref B), (2, .ref (B + 908)), (3, .ref (B + 925)), (4, .int (nI (6 * t))), (5, .int 1), (6, .int v)]) [1, 2, 3, 4, 5, 6, 0] dL_law_1045 (by decide) rfl ?_
      refine x_aload_n 2 dL_law_1047 rfl rfl ?_
      refine x_callV (ci := 8) (b := B + 908) (As := []) (rest := []) (R' := xR 1 0 0) (zz := yX8_thrown) dL_law_1048 ml_L_82 wi_X8_thrown wv_X8_thrown wn_X8 wc_X8_thrown hp_X8_thrown ⟨Nat.le_of_ble_eq_true rfl, Nat.le_of_ble_eq_true rfl⟩ rfl (Nat.le_of_ble_eq_true rfl) ⟨by show c + 1 + 0 + 0 ≤ 601024; omega, by show s + 6 + 0 + 0 ≤ 7293034; omega⟩ vc_X8 kM (T_X8_thrown (G := G) (r9 := gi N3 (B + 908) 0) w0 kM rfl) ?_
      refine x_iload 5 dL_law_1051 rfl ?_
      refine x_icmp_eq_t (tgt := 1058) dL_law_1053 (by decide) (a1.trans (by decide)) ?_
      refine x_iload 5 dL_law_1058 rfl ?_
      refine x_if_ne_t (tgt := 1075) dL_law_1060 (by decide) (by decide) ?_
      refine x_goto (tgt := 1241) dL_law_1075 (by decide) ?_
      refine x_sub (L' := [(0, .ref (xSb G)), (1, .ref B), (2, .ref (B + 908)), (3, .ref (B + 925)), (4, .int (nI (6 * t)))]) [0, 1, 2, 3, 4] rfl ?_
      exact kk _ _ _ _ ok g1 (by show c + 1 + 0 + 0 ≤ c + 1; omega) (by show s + 6 + 0 + 0 ≤ s + 6; omega)
    | z + 1, hi, _, _ => exact absurd hi (by simp only [List.length_cons, List.length_nil]; omega)
set_option maxHeartbeats 1000000 in
theorem LC_release {G : XG} {tb : List ExceptionTableEntry} {nm ds : String} {Y : XY} {N : XN} {B t c s : Nat} (ok : OK9 Y B) (hI : IV B N) (ht : 6 * t + 6 ≤ xSl G) (hN : xSl G ≤ 3072) (hc : c + 1 ≤ 601024) (hs : s + 6 ≤ 7293034) (kk : LK G tb nm ds B t c s) : ExZ G ⟨RL, nm, ds⟩ cL_law 7 ret tb room_1 (law_Z G) c s 1078 [(0, .ref (xSb G)), (1, .ref B), (2, .ref (B + 908)), (3, .ref (B + 925)), (4, .int (nI (6 * t)))] [] Y N := by
  obtain ⟨w0, y0, kB, kM, kq, kn9, k14⟩ := id ok
  have i1 := sidx (t := t) (j := 1) (L := xSl G) (by omega) ht hN
  have i2 := sidx (t := t) (j := 2) (L := xSl G) (by omega) ht hN
  obtain ⟨o, N1, h1, h2⟩ := F_release y0 hI (xSx G (6 * t + 1)) (xSx G (6 * t + 2))
  cases o with
  | inl r =>
    obtain ⟨v, N3, m1, g1, l1, a1, a2⟩ := h2 (sl N1 (B + 925) 0 r.toInt64) rfl
    have e9 : gl N3 (B + 925) 0 = r.toInt64 := by
      unfold gl
      rw [l1 _ (by omega)]
      exact sl_cell0
    refine x_aload_n 1 dL_law_1078 rfl rfl ?_
    refine x_aload_n 0 dL_law_1079 rfl rfl ?_
    refine x_iload 4 dL_law_1080 rfl ?_
    refine x_iconst (v := nI 1) dL_law_1082 (by decide) ?_
    refine x_iadd dL_law_1083 ?_
    refine x_scrld i1.1 i1.2 dL_law_1084 ?_
    refine x_aload_n 0 dL_law_1085 rfl rfl ?_
    refine x_iload 4 dL_law_1086 rfl ?_
    refine x_iconst (v := nI 2) dL_law_1088 (by decide) ?_
    refine x_iadd dL_law_1089 ?_
    refine x_scrld i2.1 i2.2 dL_law_1090 ?_
    refine x_aload_n 3 dL_law_1091 rfl rfl ?_
    refine x_csW (As := [.ref B, .int (xSx G (6 * t + 1)), .int (xSx G (6 * t + 2)), .ref (B + 925)]) (rest := []) (R' := xR 8 0 0) (zz := yL_release) dL_law_1092 ml_L_130 wt_L_release wn_L wc_L_release hp_L_release ⟨Nat.le_of_ble_eq_true rfl, Nat.le_of_ble_eq_true rfl⟩ rfl (Nat.le_of_ble_eq_true rfl) ⟨by show c + 0 ≤ 601024; omega, by show s + 0 ≤ 7293034; omega⟩ (W_release (G := G) w0 kB kq kn9 h1) ?_
    refine x_istore (L' := [(0, .ref (xSb G)), (1, .ref B), (2, .ref (B + 908)), (3, .ref (B + 925)), (4, .int (nI (6 * t))), (5, .int 0)]) [1, 2, 3, 4, 5, 0] dL_law_1095 (by decide) rfl ?_
    refine x_aload_n 2 dL_law_1097 rfl rfl ?_
    refine x_aload_n 0 dL_law_1098 rfl rfl ?_
    refine x_iload 4 dL_law_1099 rfl ?_
    refine x_iconst (v := nI 1) dL_law_1101 (by decide) ?_
    refine x_iadd dL_law_1102 ?_
    refine x_scrld i1.1 i1.2 dL_law_1103 ?_
    refine x_aload_n 0 dL_law_1104 rfl rfl ?_
    refine x_iload 4 dL_law_1105 rfl ?_
    refine x_iconst (v := nI 2) dL_law_1107 (by decide) ?_
    refine x_iadd dL_law_1108 ?_
    refine x_scrld i2.1 i2.2 dL_law_1109 ?_
    refine x_callV (ci := 8) (b := B + 908) (As := [.int (xSx G (6 * t + 1)), .int (xSx G (6 * t + 2))]) (rest := []) (R' := xR 7 0 0) (zz := yX8_release) dL_law_1110 ml_L_132 wi_X8_release wv_X8_release wn_X8 wc_X8_release hp_X8_release ⟨Nat.le_of_ble_eq_true rfl, Nat.le_of_ble_eq_true rfl⟩ rfl (Nat.le_of_ble_eq_true rfl) ⟨by show c + 0 + 0 ≤ 601024; omega, by show s + 0 + 0 ≤ 7293034; omega⟩ vc_X8 kM (T_X8_release (G := G) w0 kM m1) ?_
    refine x_istore (L' := [(0, .ref (xSb G)), (1, .ref B), (2, .ref (B + 908)), (3, .ref (B + 925)), (4, .int (nI (6 * t))), (5, .int 0), (6, .int v)]) [1, 2, 3, 4, 5, 6, 0] dL_law_1113 (by decide) rfl ?_
    refine x_aload_n 2 dL_law_1115 rfl rfl ?_
    refine x_callV (ci := 8) (b := B + 908) (As := []) (rest := []) (R' := xR 1 0 0) (zz := yX8_thrown) dL_law_1116 ml_L_82 wi_X8_thrown wv_X8_thrown wn_X8 wc_X8_thrown hp_X8_thrown ⟨Nat.le_of_ble_eq_true rfl, Nat.le_of_ble_eq_true rfl⟩ rfl (Nat.le_of_ble_eq_true rfl) ⟨by show c + 0 + 0 + 0 ≤ 601024; omega, by show s + 0 + 0 + 0 ≤ 7293034; omega⟩ vc_X8 kM (T_X8_thrown (G := G) (r9 := gi N3 (B + 908) 0) w0 kM rfl) ?_
    refine x_iload 5 dL_law_1119 rfl ?_
    refine x_icmp_eq_t (tgt := 1126) dL_law_1121 (by decide) (a1.trans (by decide)) ?_
    refine x_iload 5 dL_law_1126 rfl ?_
    refine x_if_ne_f (tgt := 1143) dL_law_1128 (by decide) rfl ?_
    refine x_aload_n 3 dL_law_1131 rfl rfl ?_
    refine x_iconst (v := 0) dL_law_1132 rfl ?_
    refine x_lald (j9 := 0) dL_law_1133 kq (show vp_in 0 (kn Y (B + 925)) by rw [kn9]; exact vp01) rfl ?_
    refine x_iload 6 dL_law_1134 rfl ?_
    refine x_i2l dL_law_1136 ?_
    refine x_lcmp dL_law_1137 ?_
    refine x_if_eq_t (tgt := 1143) dL_law_1138 (by decide) (lg_cmp0 (e9.trans (congrArg Int32.toInt64 a2))) ?_
    refine x_goto (tgt := 1241) dL_law_1143 (by decide) ?_
    refine x_sub (L' := [(0, .ref (xSb G)), (1, .ref B), (2, .ref (B + 908)), (3, .ref (B + 925)), (4, .int (nI (6 * t)))]) [0, 1, 2, 3, 4] rfl ?_
    exact kk _ _ _ _ ok g1 (by show c + 0 + 0 + 0 ≤ c + 1; omega) (by show s + 0 + 0 + 0 ≤ s + 6; omega)
  | inr E =>
    obtain ⟨v, N3, m1, g1, l1, i, hi, hE, a1⟩ := h2 N1 rfl
    match i, hi, hE, a1 with
    | 0, _, hE, a1 =>
      have hE : IOB = E := hE
      subst hE
      refine x_aload_n 1 dL_law_1078 rfl rfl ?_
      refine x_aload_n 0 dL_law_1079 rfl rfl ?_
      refine x_iload 4 dL_law_1080 rfl ?_
      refine x_iconst (v := nI 1) dL_law_1082 (by decide) ?_
      refine x_iadd dL_law_1083 ?_
      refine x_scrld i1.1 i1.2 dL_law_1084 ?_
      refine x_aload_n 0 dL_law_1085 rfl rfl ?_
      refine x_iload 4 dL_law_1086 rfl ?_
      refine x_iconst (v := nI 2) dL_law_1088 (by decide) ?_
      refine x_iadd dL_law_1089 ?_
      refine x_scrld i2.1 i2.2 dL_law_1090 ?_
      refine x_aload_n 3 dL_law_1091 rfl rfl ?_
      refine x_csW (As := [.ref B, .int (xSx G (6 * t + 1)), .int (xSx G (6 * t + 2)), .ref (B + 925)]) (rest := []) (R' := xR 8 1 6) (zz := yL_release) dL_law_1092 ml_L_130 wt_L_release wn_L wc_L_release hp_L_release ⟨Nat.le_of_ble_eq_true rfl, Nat.le_of_ble_eq_true rfl⟩ rfl (Nat.le_of_ble_eq_true rfl) ⟨by show c + 1 ≤ 601024; omega, by show s + 6 ≤ 7293034; omega⟩ (W_release_x0 (G := G) w0 kB kq kn9 h1) ?_
      refine x_istore (L' := [(0, .ref (xSb G)), (1, .ref B), (2, .ref (B + 908)), (3, .ref (B + 925)), (4, .int (nI (6 * t))), (5, .int 1)]) [1, 2, 3, 4, 5, 0] dL_law_1095 (by decide) rfl ?_
      refine x_aload_n 2 dL_law_1097 rfl rfl ?_
      refine x_aload_n 0 dL_law_1098 rfl rfl ?_
      refine x_iload 4 dL_law_1099 rfl ?_
      refine x_iconst (v := nI 1) dL_law_1101 (by decide) ?_
      refine x_iadd dL_law_1102 ?_
      refine x_scrld i1.1 i1.2 dL_law_1103 ?_
      refine x_aload_n 0 dL_law_1104 rfl rfl ?_
      refine x_iload 4 dL_law_1105 rfl ?_
      refine x_iconst (v := nI 2) dL_law_1107 (by decide) ?_
      refine x_iadd dL_law_1108 ?_
      refine x_scrld i2.1 i2.2 dL_law_1109 ?_
      refine x_callV (ci := 8) (b := B + 908) (As := [.int (xSx G (6 * t + 1)), .int (xSx G (6 * t + 2))]) (rest := []) (R' := xR 7 0 0) (zz := yX8_release) dL_law_1110 ml_L_132 wi_X8_release wv_X8_release wn_X8 wc_X8_release hp_X8_release ⟨Nat.le_of_ble_eq_true rfl, Nat.le_of_ble_eq_true rfl⟩ rfl (Nat.le_of_ble_eq_true rfl) ⟨by show c + 1 + 0 ≤ 601024; omega, by show s + 6 + 0 ≤ 7293034; omega⟩ vc_X8 kM (T_X8_release (G := G) w0 kM m1) ?_
      refine x_istore (L' := [(0, .ref (xSb G)), (1, .ref B), (2, .ref (B + 908)), (3, .ref (B + 925)), (4, .int (nI (6 * t))), (5, .int 1), (6, .int v)]) [1, 2, 3, 4, 5, 6, 0] dL_law_1113 (by decide) rfl ?_
      refine x_aload_n 2 dL_law_1115 rfl rfl ?_
      refine x_callV (ci := 8) (b := B + 908) (As := []) (rest := []) (R' := xR 1 0 0) (zz := yX8_thrown) dL_law_1116 ml_L_82 wi_X8_thrown wv_X8_thrown wn_X8 wc_X8_thrown hp_X8_thrown ⟨Nat.le_of_ble_eq_true rfl, Nat.le_of_ble_eq_true rfl⟩ rfl (Nat.le_of_ble_eq_true rfl) ⟨by show c + 1 + 0 + 0 ≤ 601024; omega, by show s + 6 + 0 + 0 ≤ 7293034; omega⟩ vc_X8 kM (T_X8_thrown (G := G) (r9 := gi N3 (B + 908) 0) w0 kM rfl) ?_
      refine x_iload 5 dL_law_1119 rfl ?_
      refine x_icmp_eq_t (tgt := 1126) dL_law_1121 (by decide) (a1.trans (by decide)) ?_
      refine x_iload 5 dL_law_1126 rfl ?_
      refine x_if_ne_t (tgt := 1143) dL_law_1128 (by decide) (by decide) ?_
      refine x_goto (tgt := 1241) dL_law_1143 (by decide) ?_
      refine x_sub (L' := [(0, .ref (xSb G)), (1, .ref B), (2, .ref (B + 908)), (3, .ref (B + 925)), (4, .int (nI (6 * t)))]) [0, 1, 2, 3, 4] rfl ?_
      exact kk _ _ _ _ ok g1 (by show c + 1 + 0 + 0 ≤ c + 1; omega) (by show s + 6 + 0 + 0 ≤ s + 6; omega)
    | z + 1, hi, _, _ => exact absurd hi (by simp only [List.length_cons, List.length_nil]; omega)
set_option maxHeartbeats 1000000 in
theorem LC_fund {G : XG} {tb : List ExceptionTableEntry} {nm ds : String} {Y : XY} {N : XN} {B t c s : Nat} (ok : OK9 Y B) (hI : IV B N) (ht : 6 * t + 6 ≤ xSl G) (hN : xSl G ≤ 3072) (hc : c + 1 ≤ 601024) (hs : s + 6 ≤ 7293034) (kk : LK G tb nm ds B t c s) : ExZ G ⟨RL, nm, ds⟩ cL_law 7 ret tb room_1 (law_Z G) c s 1146 [(0, .ref (xSb G)), (1, .ref B), (2, .ref (B + 908)), (3, .ref (B + 925)), (4, .int (nI (6 * t)))] [] Y N := by
  obtain ⟨w0, y0, kB, kM, kq, kn9, k14⟩ := id ok
  have i1 := sidx (t := t) (j := 1) (L := xSl G) (by omega) ht hN
  have i2 := sidx (t := t) (j := 2) (L := xSl G) (by omega) ht hN
  obtain ⟨o, N1, h1, h2⟩ := F_fund y0 hI (xSx G (6 * t + 1)) (xSx G (6 * t + 2))
  cases o with
  | inl r =>
    obtain ⟨v, N3, m1, g1, l1, a1, a2⟩ := h2 (sl N1 (B + 925) 0 r.toInt64) rfl
    have e9 : gl N3 (B + 925) 0 = r.toInt64 := by
      unfold gl
      rw [l1 _ (by omega)]
      exact sl_cell0
    refine x_aload_n 1 dL_law_1146 rfl rfl ?_
    refine x_aload_n 0 dL_law_1147 rfl rfl ?_
    refine x_iload 4 dL_law_1148 rfl ?_
    refine x_iconst (v := nI 1) dL_law_1150 (by decide) ?_
    refine x_iadd dL_law_1151 ?_
    refine x_scrld i1.1 i1.2 dL_law_1152 ?_
    refine x_aload_n 0 dL_law_1153 rfl rfl ?_
    refine x_iload 4 dL_law_1154 rfl ?_
    refine x_iconst (v := nI 2) dL_law_1156 (by decide) ?_
    refine x_iadd dL_law_1157 ?_
    refine x_scrld i2.1 i2.2 dL_law_1158 ?_
    refine x_aload_n 3 dL_law_1159 rfl rfl ?_
    refine x_csW (As := [.ref B, .int (xSx G (6 * t + 1)), .int (xSx G (6 * t + 2)), .ref (B + 925)]) (rest := []) (R' := xR 8 0 0) (zz := yL_fund) dL_law_1160 ml_L_133 wt_L_fund wn_L wc_L_fund hp_L_fund ⟨Nat.le_of_ble_eq_true rfl, Nat.le_of_ble_eq_true rfl⟩ rfl (Nat.le_of_ble_eq_true rfl) ⟨by show c + 0 ≤ 601024; omega, by show s + 0 ≤ 7293034; omega⟩ (W_fund (G := G) w0 kB kq kn9 h1) ?_
    refine x_istore (L' := [(0, .ref (xSb G)), (1, .ref B), (2, .ref (B + 908)), (3, .ref (B + 925)), (4, .int (nI (6 * t))), (5, .int 0)]) [1, 2, 3, 4, 5, 0] dL_law_1163 (by decide) rfl ?_
    refine x_aload_n 2 dL_law_1165 rfl rfl ?_
    refine x_aload_n 0 dL_law_1166 rfl rfl ?_
    refine x_iload 4 dL_law_1167 rfl ?_
    refine x_iconst (v := nI 1) dL_law_1169 (by decide) ?_
    refine x_iadd dL_law_1170 ?_
    refine x_scrld i1.1 i1.2 dL_law_1171 ?_
    refine x_aload_n 0 dL_law_1172 rfl rfl ?_
    refine x_iload 4 dL_law_1173 rfl ?_
    refine x_iconst (v := nI 2) dL_law_1175 (by decide) ?_
    refine x_iadd dL_law_1176 ?_
    refine x_scrld i2.1 i2.2 dL_law_1177 ?_
    refine x_callV (ci := 8) (b := B + 908) (As := [.int (xSx G (6 * t + 1)), .int (xSx G (6 * t + 2))]) (rest := []) (R' := xR 3 0 0) (zz := yX8_fund) dL_law_1178 ml_L_135 wi_X8_fund wv_X8_fund wn_X8 wc_X8_fund hp_X8_fund ⟨Nat.le_of_ble_eq_true rfl, Nat.le_of_ble_eq_true rfl⟩ rfl (Nat.le_of_ble_eq_true rfl) ⟨by show c + 0 + 0 ≤ 601024; omega, by show s + 0 + 0 ≤ 7293034; omega⟩ vc_X8 kM (T_X8_fund (G := G) w0 kM m1) ?_
    refine x_istore (L' := [(0, .ref (xSb G)), (1, .ref B), (2, .ref (B + 908)), (3, .ref (B + 925)), (4, .int (nI (6 * t))), (5, .int 0), (6, .int v)]) [1, 2, 3, 4, 5, 6, 0] dL_law_1181 (by decide) rfl ?_
    refine x_aload_n 2 dL_law_1183 rfl rfl ?_
    refine x_callV (ci := 8) (b := B + 908) (As := []) (rest := []) (R' := xR 1 0 0) (zz := yX8_thrown) dL_law_1184 ml_L_82 wi_X8_thrown wv_X8_thrown wn_X8 wc_X8_thrown hp_X8_thrown ⟨Nat.le_of_ble_eq_true rfl, Nat.le_of_ble_eq_true rfl⟩ rfl (Nat.le_of_ble_eq_true rfl) ⟨by show c + 0 + 0 + 0 ≤ 601024; omega, by show s + 0 + 0 + 0 ≤ 7293034; omega⟩ vc_X8 kM (T_X8_thrown (G := G) (r9 := gi N3 (B + 908) 0) w0 kM rfl) ?_
    refine x_iload 5 dL_law_1187 rfl ?_
    refine x_icmp_eq_t (tgt := 1194) dL_law_1189 (by decide) (a1.trans (by decide)) ?_
    refine x_iload 5 dL_law_1194 rfl ?_
    refine x_if_ne_f (tgt := 1211) dL_law_1196 (by decide) rfl ?_
    refine x_aload_n 3 dL_law_1199 rfl rfl ?_
    refine x_iconst (v := 0) dL_law_1200 rfl ?_
    refine x_lald (j9 := 0) dL_law_1201 kq (show vp_in 0 (kn Y (B + 925)) by rw [kn9]; exact vp01) rfl ?_
    refine x_iload 6 dL_law_1202 rfl ?_
    refine x_i2l dL_law_1204 ?_
    refine x_lcmp dL_law_1205 ?_
    refine x_if_eq_t (tgt := 1211) dL_law_1206 (by decide) (lg_cmp0 (e9.trans (congrArg Int32.toInt64 a2))) ?_
    refine x_goto (tgt := 1241) dL_law_1211 (by decide) ?_
    refine x_sub (L' := [(0, .ref (xSb G)), (1, .ref B), (2, .ref (B + 908)), (3, .ref (B + 925)), (4, .int (nI (6 * t)))]) [0, 1, 2, 3, 4] rfl ?_
    exact kk _ _ _ _ ok g1 (by show c + 0 + 0 + 0 ≤ c + 1; omega) (by show s + 0 + 0 + 0 ≤ s + 6; omega)
  | inr E =>
    obtain ⟨v, N3, m1, g1, l1, i, hi, hE, a1⟩ := h2 N1 rfl
    match i, hi, hE, a1 with
    | 0, _, hE, a1 =>
      have hE : IOB = E := hE
      subst hE
      refine x_aload_n 1 dL_law_1146 rfl rfl ?_
      refine x_aload_n 0 dL_law_1147 rfl rfl ?_
      refine x_iload 4 dL_law_1148 rfl ?_
      refine x_iconst (v := nI 1) dL_law_1150 (by decide) ?_
      refine x_iadd dL_law_1151 ?_
      refine x_scrld i1.1 i1.2 dL_law_1152 ?_
      refine x_aload_n 0 dL_law_1153 rfl rfl ?_
      refine x_iload 4 dL_law_1154 rfl ?_
      refine x_iconst (v := nI 2) dL_law_1156 (by decide) ?_
      refine x_iadd dL_law_1157 ?_
      refine x_scrld i2.1 i2.2 dL_law_1158 ?_
      refine x_aload_n 3 dL_law_1159 rfl rfl ?_
      refine x_csW (As := [.ref B, .int (xSx G (6 * t + 1)), .int (xSx G (6 * t + 2)), .ref (B + 925)]) (rest := []) (R' := xR 8 1 6) (zz := yL_fund) dL_law_1160 ml_L_133 wt_L_fund wn_L wc_L_fund hp_L_fund ⟨Nat.le_of_ble_eq_true rfl, Nat.le_of_ble_eq_true rfl⟩ rfl (Nat.le_of_ble_eq_true rfl) ⟨by show c + 1 ≤ 601024; omega, by show s + 6 ≤ 7293034; omega⟩ (W_fund_x0 (G := G) w0 kB kq kn9 h1) ?_
      refine x_istore (L' := [(0, .ref (xSb G)), (1, .ref B), (2, .ref (B + 908)), (3, .ref (B + 925)), (4, .int (nI (6 * t))), (5, .int 1)]) [1, 2, 3, 4, 5, 0] dL_law_1163 (by decide) rfl ?_
      refine x_aload_n 2 dL_law_1165 rfl rfl ?_
      refine x_aload_n 0 dL_law_1166 rfl rfl ?_
      refine x_iload 4 dL_law_1167 rfl ?_
      refine x_iconst (v := nI 1) dL_law_1169 (by decide) ?_
      refine x_iadd dL_law_1170 ?_
      refine x_scrld i1.1 i1.2 dL_law_1171 ?_
      refine x_aload_n 0 dL_law_1172 rfl rfl ?_
      refine x_iload 4 dL_law_1173 rfl ?_
      refine x_iconst (v := nI 2) dL_law_1175 (by decide) ?_
      refine x_iadd dL_law_1176 ?_
      refine x_scrld i2.1 i2.2 dL_law_1177 ?_
      refine x_callV (ci := 8) (b := B + 908) (As := [.int (xSx G (6 * t + 1)), .int (xSx G (6 * t + 2))]) (rest := []) (R' := xR 3 0 0) (zz := yX8_fund) dL_law_1178 ml_L_135 wi_X8_fund wv_X8_fund wn_X8 wc_X8_fund hp_X8_fund ⟨Nat.le_of_ble_eq_true rfl, Nat.le_of_ble_eq_true rfl⟩ rfl (Nat.le_of_ble_eq_true rfl) ⟨by show c + 1 + 0 ≤ 601024; omega, by show s + 6 + 0 ≤ 7293034; omega⟩ vc_X8 kM (T_X8_fund (G := G) w0 kM m1) ?_
      refine x_istore (L' := [(0, .ref (xSb G)), (1, .ref B), (2, .ref (B + 908)), (3, .ref (B + 925)), (4, .int (nI (6 * t))), (5, .int 1), (6, .int v)]) [1, 2, 3, 4, 5, 6, 0] dL_law_1181 (by decide) rfl ?_
      refine x_aload_n 2 dL_law_1183 rfl rfl ?_
      refine x_callV (ci := 8) (b := B + 908) (As := []) (rest := []) (R' := xR 1 0 0) (zz := yX8_thrown) dL_law_1184 ml_L_82 wi_X8_thrown wv_X8_thrown wn_X8 wc_X8_thrown hp_X8_thrown ⟨Nat.le_of_ble_eq_true rfl, Nat.le_of_ble_eq_true rfl⟩ rfl (Nat.le_of_ble_eq_true rfl) ⟨by show c + 1 + 0 + 0 ≤ 601024; omega, by show s + 6 + 0 + 0 ≤ 7293034; omega⟩ vc_X8 kM (T_X8_thrown (G := G) (r9 := gi N3 (B + 908) 0) w0 kM rfl) ?_
      refine x_iload 5 dL_law_1187 rfl ?_
      refine x_icmp_eq_t (tgt := 1194) dL_law_1189 (by decide) (a1.trans (by decide)) ?_
      refine x_iload 5 dL_law_1194 rfl ?_
      refine x_if_ne_t (tgt := 1211) dL_law_1196 (by decide) (by decide) ?_
      refine x_goto (tgt := 1241) dL_law_1211 (by decide) ?_
      refine x_sub (L' := [(0, .ref (xSb G)), (1, .ref B), (2, .ref (B + 908)), (3, .ref (B + 925)), (4, .int (nI (6 * t)))]) [0, 1, 2, 3, 4] rfl ?_
      exact kk _ _ _ _ ok g1 (by show c + 1 + 0 + 0 ≤ c + 1; omega) (by show s + 6 + 0 + 0 ≤ s + 6; omega)
    | 1, _, hE, a1 =>
      have hE : IAE = E := hE
      subst hE
      refine x_aload_n 1 dL_law_1146 rfl rfl ?_
      refine x_aload_n 0 dL_law_1147 rfl rfl ?_
      refine x_iload 4 dL_law_1148 rfl ?_
      refine x_iconst (v := nI 1) dL_law_1150 (by decide) ?_
      refine x_iadd dL_law_1151 ?_
      refine x_scrld i1.1 i1.2 dL_law_1152 ?_
      refine x_aload_n 0 dL_law_1153 rfl rfl ?_
      refine x_iload 4 dL_law_1154 rfl ?_
      refine x_iconst (v := nI 2) dL_law_1156 (by decide) ?_
      refine x_iadd dL_law_1157 ?_
      refine x_scrld i2.1 i2.2 dL_law_1158 ?_
      refine x_aload_n 3 dL_law_1159 rfl rfl ?_
      refine x_csW (As := [.ref B, .int (xSx G (6 * t + 1)), .int (xSx G (6 * t + 2)), .ref (B + 925)]) (rest := []) (R' := xR 8 1 6) (zz := yL_fund) dL_law_1160 ml_L_133 wt_L_fund wn_L wc_L_fund hp_L_fund ⟨Nat.le_of_ble_eq_true rfl, Nat.le_of_ble_eq_true rfl⟩ rfl (Nat.le_of_ble_eq_true rfl) ⟨by show c + 1 ≤ 601024; omega, by show s + 6 ≤ 7293034; omega⟩ (W_fund_x1 (G := G) w0 kB kq kn9 h1) ?_
      refine x_istore (L' := [(0, .ref (xSb G)), (1, .ref B), (2, .ref (B + 908)), (3, .ref (B + 925)), (4, .int (nI (6 * t))), (5, .int 2)]) [1, 2, 3, 4, 5, 0] dL_law_1163 (by decide) rfl ?_
      refine x_aload_n 2 dL_law_1165 rfl rfl ?_
      refine x_aload_n 0 dL_law_1166 rfl rfl ?_
      refine x_iload 4 dL_law_1167 rfl ?_
      refine x_iconst (v := nI 1) dL_law_1169 (by decide) ?_
      refine x_iadd dL_law_1170 ?_
      refine x_scrld i1.1 i1.2 dL_law_1171 ?_
      refine x_aload_n 0 dL_law_1172 rfl rfl ?_
      refine x_iload 4 dL_law_1173 rfl ?_
      refine x_iconst (v := nI 2) dL_law_1175 (by decide) ?_
      refine x_iadd dL_law_1176 ?_
      refine x_scrld i2.1 i2.2 dL_law_1177 ?_
      refine x_callV (ci := 8) (b := B + 908) (As := [.int (xSx G (6 * t + 1)), .int (xSx G (6 * t + 2))]) (rest := []) (R' := xR 3 0 0) (zz := yX8_fund) dL_law_1178 ml_L_135 wi_X8_fund wv_X8_fund wn_X8 wc_X8_fund hp_X8_fund ⟨Nat.le_of_ble_eq_true rfl, Nat.le_of_ble_eq_true rfl⟩ rfl (Nat.le_of_ble_eq_true rfl) ⟨by show c + 1 + 0 ≤ 601024; omega, by show s + 6 + 0 ≤ 7293034; omega⟩ vc_X8 kM (T_X8_fund (G := G) w0 kM m1) ?_
      refine x_istore (L' := [(0, .ref (xSb G)), (1, .ref B), (2, .ref (B + 908)), (3, .ref (B + 925)), (4, .int (nI (6 * t))), (5, .int 2), (6, .int v)]) [1, 2, 3, 4, 5, 6, 0] dL_law_1181 (by decide) rfl ?_
      refine x_aload_n 2 dL_law_1183 rfl rfl ?_
      refine x_callV (ci := 8) (b := B + 908) (As := []) (rest := []) (R' := xR 1 0 0) (zz := yX8_thrown) dL_law_1184 ml_L_82 wi_X8_thrown wv_X8_thrown wn_X8 wc_X8_thrown hp_X8_thrown ⟨Nat.le_of_ble_eq_true rfl, Nat.le_of_ble_eq_true rfl⟩ rfl (Nat.le_of_ble_eq_true rfl) ⟨by show c + 1 + 0 + 0 ≤ 601024; omega, by show s + 6 + 0 + 0 ≤ 7293034; omega⟩ vc_X8 kM (T_X8_thrown (G := G) (r9 := gi N3 (B + 908) 0) w0 kM rfl) ?_
      refine x_iload 5 dL_law_1187 rfl ?_
      refine x_icmp_eq_t (tgt := 1194) dL_law_1189 (by decide) (a1.trans (by decide)) ?_
      refine x_iload 5 dL_law_1194 rfl ?_
      refine x_if_ne_t (tgt := 1211) dL_law_1196 (by decide) (by decide) ?_
      refine x_goto (tgt := 1241) dL_law_1211 (by decide) ?_
      refine x_sub (L' := [(0, .ref (xSb G)), (1, .ref B), (2, .ref (B + 908)), (3, .ref (B + 925)), (4, .int (nI (6 * t)))]) [0, 1, 2, 3, 4] rfl ?_
      exact kk _ _ _ _ ok g1 (by show c + 1 + 0 + 0 ≤ c + 1; omega) (by show s + 6 + 0 + 0 ≤ s + 6; omega)
    | z + 2, hi, _, _ => exact absurd hi (by simp only [List.length_cons, List.length_nil]; omega)
set_option maxHeartbeats 1000000 in
theorem LC_undo {G : XG} {tb : List ExceptionTableEntry} {nm ds : String} {Y : XY} {N : XN} {B t c s : Nat} (ok : OK9 Y B) (hI : IV B N) (ht : 6 * t + 6 ≤ xSl G) (hN : xSl G ≤ 3072) (hc : c + 1 ≤ 601024) (hs : s + 6 ≤ 7293034) (kk : LK G tb nm ds B t c s) : ExZ G ⟨RL, nm, ds⟩ cL_law 7 ret tb room_1 (law_Z G) c s 1214 [(0, .ref (xSb G)), (1, .ref B), (2, .ref (B + 908)), (3, .ref (B + 925)), (4, .int (nI (6 * t)))] [] Y N := by
  obtain ⟨w0, y0, kB, kM, kq, kn9, k14⟩ := id ok
  obtain ⟨v, N1, h1, h2⟩ := F_undo y0 hI 
  obtain ⟨N3, m1, g1, -⟩ := h2 N1 rfl
  refine x_aload_n 1 dL_law_1214 rfl rfl ?_
  refine x_callV (ci := 7) (b := B) (As := []) (rest := []) (R' := xR 3 0 0) (zz := yX7_undo) dL_law_1215 ml_L_136 wi_X7_undo wv_X7_undo wn_X7 wc_X7_undo hp_X7_undo ⟨Nat.le_of_ble_eq_true rfl, Nat.le_of_ble_eq_true rfl⟩ rfl (Nat.le_of_ble_eq_true rfl) ⟨by show c + 0 ≤ 601024; omega, by show s + 0 ≤ 7293034; omega⟩ vc_X7 kB (T_X7_undo (G := G) w0 kB h1) ?_
  refine x_aload_n 2 dL_law_1218 rfl rfl ?_
  refine x_callV (ci := 8) (b := B + 908) (As := []) (rest := [.int v]) (R' := xR 2 0 0) (zz := yX8_undo) dL_law_1219 ml_L_139 wi_X8_undo wv_X8_undo wn_X8 wc_X8_undo hp_X8_undo ⟨Nat.le_of_ble_eq_true rfl, Nat.le_of_ble_eq_true rfl⟩ rfl (Nat.le_of_ble_eq_true rfl) ⟨by show c + 0 + 0 ≤ 601024; omega, by show s + 0 + 0 ≤ 7293034; omega⟩ vc_X8 kM (T_X8_undo (G := G) w0 kM m1) ?_
  refine x_icmp_eq_t (tgt := 1241) dL_law_1222 (by decide) rfl ?_
  exact kk _ _ _ _ ok g1 (by show c + 0 + 0 ≤ c + 1; omega) (by show s + 0 + 0 ≤ s + 6; omega)
set_option maxHeartbeats 1000000 in
theorem LC_checksum {G : XG} {tb : List ExceptionTableEntry} {nm ds : String} {Y : XY} {N : XN} {B t c s : Nat} (ok : OK9 Y B) (hI : IV B N) (ht : 6 * t + 6 ≤ xSl G) (hN : xSl G ≤ 3072) (hc : c + 1 ≤ 601024) (hs : s + 6 ≤ 7293034) (kk : LK G tb nm ds B t c s) : ExZ G ⟨RL, nm, ds⟩ cL_law 7 ret tb room_1 (law_Z G) c s 1227 [(0, .ref (xSb G)), (1, .ref B), (2, .ref (B + 908)), (3, .ref (B + 925)), (4, .int (nI (6 * t)))] [] Y N := by
  obtain ⟨w0, y0, kB, kM, kq, kn9, k14⟩ := id ok
  obtain ⟨v, N1, h1, h2⟩ := F_checksum y0 hI 
  obtain ⟨N3, m1, g1, -⟩ := h2 N1 rfl
  refine x_aload_n 1 dL_law_1227 rfl rfl ?_
  refine x_callV (ci := 7) (b := B) (As := []) (rest := []) (R' := xR 8 0 0) (zz := yX7_checksum) dL_law_1228 ml_L_140 wi_X7_checksum wv_X7_checksum wn_X7 wc_X7_checksum hp_X7_checksum ⟨Nat.le_of_ble_eq_true rfl, Nat.le_of_ble_eq_true rfl⟩ rfl (Nat.le_of_ble_eq_true rfl) ⟨by show c + 0 ≤ 601024; omega, by show s + 0 ≤ 7293034; omega⟩ vc_X7 kB (T_X7_checksum (G := G) w0 kB h1) ?_
  refine x_aload_n 2 dL_law_1231 rfl rfl ?_
  refine x_callV (ci := 8) (b := B + 908) (As := []) (rest := [.long v]) (R' := xR 7 0 0) (zz := yX8_checksum) dL_law_1232 ml_L_144 wi_X8_checksum wv_X8_checksum wn_X8 wc_X8_checksum hp_X8_checksum ⟨Nat.le_of_ble_eq_true rfl, Nat.le_of_ble_eq_true rfl⟩ rfl (Nat.le_of_ble_eq_true rfl) ⟨by show c + 0 + 0 ≤ 601024; omega, by show s + 0 + 0 ≤ 7293034; omega⟩ vc_X8 kM (T_X8_checksum (G := G) w0 kM m1) ?_
  refine x_lcmp dL_law_1235 ?_
  refine x_if_eq_t (tgt := 1241) dL_law_1236 (by decide) (lg_cmp0 rfl) ?_
  exact kk _ _ _ _ ok g1 (by show c + 0 + 0 ≤ c + 1; omega) (by show s + 0 + 0 ≤ s + 6; omega)
