/-! THE MODEL'S TICK -/
theorem gl_sd (N : XN) (a : Nat) (f : XD) (b k : Nat) : gl (sd N a f) b k = gl N b k := rfl
theorem sl_sd (N : XN) (a : Nat) (f : XD) (b k : Nat) (v : Int64) : sl (sd N a f) b k v = sd (sl N b k v) a f := rfl
theorem gl_sl (N : XN) (b k : Nat) (v : Int64) : gl (sl N b k v) b k = v := if_pos ⟨rfl, rfl⟩
theorem gl_sl_n {N : XN} {b k j : Nat} {v : Int64} (h : j ≠ k) : gl (sl N b k v) b j = gl N b j := if_neg (fun q => h q.2)
theorem jn_sl (Y : XY) (m : Nat) (N : XN) (k : Nat) (v : Int64) : jn Y m N (sl N (gp Y m 17) k v) := ⟨fun _ _ => rfl, fun a q => by funext j; exact if_neg (fun z => q z.1)⟩
theorem i2l_of (x : Int32) : x.toInt64 = Int64.ofInt x.toInt := Int64.toInt_inj.mp (by
  rw [Int32.toInt_toInt64, Int64.toInt_ofInt_of_le]
  · have := Int32.le_toInt x; omega
  · have := Int32.toInt_lt x; omega)
theorem M_lim (w : Int64) {Y : XY} {N : XN} : f_X8_limited Y w N = Int64.ofInt (clM w.toInt) := by
  obtain ⟨c1, c2⟩ := lcm_i
  unfold f_X8_limited
  by_cases h2 : w ≤ (1000000 : Int64)
  · rw [if_pos ((lg_cmp_le _ _).mpr h2)]
    rw [Int64.le_iff_toInt_le, c2] at h2
    by_cases h1 : (-1000000 : Int64) ≤ w
    · rw [if_pos ((lg_cmp_ge _ _).mpr h1)]
      rw [Int64.le_iff_toInt_le, c1] at h1
      rw [clM_id h1 h2, Int64.ofInt_toInt]
    · rw [if_neg (fun q => h1 ((lg_cmp_ge _ _).mp q))]
      rw [Int64.le_iff_toInt_le, c1] at h1
      unfold clM
      rw [if_pos (by omega)]
      decide
  · rw [if_neg (fun q => h2 ((lg_cmp_le _ _).mp q))]
    rw [Int64.le_iff_toInt_le, c2] at h2
    unfold clM
    rw [if_neg (by omega), if_pos (by omega)]
    decide
theorem lL_add {a b : Int} (a1 : -1000000 ≤ a) (a2 : a ≤ 1000000) (b1 : -1000000 ≤ b) (b2 : b ≤ 1000000) : (Int64.ofInt a + Int64.ofInt b).toInt = a + b := by
  rw [Int64.toInt_add, oL_toInt (by omega) (by omega), oL_toInt (by omega) (by omega)]
  exact Int.bmod_eq_of_le (by omega) (by omega)
theorem lL_sub {a b : Int} (a1 : -1000000 ≤ a) (a2 : a ≤ 1000000) (b1 : -1000000 ≤ b) (b2 : b ≤ 1000000) : (Int64.ofInt a - Int64.ofInt b).toInt = a - b := by
  rw [Int64.toInt_sub, oL_toInt (by omega) (by omega), oL_toInt (by omega) (by omega)]
  exact Int.bmod_eq_of_le (by omega) (by omega)
theorem lL_mul {a b : Int} (a1 : -1000000 ≤ a) (a2 : a ≤ 1000000) (b1 : -1000000 ≤ b) (b2 : b ≤ 1000000) : (Int64.ofInt a * Int64.ofInt b).toInt = a * b := by
  rw [Int64.toInt_mul, oL_toInt (by omega) (by omega), oL_toInt (by omega) (by omega)]
  have a3 : (a * b).natAbs ≤ 1000000 * 1000000 := by rw [Int.natAbs_mul]; exact Nat.mul_le_mul (by omega) (by omega)
  exact Int.bmod_eq_of_le (by omega) (by omega)
/-- the model's word for an operation -/
def opC (x : Int32) : Nat := if x = -nI 6 then 2 else if x = -nI 7 then 3 else if x = -nI 8 then 4 else 5
theorem M_operate {Y : XY} {N : XN} {x : Int32} {a b : Int} (hx : isOp x = true) (a1 : -1000000 ≤ a) (a2 : a ≤ 1000000) (b1 : -1000000 ≤ b) (b2 : b ≤ 1000000) : f_X8_operate Y (nI (opC x)) (Int64.ofInt a) (Int64.ofInt b) N = some (Int64.ofInt (opV x a b)) := by
  unfold f_X8_operate
  rcases isOp_or hx with rfl | rfl | rfl | rfl
  · rw [o6, if_neg (by decide), if_pos (by decide), M_lim, lL_add a1 a2 b1 b2]
  · rw [o7, if_neg (by decide), if_neg (by decide), if_pos (by decide), M_lim, lL_sub a1 a2 b1 b2]
  · rw [o8, if_neg (by decide), if_neg (by decide), if_neg (by decide), M_lim, lL_mul a1 a2 b1 b2]
  · rw [o9, if_pos (by decide)]
    have eb := oL_toInt (v := b) (by omega) (by omega)
    have ea := oL_toInt (v := a) (by omega) (by omega)
    have hz : Int64.ofInt b = 0 ↔ b = 0 := ⟨fun q => by rw [q] at eb; exact eb.symm, fun q => by rw [q]; rfl⟩
    by_cases q : b = 0
    · rw [if_pos ((lg_cmp_eq _ _).mpr (hz.mpr q)), if_pos q]
      rfl
    · rw [if_neg (fun q2 => q (hz.mp ((lg_cmp_eq _ _).mp q2))), if_neg (fun q2 => q (hz.mp q2)), if_neg q]
      obtain ⟨t1, t2⟩ := tdiv_b (b := b) a1 a2
      have : Int64.ofInt a / Int64.ofInt b = Int64.ofInt (a.tdiv b) := Int64.toInt_inj.mp (by
        rw [Int64.toInt_div, ea, eb, oL_toInt (by omega) (by omega)]
        exact Int.bmod_eq_of_le (by omega) (by omega))
      rw [this]
theorem M_fnV {σ : Type} (v : Int64) (N : σ) : (if 0 ≤ lg_cmp v 0 then (if lg_cmp v 9999 ≤ 0 then some (Int64.toInt32 v, N) else some (9999, N)) else some (0, N)) = some (fnV v.toInt, N) := by
  have c0 : (0 : Int64).toInt = 0 := by decide
  have c9 : (9999 : Int64).toInt = 9999 := by decide
  by_cases h1 : (0 : Int64) ≤ v
  · rw [if_pos ((lg_cmp_ge _ _).mpr h1)]
    rw [Int64.le_iff_toInt_le, c0] at h1
    by_cases h2 : v ≤ (9999 : Int64)
    · rw [if_pos ((lg_cmp_le _ _).mpr h2)]
      rw [Int64.le_iff_toInt_le, c9] at h2
      unfold fnV
      rw [if_neg (by omega), if_neg (by omega), l2i_of]
    · rw [if_neg (fun q => h2 ((lg_cmp_le _ _).mp q))]
      rw [Int64.le_iff_toInt_le, c9] at h2
      unfold fnV
      rw [if_neg (by omega), if_pos (by omega)]
      rfl
  · rw [if_neg (fun q => h1 ((lg_cmp_ge _ _).mp q))]
    rw [Int64.le_iff_toInt_le, c0] at h1
    unfold fnV
    rw [if_pos (by omega)]
    rfl
theorem enc_op {x : Int32} (hx : isOp x = true) : enc x = [nI (opC x)] := by
  rcases isOp_or hx with rfl | rfl | rfl | rfl <;> decide
theorem enc_12 : enc (-nI 12) = [nI 1, nI 0] := by decide
theorem enc_20 : enc (-nI 20) = [nI 1, nI 1] := by decide
theorem enc_21 : enc (-nI 21) = [nI 1, nI 2] := by decide
theorem enc_22 : enc (-nI 22) = [nI 1, nI 3] := by decide
theorem enc_lit {x : Int32} (h : nI 0 ≤ x) : enc x = [nI 0, x] := by
  have hn : ∀ y : Int32, y < nI 0 → ¬ x = y := fun y hy q => by
    rw [q, Int32.le_iff_toInt_le] at h
    rw [Int32.lt_iff_toInt_lt] at hy
    omega
  unfold enc
  rw [if_neg (hn _ (by decide)), if_neg (hn _ (by decide)), if_neg (hn _ (by decide)), if_neg (hn _ (by decide)), if_neg (hn _ (by decide)), if_neg (hn _ (by decide)), if_neg (hn _ (by decide)), if_neg (hn _ (by decide))]
section TK
variable {Y : XY} {m : Nat} {N : XN} {d : XD} {ops : List Int32}
theorem M_fineOf_L (hD : DJ ops d) {r : Nat} (hr : r < nR d) {li le he wa : Int32} (e1 : d (104 + 8 * r) = li) (e2 : d (109 + 8 * r) = le) (e3 : nI (sHeld d (d (108 + 8 * r))) = he) (s1 : sml li) (s2 : sml le) (s3 : sml he) (s4 : sml wa) : ∀ (rest : List Int32) (i h D9 g : Nat) (N : XN) (st : Nat → Int), okS rest h = some g → d 11 = nI (i + (encs rest).length) → (∀ k, k < (encs rest).length → d (584 + (i + k)) = (encs rest).getD k 0) → i + (encs rest).length ≤ 1200 → (encs rest).length < D9 → h ≤ 16 → (∀ k, k < h ∨ k = 0 → gl N (gp Y m 17) k = Int64.ofInt (st k) ∧ -1000000 ≤ st k ∧ st k ≤ 1000000) →
    ∃ N', jn Y m N N' ∧ f_X8_fineOf_33 Y D9 m (nI r) (nI h) wa (nI i) (sd N (gp Y m 8) d) = some (fnV (ev li le he wa rest h st 0), sd N' (gp Y m 8) d) := by
  have h60 := hD.R60
  intro rest
  induction rest with
  | nil =>
    intro i h D9 g N st ho hc hk hi hD9 hh hs
    obtain ⟨D8, rfl⟩ : ∃ z, D9 = z + 1 := ⟨D9 - 1, by omega⟩
    simp only [encs, List.length_nil, Nat.add_zero] at hc hi
    refine ⟨N, jn.rfl', ?_⟩
    obtain ⟨u1, u2, u3⟩ := hs 0 (Or.inr rfl)
    rw [f_X8_fineOf_33]
    have h11 : gi (sd N (gp Y m 8) d) (gp Y m 8) 11 = nI i := (gi_sd _ _ _ _).trans hc
    rw [h11, if_pos (nI_le (Nat.le_refl i) (by omega)), gl_sd, u1]
    have := M_fnV (Int64.ofInt (st 0)) (sd N (gp Y m 8) d)
    rw [oL_toInt (by omega) (by omega)] at this
    exact this
  | cons x t ih =>
    intro i h D9 g N st ho hc hk hi hD9 hh hs
    obtain ⟨D8, rfl⟩ : ∃ z, D9 = z + 1 := ⟨D9 - 1, by omega⟩
    rw [f_X8_fineOf_33, ev]
    cases hop : isOp x with
    | true =>
      obtain ⟨h2, ho'⟩ := okS_op hop ho
      have ee := enc_op hop
      have ec : encs (x :: t) = nI (opC x) :: encs t := by show enc x ++ encs t = _; rw [ee]; rfl
      rw [ec] at hc hk hi hD9
      simp only [List.length_cons] at hc hk hi hD9
      have hx : d (584 + i) = nI (opC x) := hk 0 (by omega)
      have hk' : ∀ k, k < (encs t).length → d (584 + (i + 1 + k)) = (encs t).getD k 0 := by
        intro k hk9
        have := hk (k + 1) (by omega)
        rw [show i + 1 + k = i + (k + 1) by omega]
        exact this
      have oc : 2 ≤ opC x ∧ opC x ≤ 5 := by rcases isOp_or hop with rfl | rfl | rfl | rfl <;> decide
      obtain ⟨u1, u2, u3⟩ := hs (h - 2) (by omega)
      obtain ⟨v1, v2, v3⟩ := hs (h - 1) (by omega)
      have hrs := M_operate (Y := Y) (N := sd N (gp Y m 8) d) hop u2 u3 v2 v3
      have e1' : nI h + -nI 1 = nI (h - 1) := by
        rw [show h = (h - 1) + 1 by omega]
        exact pk_m1 _
      have e2' : nI (h - 1) - nI 1 = nI (h - 2) := by
        rw [pk_sub (by omega), show h - 1 - 1 = h - 2 by omega]
      obtain ⟨N', i1, i2⟩ := ih (i + 1) (h - 1) D8 g (sl N (gp Y m 17) (h - 2) (Int64.ofInt (opV x (st (h - 2)) (st (h - 1))))) (fun j => if j = h - 2 then opV x (st (h - 2)) (st (h - 1)) else st j) ho' (by rw [hc]; congr 1; omega) hk' (by omega) (by omega) (by omega) (fun k hk9 => by
          by_cases q : k = h - 2
          · subst q
            rw [gl_sl]
            simp only [if_true]
            exact ⟨trivial, opV_b u2 u3⟩
          · rw [gl_sl_n q]
            simp only [if_neg q]
            exact hs k (by omega))
      refine ⟨N', (jn_sl Y m N _ _).trans i1, ?_⟩
      simp (disch := omega) only [↓lt_eq, bd, bd2, Option.bind_some, f_X8_handlerAt, f_X8_lineAt, f_X8_requestAt, nI_lit, pk_mul, nI_add, aN1, aN2, aN3, aN4, aN5, aN6, aN7, Nat.add_zero, Nat.reduceAdd, xb_nI, nI_clamp, gi_sd, si_sd, if_true, ↓reduceIte, pLEt, pLEf, pLTt, pLTf, pEQf, pML, pMG, pMf, pMg, hc, hx, e1', e2', gl_sd, u1, v1, hrs, sl_sd]
      exact i2
    | false =>
      obtain ⟨hlf, h16, ho'⟩ := okS_leaf hop ho
      obtain ⟨l1, l2⟩ := lfV_b hlf s1 s2 s3 s4
      simp only [Bool.false_eq_true, if_false]
      have key : ∀ (a b v : Int32), enc x = [a, b] → v.toInt = lfV x li le he wa → d (584 + i) = a ∧ d (584 + (i + 1)) = b ∧ d 11 = nI (i + (2 + (encs t).length)) ∧ i + (2 + (encs t).length) ≤ 1200 ∧ ∃ N', jn Y m N N' ∧ f_X8_fineOf_33 Y D8 m (nI r) (nI (h + 1)) wa (nI (i + 1 + 1)) (sd (sl N (gp Y m 17) h (Int32.toInt64 v)) (gp Y m 8) d) = some (fnV (ev li le he wa t (h + 1) (fun j => if j = h then lfV x li le he wa else st j) 0), sd N' (gp Y m 8) d) := by
        intro a b v ee hv
        have ec : encs (x :: t) = a :: b :: encs t := by show enc x ++ encs t = _; rw [ee]; rfl
        rw [ec] at hc hk hi hD9
        simp only [List.length_cons] at hc hk hi hD9
        refine ⟨hk 0 (by omega), hk 1 (by omega), by rw [hc]; congr 1; omega, by omega, ?_⟩
        obtain ⟨N', i1, i2⟩ := ih (i + 1 + 1) (h + 1) D8 g (sl N (gp Y m 17) h (Int32.toInt64 v)) (fun j => if j = h then lfV x li le he wa else st j) ho' (by rw [hc]; congr 1; omega) (fun k hk9 => by
          have := hk (k + 2) (by omega)
          rw [show i + 1 + 1 + k = i + (k + 2) by omega]
          exact this) (by omega) (by omega) (by omega) (fun k hk9 => by
          by_cases q : k = h
          · subst q
            rw [gl_sl]
            simp only [if_true]
            exact ⟨by rw [i2l_of, hv], l1, l2⟩
          · rw [gl_sl_n q]
            simp only [if_neg q]
            exact hs k (by omega))
        exact ⟨N', (jn_sl Y m N _ _).trans i1, i2⟩
      rcases isLeaf_or hlf with q | q | q | q | q
      · obtain ⟨k1, k2, k3, k4, N', i1, i2⟩ := key (nI 0) x x (enc_lit q.1) (by unfold lfV; rw [if_pos q.1])
        refine ⟨N', i1, ?_⟩
        simp (disch := omega) only [↓lt_eq, bd, bd2, Option.bind_some, f_X8_handlerAt, f_X8_lineAt, f_X8_requestAt, nI_lit, pk_mul, nI_add, aN1, aN2, aN3, aN4, aN5, aN6, aN7, Nat.add_zero, Nat.reduceAdd, xb_nI, nI_clamp, gi_sd, si_sd, if_true, ↓reduceIte, pLEt, pLEf, pLTt, pLTf, pEQf, pML, pMG, pMf, pMg, k3, k1, k2, gl_sd, sl_sd]
        exact i2
      · subst q
        obtain ⟨k1, k2, k3, k4, N', i1, i2⟩ := key _ _ li enc_12 v12.symm
        refine ⟨N', i1, ?_⟩
        simp (disch := omega) only [↓lt_eq, bd, bd2, Option.bind_some, f_X8_handlerAt, f_X8_lineAt, f_X8_requestAt, nI_lit, pk_mul, nI_add, aN1, aN2, aN3, aN4, aN5, aN6, aN7, Nat.add_zero, Nat.reduceAdd, xb_nI, nI_clamp, gi_sd, si_sd, if_true, ↓reduceIte, pLEt, pLEf, pLTt, pLTf, pEQf, pML, pMG, pMf, pMg, k3, k1, k2, gl_sd, sl_sd, M_ofRequest, e1]
        exact i2
      · subst q
        obtain ⟨k1, k2, k3, k4, N', i1, i2⟩ := key _ _ le enc_20 v20.symm
        refine ⟨N', i1, ?_⟩
        simp (disch := omega) only [↓lt_eq, bd, bd2, Option.bind_some, f_X8_handlerAt, f_X8_lineAt, f_X8_requestAt, nI_lit, pk_mul, nI_add, aN1, aN2, aN3, aN4, aN5, aN6, aN7, Nat.add_zero, Nat.reduceAdd, xb_nI, nI_clamp, gi_sd, si_sd, if_true, ↓reduceIte, pLEt, pLEf, pLTt, pLTf, pEQf, pML, pMG, pMf, pMg, k3, k1, k2, gl_sd, sl_sd, M_ofRequest, e2]
        exact i2
      · subst q
        obtain ⟨k1, k2, k3, k4, N', i1, i2⟩ := key _ _ he enc_21 v21.symm
        refine ⟨N', i1, ?_⟩
        simp (disch := omega) only [↓lt_eq, bd, bd2, Option.bind_some, f_X8_handlerAt, f_X8_lineAt, f_X8_requestAt, nI_lit, pk_mul, nI_add, aN1, aN2, aN3, aN4, aN5, aN6, aN7, Nat.add_zero, Nat.reduceAdd, xb_nI, nI_clamp, gi_sd, si_sd, if_true, ↓reduceIte, pLEt, pLEf, pLTt, pLTf, pEQf, pML, pMG, pMf, pMg, k3, k1, k2, gl_sd, sl_sd, M_ofRequest, M_heldBy hD.R hD.R60, e3]
        exact i2
      · subst q
        obtain ⟨k1, k2, k3, k4, N', i1, i2⟩ := key _ _ wa enc_22 v22.symm
        refine ⟨N', i1, ?_⟩
        simp (disch := omega) only [↓lt_eq, bd, bd2, Option.bind_some, f_X8_handlerAt, f_X8_lineAt, f_X8_requestAt, nI_lit, pk_mul, nI_add, aN1, aN2, aN3, aN4, aN5, aN6, aN7, Nat.add_zero, Nat.reduceAdd, xb_nI, nI_clamp, gi_sd, si_sd, if_true, ↓reduceIte, pLEt, pLEf, pLTt, pLTf, pEQf, pML, pMG, pMf, pMg, k3, k1, k2, gl_sd, sl_sd]
        exact i2
def sFineV (ops : List Int32) (d : XD) (r : Nat) : Int32 := sFV ops (d (104 + 8 * r)) (d (109 + 8 * r)) (nI (sHeld d (d (108 + 8 * r)))) (d 0 - d (111 + 8 * r))
theorem sml_nI {n : Nat} (h : n ≤ 1000000) : sml (nI n) := by unfold sml; rw [nI_toInt (by omega)]; omega
/-- what the fine's value is made of is small -/
theorem fine_sml (hD : DJ ops d) (hT : tM d ≤ 1000000) {r : Nat} (hr : r < nR d) : sml (d (104 + 8 * r)) ∧ sml (d (109 + 8 * r)) ∧ sml (nI (sHeld d (d (108 + 8 * r)))) ∧ sml (d 0 - d (111 + 8 * r)) := by
  have h8 := hD.L8
  have h60 := hD.R60
  obtain ⟨⟨l, a1, a2⟩, -, ⟨x, c1, c2⟩, ⟨p, f1, f2⟩, -⟩ := hD.rq r hr
  have := sHeld_le (d := d) (d (108 + 8 * r))
  refine ⟨by rw [a2]; exact sml_nI (by omega), by rw [c2]; exact sml_nI (by omega), sml_nI (by omega), ?_⟩
  rw [hD.T, f2, pk_sub f1]
  exact sml_nI (by omega)
theorem M_fineOf (hD : DJ ops d) (hT : tM d ≤ 1000000) {r : Nat} (hr : r < nR d) : ∃ N', jn Y m N N' ∧ f_X8_fineOf Y m (nI r) (sd N (gp Y m 8) d) = some (sFineV ops d r, sd N' (gp Y m 8) d) := by
  have h60 := hD.R60
  obtain ⟨s1, s2, s3, s4⟩ := fine_sml hD hT hr
  obtain ⟨⟨g, c1⟩, c2, c3, c4, c5⟩ := hD.C
  obtain ⟨N', i1, i2⟩ := M_fineOf_L (Y := Y) (m := m) hD hr rfl rfl rfl s1 s2 s3 s4 ops 0 0 FU g (sl N (gp Y m 17) 0 (Int32.toInt64 (d (109 + 8 * r)))) (fun _ => (d (109 + 8 * r)).toInt) c1 (by rw [c4, Nat.zero_add]) (fun k hk => by rw [Nat.zero_add]; exact c5 k hk) (by omega) (by unfold FU; omega) (by omega) (fun k hk => by
    have : k = 0 := by omega
    subst this
    rw [gl_sl]
    exact ⟨i2l_of _, s2⟩)
  refine ⟨N', (jn_sl Y m N _ _).trans i1, ?_⟩
  unfold f_X8_fineOf
  simp (disch := omega) only [↓lt_eq, bd, bd2, Option.bind_some, f_X8_handlerAt, f_X8_lineAt, f_X8_requestAt, nI_lit, pk_mul, nI_add, aN1, aN2, aN3, aN4, aN5, aN6, aN7, Nat.add_zero, Nat.reduceAdd, xb_nI, nI_clamp, gi_sd, si_sd, if_true, ↓reduceIte, pLEt, pLEf, pLTt, pLTf, pEQf, pML, pMG, pMf, pMg, M_ofRequest, sl_sd]
  exact i2
end TK
