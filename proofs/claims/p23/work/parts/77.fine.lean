/-! PRUNED: of whole -/
def clM (v : Int) : Int := if v < -1000000 then -1000000 else if 1000000 < v then 1000000 else v
theorem clM_b (v : Int) : -1000000 ≤ clM v ∧ clM v ≤ 1000000 := by
  unfold clM
  split
  · omega
  · split <;> omega
theorem clM_id {v : Int} (h1 : -1000000 ≤ v) (h2 : v ≤ 1000000) : clM v = v := by
  unfold clM
  rw [if_neg (by omega), if_neg (by omega)]
def opV (x : Int32) (a b : Int) : Int := if x = -nI 6 then clM (a + b) else if x = -nI 7 then clM (a - b) else if x = -nI 8 then clM (a * b) else if b = 0 then 0 else a.tdiv b
def lfV (x li le he wa : Int32) : Int := if nI 0 ≤ x then x.toInt else if x = -nI 12 then li.toInt else if x = -nI 20 then le.toInt else if x = -nI 21 then he.toInt else wa.toInt
def ev (li le he wa : Int32) : List Int32 → Nat → (Nat → Int) → (Nat → Int)
  | [], _, st => st
  | x :: t, h, st => if isOp x = true then ev li le he wa t (h - 1) (fun j => if j = h - 2 then opV x (st (h - 2)) (st (h - 1)) else st j) else ev li le he wa t (h + 1) (fun j => if j = h then lfV x li le he wa else st j)
def fnV (v : Int) : Int32 := if v < 0 then nI 0 else if 9999 < v then nI 9999 else Int32.ofInt v
def sFV (ops : List Int32) (li le he wa : Int32) : Int32 := fnV (ev li le he wa ops 0 (fun _ => le.toInt) 0)
theorem tdiv_b {a b : Int} (h1 : -1000000 ≤ a) (h2 : a ≤ 1000000) : -1000000 ≤ a.tdiv b ∧ a.tdiv b ≤ 1000000 := by
  have h3 : (a.tdiv b).natAbs = a.natAbs / b.natAbs := Int.natAbs_tdiv a b
  have h4 : a.natAbs / b.natAbs ≤ a.natAbs := Nat.div_le_self _ _
  omega
theorem opV_b {x : Int32} {a b : Int} (h1 : -1000000 ≤ a) (h2 : a ≤ 1000000) : -1000000 ≤ opV x a b ∧ opV x a b ≤ 1000000 := by
  unfold opV
  split
  · exact clM_b _
  · split
    · exact clM_b _
    · split
      · exact clM_b _
      · split
        · omega
        · exact tdiv_b h1 h2
theorem oI_toInt {v : Int} (h1 : -1000000 ≤ v) (h2 : v ≤ 1000000) : (Int32.ofInt v).toInt = v := Int32.toInt_ofInt_of_le (by omega) (by omega)
theorem l2i_of {x : Int64} : x.toInt32 = Int32.ofInt x.toInt := Int32.toInt_inj.mp (by rw [Int64.toInt_toInt32, Int32.toInt_ofInt])
theorem lcm_i : ((-1000000 : Int64)).toInt = -1000000 ∧ ((1000000 : Int64)).toInt = 1000000 := by decide
theorem isOp_or {x : Int32} (h : isOp x = true) : x = -nI 6 ∨ x = -nI 7 ∨ x = -nI 8 ∨ x = -nI 9 := by
  unfold isOp at h
  simp only [Bool.or_eq_true, decide_eq_true_eq] at h
  rcases h with ((h | h) | h) | h
  · exact Or.inl h
  · exact Or.inr (Or.inl h)
  · exact Or.inr (Or.inr (Or.inl h))
  · exact Or.inr (Or.inr (Or.inr h))
theorem isLeaf_or {x : Int32} (h : isLeaf x = true) : (nI 0 ≤ x ∧ x ≤ nI 9999) ∨ x = -nI 12 ∨ x = -nI 20 ∨ x = -nI 21 ∨ x = -nI 22 := by
  unfold isLeaf at h
  simp only [Bool.or_eq_true, decide_eq_true_eq] at h
  rcases h with (((h | h) | h) | h) | h
  · exact Or.inl h
  · exact Or.inr (Or.inl h)
  · exact Or.inr (Or.inr (Or.inl h))
  · exact Or.inr (Or.inr (Or.inr (Or.inl h)))
  · exact Or.inr (Or.inr (Or.inr (Or.inr h)))
theorem C_clamp (w : Int64) : (if 0 ≤ lg_cmp w (-1000000) then (if lg_cmp w 1000000 ≤ 0 then some (Int64.toInt32 w) else some (Int64.toInt32 1000000)) else some (Int64.toInt32 (-1000000))) = some (Int32.ofInt (clM w.toInt)) := by
  obtain ⟨c1, c2⟩ := lcm_i
  by_cases h1 : (-1000000 : Int64) ≤ w
  · rw [if_pos ((lg_cmp_ge _ _).mpr h1)]
    rw [Int64.le_iff_toInt_le, c1] at h1
    by_cases h2 : w ≤ (1000000 : Int64)
    · rw [if_pos ((lg_cmp_le _ _).mpr h2)]
      rw [Int64.le_iff_toInt_le, c2] at h2
      rw [clM_id h1 h2, l2i_of]
    · rw [if_neg (fun q => h2 ((lg_cmp_le _ _).mp q))]
      rw [Int64.le_iff_toInt_le, c2] at h2
      unfold clM
      rw [if_neg (by omega), if_pos (by omega), l2i_of, c2]
  · rw [if_neg (fun q => h1 ((lg_cmp_ge _ _).mp q))]
    rw [Int64.le_iff_toInt_le, c1] at h1
    unfold clM
    rw [if_pos (by omega), l2i_of, c1]
theorem lg_i2l_mul (x y : Int32) : (x.toInt64 * y.toInt64).toInt = x.toInt * y.toInt := by
  rw [Int64.toInt_mul, Int32.toInt_toInt64, Int32.toInt_toInt64]
  have h1 := Int32.toInt_lt x
  have h2 := Int32.le_toInt x
  have h3 := Int32.toInt_lt y
  have h4 := Int32.le_toInt y
  have a1 : x.toInt.natAbs ≤ 2 ^ 31 := by omega
  have a2 : y.toInt.natAbs ≤ 2 ^ 31 := by omega
  have a3 : (x.toInt * y.toInt).natAbs ≤ 2 ^ 31 * 2 ^ 31 := by rw [Int.natAbs_mul]; exact Nat.mul_le_mul a1 a2
  refine Int.bmod_eq_of_le ?_ ?_ <;> omega
section OV
variable {a b : Int}
theorem o6 : opV (-nI 6) a b = clM (a + b) := by unfold opV; rw [if_pos rfl]
theorem o7 : opV (-nI 7) a b = clM (a - b) := by unfold opV; rw [if_neg (by decide), if_pos rfl]
theorem o8 : opV (-nI 8) a b = clM (a * b) := by unfold opV; rw [if_neg (by decide), if_neg (by decide), if_pos rfl]
theorem o9 : opV (-nI 9) a b = if b = 0 then 0 else a.tdiv b := by unfold opV; rw [if_neg (by decide), if_neg (by decide), if_neg (by decide)]
end OV
theorem C_result {Y : XY} {N : XN} {x : Int32} {A B : Int} (hx : isOp x = true) (a1 : -1000000 ≤ A) (a2 : A ≤ 1000000) (b1 : -1000000 ≤ B) (b2 : B ≤ 1000000) : f_X0_result Y (-x) (Int32.ofInt A) (Int32.ofInt B) N = some (Int32.ofInt (opV x A B)) := by
  have eA := oI_toInt a1 a2
  have eB := oI_toInt b1 b2
  unfold f_X0_result lt
  dsimp only
  rcases isOp_or hx with rfl | rfl | rfl | rfl
  · rw [o6, if_pos (by decide), C_clamp, lg_i2l_add, eA, eB]
  · rw [o7, if_neg (by decide), if_pos (by decide), C_clamp, lg_i2l_sub, eA, eB]
  · rw [o8, if_neg (by decide), if_neg (by decide), if_pos (by decide), C_clamp, lg_i2l_mul, eA, eB]
  · rw [o9, if_neg (by decide), if_neg (by decide), if_neg (by decide)]
    have hz : Int32.ofInt B = 0 ↔ B = 0 := ⟨fun q => by rw [q] at eB; exact eB.symm, fun q => by rw [q]; rfl⟩
    by_cases q : B = 0
    · rw [if_pos (hz.mpr q), if_pos q, C_clamp]
      decide
    · rw [if_neg (fun q2 => q (hz.mp q2)), if_neg (fun q2 => q (hz.mp q2)), if_neg q, C_clamp, Int32.toInt_toInt64]
      have hd : (Int32.ofInt A / Int32.ofInt B).toInt = A.tdiv B := by
        rw [Int32.toInt_div_of_ne_left _ _ (fun q2 => by
          have := congrArg Int32.toInt q2
          rw [eA] at this
          have h9 : Int32.minValue.toInt = -2147483648 := by decide
          omega), eA, eB]
      obtain ⟨t1, t2⟩ := tdiv_b (b := B) a1 a2
      rw [hd, clM_id t1 t2]
theorem C_fnV {σ : Type} (v : Int32) (N : σ) : (if nI 0 ≤ v then (if v ≤ nI 9999 then some (v, N) else some (nI 9999, N)) else some (nI 0, N)) = some (fnV v.toInt, N) := by
  have c0 : (nI 0).toInt = 0 := by decide
  have c9 : (nI 9999).toInt = 9999 := by decide
  by_cases h1 : nI 0 ≤ v
  · rw [if_pos h1]
    rw [Int32.le_iff_toInt_le, c0] at h1
    by_cases h2 : v ≤ nI 9999
    · rw [if_pos h2]
      rw [Int32.le_iff_toInt_le, c9] at h2
      unfold fnV
      rw [if_neg (by omega), if_neg (by omega), Int32.ofInt_toInt]
    · rw [if_neg h2]
      rw [Int32.le_iff_toInt_le, c9] at h2
      unfold fnV
      rw [if_neg (by omega), if_pos (by omega)]
  · rw [if_neg h1]
    rw [Int32.le_iff_toInt_le, c0] at h1
    unfold fnV
    rw [if_pos (by omega)]
theorem okS_op {x : Int32} {t : List Int32} {h g : Nat} (hx : isOp x = true) (ho : okS (x :: t) h = some g) : 2 ≤ h ∧ okS t (h - 1) = some g := by
  unfold okS at ho
  rw [if_pos hx] at ho
  split at ho
  · rename_i q; exact ⟨q, ho⟩
  · cases ho
theorem okS_leaf {x : Int32} {t : List Int32} {h g : Nat} (hx : isOp x = false) (ho : okS (x :: t) h = some g) : isLeaf x = true ∧ h < 16 ∧ okS t (h + 1) = some g := by
  unfold okS at ho
  rw [if_neg (by rw [hx]; decide)] at ho
  split at ho
  · rename_i q
    split at ho
    · rename_i q2; exact ⟨q, q2, ho⟩
    · cases ho
  · cases ho
/-- small enough for the fine -/
def sml (x : Int32) : Prop := -1000000 ≤ x.toInt ∧ x.toInt ≤ 1000000
theorem lfV_b {x li le he wa : Int32} (hx : isLeaf x = true) (h1 : sml li) (h2 : sml le) (h3 : sml he) (h4 : sml wa) : -1000000 ≤ lfV x li le he wa ∧ lfV x li le he wa ≤ 1000000 := by
  have c0 : (nI 0).toInt = 0 := by decide
  have c9 : (nI 9999).toInt = 9999 := by decide
  unfold sml at *
  unfold lfV
  rcases isLeaf_or hx with h | h | h | h | h
  · rw [if_pos h.1]
    rw [Int32.le_iff_toInt_le, Int32.le_iff_toInt_le, c0, c9] at h
    omega
  all_goals
    subst h
    rw [if_neg (by decide)]
    split
    · assumption
    · split
      · assumption
      · split <;> assumption
section LV
variable {li le he wa : Int32}
theorem v12 : lfV (-nI 12) li le he wa = li.toInt := by unfold lfV; rw [if_neg (by decide), if_pos rfl]
theorem v20 : lfV (-nI 20) li le he wa = le.toInt := by unfold lfV; rw [if_neg (by decide), if_neg (by decide), if_pos rfl]
theorem v21 : lfV (-nI 21) li le he wa = he.toInt := by unfold lfV; rw [if_neg (by decide), if_neg (by decide), if_neg (by decide), if_pos rfl]
theorem v22 : lfV (-nI 22) li le he wa = wa.toInt := by unfold lfV; rw [if_neg (by decide), if_neg (by decide), if_neg (by decide), if_neg (by decide)]
end LV
section FV
variable {Y : XY} {w : Nat} {N : XN}
theorem C_value_L (hY : WY Y w) {li le he wa : Int32} (s1 : sml li) (s2 : sml le) (s3 : sml he) (s4 : sml wa) : ∀ (rest : List Int32) (i h D9 g : Nat) (c : Nat → Nat → Int32) (st : Nat → Int), okS rest h = some g → c 4 1 = nI (i + rest.length) → (∀ k, k < rest.length → c 5 (i + k) = rest.getD k 0) → i + rest.length ≤ 700 → rest.length < D9 → h ≤ 16 → (0 < i → 0 < h) → (∀ k, k < h → c 6 k = Int32.ofInt (st k) ∧ -1000000 ≤ st k ∧ st k ≤ 1000000) → (i = 0 → st 0 = le.toInt) →
    ∃ c', f_X0_value_6 Y D9 (w + 4) li le he wa (nI h) (nI i) (sw N w c) = some (fnV (ev li le he wa rest h st 0), sw N w c') ∧ ∀ o k, o ≠ 6 → c' o k = c o k := by
  intro rest
  induction rest with
  | nil =>
    intro i h D9 g c st ho hc hk hi hD hh h0 hs hz
    obtain ⟨D8, rfl⟩ : ∃ z, D9 = z + 1 := ⟨D9 - 1, by omega⟩
    simp only [List.length_nil, Nat.add_zero] at hc hi
    refine ⟨c, ?_, fun _ _ _ => rfl⟩
    rw [f_X0_value_6]
    by_cases q : i = 0
    · subst q
      simp (disch := omega) only [↓lt_eq, bd, bd2, Option.bind_some, nI_lit, nI_clamp, nI_add, xb_nI, if_true, gi_sw, gi_sw0, si_sw, si_sw0, hY.g0, hY.g2, hY.g4, hY.g13, hY.g14, hY.f0, hY.f2, hY.h, hY.l, hY.t, hY.r, ↓reduceIte, pLEt, pLEf, pLTt, pLTf, pEQf, pML, pMG, pMf, pMg, hc]
      rw [ev, hz rfl]
      exact C_fnV le _
    · have h1 := hs 0 (h0 (by omega))
      simp (disch := omega) only [↓lt_eq, bd, bd2, Option.bind_some, nI_lit, nI_clamp, nI_add, xb_nI, if_true, gi_sw, gi_sw0, si_sw, si_sw0, hY.g0, hY.g2, hY.g4, hY.g13, hY.g14, hY.f0, hY.f2, hY.h, hY.l, hY.t, hY.r, ↓reduceIte, pLEt, pLEf, pLTt, pLTf, pEQf, pML, pMG, pMf, pMg, hc]
      rw [ev, h1.1]
      have := C_fnV (Int32.ofInt (st 0)) (sw N w c)
      rw [oI_toInt h1.2.1 h1.2.2] at this
      exact this
  | cons x t ih =>
    intro i h D9 g c st ho hc hk hi hD hh h0 hs hz
    obtain ⟨D8, rfl⟩ : ∃ z, D9 = z + 1 := ⟨D9 - 1, by omega⟩
    simp only [List.length_cons] at hc hi hk hD
    have hx : c 5 i = x := hk 0 (by omega)
    have hk' : ∀ k, k < t.length → c 5 (i + 1 + k) = t.getD k 0 := by
      intro k hk9
      have := hk (k + 1) (by omega)
      rw [show i + 1 + k = i + (k + 1) by omega]
      exact this
    rw [f_X0_value_6, ev]
    cases hop : isOp x with
    | true =>
      obtain ⟨h2, ho'⟩ := okS_op hop ho
      obtain ⟨u1, u2, u3⟩ := hs (h - 2) (by omega)
      obtain ⟨v1, v2, v3⟩ := hs (h - 1) (by omega)
      have hr := C_result (Y := Y) (N := sw N w c) hop u2 u3 v2 v3
      have b1 : ¬ (-nI 6 < x) := by rcases isOp_or hop with rfl | rfl | rfl | rfl <;> decide
      have b2 : ¬ (x < -nI 9) := by rcases isOp_or hop with rfl | rfl | rfl | rfl <;> decide
      have e1 : nI h + -nI 1 = nI (h - 1) := by
        rw [show h = (h - 1) + 1 by omega]
        exact pk_m1 _
      obtain ⟨c', i1, i2⟩ := ih (i + 1) (h - 1) D8 g (up2 c 6 (h - 2) (Int32.ofInt (opV x (st (h - 2)) (st (h - 1))))) (fun j => if j = h - 2 then opV x (st (h - 2)) (st (h - 1)) else st j) ho' (by rw [up2_n _ _ (by omega), hc]; congr 1; omega) (fun k hk9 => by rw [up2_n _ _ (by omega)]; exact hk' k hk9) (by omega) (by omega) (by omega) (by omega) (fun k hk9 => by
          by_cases q : k = h - 2
          · subst q
            rw [up2_s]
            simp only [if_true]
            exact ⟨trivial, opV_b u2 u3⟩
          · rw [up2_n _ _ (by omega)]
            simp only [if_neg q]
            exact hs k (by omega)) (by omega)
      refine ⟨c', ?_, fun o k hk9 => (i2 o k hk9).trans (up2_n _ _ (by omega))⟩
      simp (disch := omega) only [↓lt_eq, bd, bd2, Option.bind_some, nI_lit, nI_clamp, nI_add, xb_nI, if_true, gi_sw, gi_sw0, si_sw, si_sw0, hY.g0, hY.g2, hY.g4, hY.g13, hY.g14, hY.f0, hY.f2, hY.h, hY.l, hY.t, hY.r, ↓reduceIte, pLEt, pLEf, pLTt, pLTf, pEQf, pML, pMG, pMf, pMg, hc, hx, eq_false b1, eq_false b2, pk_sub, u1, v1, hr, e1]
      exact i1
    | false =>
      obtain ⟨hlf, h16, ho'⟩ := okS_leaf hop ho
      obtain ⟨l1, l2⟩ := lfV_b hlf s1 s2 s3 s4
      have IH := fun v (hv : v = Int32.ofInt (lfV x li le he wa)) => ih (i + 1) (h + 1) D8 g (up2 c 6 h v) (fun j => if j = h then lfV x li le he wa else st j) ho' (by rw [up2_n _ _ (by omega), hc]; congr 1; omega) (fun k hk9 => by rw [up2_n _ _ (by omega)]; exact hk' k hk9) (by omega) (by omega) (by omega) (by omega) (fun k hk9 => by
          by_cases q : k = h
          · subst q
            rw [up2_s]
            simp only [if_true]
            exact ⟨hv, l1, l2⟩
          · rw [up2_n _ _ (by omega)]
            simp only [if_neg q]
            exact hs k (by omega)) (by omega)
      simp only [Bool.false_eq_true, if_false]
      rcases isLeaf_or hlf with q | q | q | q | q
      · obtain ⟨c', i1, i2⟩ := IH x (by unfold lfV; rw [if_pos q.1, Int32.ofInt_toInt])
        refine ⟨c', ?_, fun o k hk9 => (i2 o k hk9).trans (up2_n _ _ (by omega))⟩
        have b1 : -nI 6 < x := by
          have := q.1
          rw [Int32.le_iff_toInt_le] at this
          rw [Int32.lt_iff_toInt_lt]
          have c0 : (nI 0).toInt = 0 := by decide
          have c6 : (-nI 6).toInt = -6 := by decide
          omega
        have b2 : ¬ x < nI 0 := fun z => by
          have := q.1
          rw [Int32.le_iff_toInt_le] at this
          rw [Int32.lt_iff_toInt_lt] at z
          omega
        simp (disch := omega) only [↓lt_eq, bd, bd2, Option.bind_some, nI_lit, nI_clamp, nI_add, xb_nI, if_true, gi_sw, gi_sw0, si_sw, si_sw0, hY.g0, hY.g2, hY.g4, hY.g13, hY.g14, hY.f0, hY.f2, hY.h, hY.l, hY.t, hY.r, ↓reduceIte, pLEt, pLEf, pLTt, pLTf, pEQf, pML, pMG, pMf, pMg, hc, hx, eq_true b1, eq_false b2]
        exact i1
      · subst q
        obtain ⟨c', i1, i2⟩ := IH li (by rw [v12, Int32.ofInt_toInt])
        refine ⟨c', ?_, fun o k hk9 => (i2 o k hk9).trans (up2_n _ _ (by omega))⟩
        simp (disch := omega) only [↓lt_eq, bd, bd2, Option.bind_some, nI_lit, nI_clamp, nI_add, xb_nI, if_true, gi_sw, gi_sw0, si_sw, si_sw0, hY.g0, hY.g2, hY.g4, hY.g13, hY.g14, hY.f0, hY.f2, hY.h, hY.l, hY.t, hY.r, ↓reduceIte, pLEt, pLEf, pLTt, pLTf, pEQf, pML, pMG, pMf, pMg, hc, hx, eq_false (show ¬ -nI 6 < -nI 12 by decide), eq_true (show -nI 12 < -nI 9 by decide), eq_true (show -nI 12 < nI 0 by decide), eq_false (show ¬ -nI 12 = -nI 20 by decide), eq_false (show ¬ -nI 12 = -nI 21 by decide)]
        exact i1
      · subst q
        obtain ⟨c', i1, i2⟩ := IH le (by rw [v20, Int32.ofInt_toInt])
        refine ⟨c', ?_, fun o k hk9 => (i2 o k hk9).trans (up2_n _ _ (by omega))⟩
        simp (disch := omega) only [↓lt_eq, bd, bd2, Option.bind_some, nI_lit, nI_clamp, nI_add, xb_nI, if_true, gi_sw, gi_sw0, si_sw, si_sw0, hY.g0, hY.g2, hY.g4, hY.g13, hY.g14, hY.f0, hY.f2, hY.h, hY.l, hY.t, hY.r, ↓reduceIte, pLEt, pLEf, pLTt, pLTf, pEQf, pML, pMG, pMf, pMg, hc, hx, eq_false (show ¬ -nI 6 < -nI 20 by decide), eq_true (show -nI 20 < -nI 9 by decide), eq_true (show -nI 20 < nI 0 by decide), eq_false (show ¬ -nI 20 = -nI 12 by decide), eq_false (show ¬ -nI 20 = -nI 21 by decide)]
        exact i1
      · subst q
        obtain ⟨c', i1, i2⟩ := IH he (by rw [v21, Int32.ofInt_toInt])
        refine ⟨c', ?_, fun o k hk9 => (i2 o k hk9).trans (up2_n _ _ (by omega))⟩
        simp (disch := omega) only [↓lt_eq, bd, bd2, Option.bind_some, nI_lit, nI_clamp, nI_add, xb_nI, if_true, gi_sw, gi_sw0, si_sw, si_sw0, hY.g0, hY.g2, hY.g4, hY.g13, hY.g14, hY.f0, hY.f2, hY.h, hY.l, hY.t, hY.r, ↓reduceIte, pLEt, pLEf, pLTt, pLTf, pEQf, pML, pMG, pMf, pMg, hc, hx, eq_false (show ¬ -nI 6 < -nI 21 by decide), eq_true (show -nI 21 < -nI 9 by decide), eq_true (show -nI 21 < nI 0 by decide), eq_false (show ¬ -nI 21 = -nI 12 by decide), eq_false (show ¬ -nI 21 = -nI 20 by decide)]
        exact i1
      · subst q
        obtain ⟨c', i1, i2⟩ := IH wa (by rw [v22, Int32.ofInt_toInt])
        refine ⟨c', ?_, fun o k hk9 => (i2 o k hk9).trans (up2_n _ _ (by omega))⟩
        simp (disch := omega) only [↓lt_eq, bd, bd2, Option.bind_some, nI_lit, nI_clamp, nI_add, xb_nI, if_true, gi_sw, gi_sw0, si_sw, si_sw0, hY.g0, hY.g2, hY.g4, hY.g13, hY.g14, hY.f0, hY.f2, hY.h, hY.l, hY.t, hY.r, ↓reduceIte, pLEt, pLEf, pLTt, pLTf, pEQf, pML, pMG, pMf, pMg, hc, hx, eq_false (show ¬ -nI 6 < -nI 22 by decide), eq_true (show -nI 22 < -nI 9 by decide), eq_true (show -nI 22 < nI 0 by decide), eq_false (show ¬ -nI 22 = -nI 12 by decide), eq_false (show ¬ -nI 22 = -nI 20 by decide), eq_false (show ¬ -nI 22 = -nI 21 by decide)]
        exact i1
end FV

