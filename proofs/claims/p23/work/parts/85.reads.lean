/-! PRUNED: of whole -/
def sSum (d : XD) (K S n : Nat) (a : Int32) : Int32 := fo (fun i a => a + d (K + S * i)) 0 n a
def sCount (d : XD) (s : Int32) : Nat := cnt (fun r => decide (d (107 + 8 * r) = s)) (nR d)
def sFreeP (d : XD) (l h : Int32) (r : Nat) : Bool := sOpen d r && (decide (d (104 + 8 * r) = l) && decide (d (108 + 8 * r) = h))
def sFree (d : XD) (l h : Int32) : Nat := cnt (sFreeP d l h) (nR d)
def sLines (d : XD) (h : Int32) : Nat := cnt (fun l => (sTP d l h).isSome) (nL d)
section RD
variable {P : Nat → Int32} {Y : XY} {m w : Nat} {N : XN} {c : Nat → Nat → Int32} {d : XD} {ops : List Int32}
theorem C_coins2_L (hY : WY Y w) (hD : DJ ops d) (hC : CR P ops d c) : ∀ (z i D9 : Nat) (a : Int32), i + z = nL d → z < D9 → f_X6_allCoins_35 Y D9 w a (nI i) (sw N w c) = some (fo (fun i a => a + d (50 + 7 * i)) i z a) := by
  have h6 := hD.H6
  have h8 := hD.L8
  have h60 := hD.R60
  intro z
  induction z with
  | zero =>
    intro i D9 a hi hD9
    obtain ⟨D8, rfl⟩ : ∃ z, D9 = z + 1 := ⟨D9 - 1, by omega⟩
    rw [f_X6_allCoins_35]
    simp (disch := omega) only [↓lt_eq, bd, bd2, Option.bind_some, nI_lit, nI_clamp, nI_add, xb_nI, if_true, gi_sw, gi_sw0, si_sw, si_sw0, hY.g0, hY.g2, hY.g4, hY.g13, hY.g14, hY.f0, hY.f2, hY.h, hY.l, hY.t, hY.r, ↓reduceIte, pLEt, pLEf, pLTt, pLTf, pEQf, pML, pMG, pMf, pMg, hC.1.w3, hD.L]
    rfl
  | succ z ih =>
    intro i D9 a hi hD9
    obtain ⟨D8, rfl⟩ : ∃ z, D9 = z + 1 := ⟨D9 - 1, by omega⟩
    rw [f_X6_allCoins_35]
    simp (disch := omega) only [↓lt_eq, bd, bd2, Option.bind_some, nI_lit, nI_clamp, nI_add, xb_nI, if_true, gi_sw, gi_sw0, si_sw, si_sw0, hY.g0, hY.g2, hY.g4, hY.g13, hY.g14, hY.f0, hY.f2, hY.h, hY.l, hY.t, hY.r, ↓reduceIte, pLEt, pLEf, pLTt, pLTf, pEQf, pML, pMG, pMf, pMg, hC.1.w3, hD.L, hC.1.l2]
    rw [ih (i + 1) D8 _ (by omega) (by omega)]
    rfl

theorem C_coins1_L (hY : WY Y w) (hD : DJ ops d) (hC : CR P ops d c) : ∀ (z i D9 : Nat) (a : Int32), i + z = nH d → z < D9 → f_X6_allCoins_7 Y D9 w a (nI i) (sw N w c) = some (sSum d 50 7 (nL d) (fo (fun i a => a + d (12 + 6 * i)) i z a)) := by
  have h6 := hD.H6
  have h8 := hD.L8
  have h60 := hD.R60
  intro z
  induction z with
  | zero =>
    intro i D9 a hi hD9
    obtain ⟨D8, rfl⟩ : ∃ z, D9 = z + 1 := ⟨D9 - 1, by omega⟩
    rw [f_X6_allCoins_7]
    simp (disch := omega) only [↓lt_eq, bd, bd2, Option.bind_some, nI_lit, nI_clamp, nI_add, xb_nI, if_true, gi_sw, gi_sw0, si_sw, si_sw0, hY.g0, hY.g2, hY.g4, hY.g13, hY.g14, hY.f0, hY.f2, hY.h, hY.l, hY.t, hY.r, ↓reduceIte, pLEt, pLEf, pLTt, pLTf, pEQf, pML, pMG, pMf, pMg, hC.1.w1, hD.H]
    exact C_coins2_L hY hD hC (nL d) 0 FU a (Nat.zero_add _) (by unfold FU; omega)
  | succ z ih =>
    intro i D9 a hi hD9
    obtain ⟨D8, rfl⟩ : ∃ z, D9 = z + 1 := ⟨D9 - 1, by omega⟩
    rw [f_X6_allCoins_7]
    simp (disch := omega) only [↓lt_eq, bd, bd2, Option.bind_some, nI_lit, nI_clamp, nI_add, xb_nI, if_true, gi_sw, gi_sw0, si_sw, si_sw0, hY.g0, hY.g2, hY.g4, hY.g13, hY.g14, hY.f0, hY.f2, hY.h, hY.l, hY.t, hY.r, ↓reduceIte, pLEt, pLEf, pLTt, pLTf, pEQf, pML, pMG, pMf, pMg, hC.1.w1, hD.H, hC.1.h0]
    rw [ih (i + 1) D8 _ (by omega) (by omega)]
    rfl

theorem C_allCoins (hY : WY Y w) (hD : DJ ops d) (hC : CR P ops d c) : f_X6_allCoins Y w (sw N w c) = some (sSum d 50 7 (nL d) (sSum d 12 6 (nH d) (d 4))) := by
  unfold f_X6_allCoins
  rw [gi_sw0, hC.1.w7]
  exact C_coins1_L hY hD hC (nH d) 0 FU (d 4) (Nat.zero_add _) (by have := hD.H6; unfold FU; omega)
theorem C_broken_L (hY : WY Y w) (hD : DJ ops d) (hC : CR P ops d c) : ∀ (z i D9 : Nat) (a : Int32), i + z = nH d → z < D9 → f_X6_bankruptHandlers_4 Y D9 w a (nI i) (sw N w c) = some (fo (fun i a => a + d (14 + 6 * i)) i z a) := by
  have h6 := hD.H6
  intro z
  induction z with
  | zero =>
    intro i D9 a hi hD9
    obtain ⟨D8, rfl⟩ : ∃ z, D9 = z + 1 := ⟨D9 - 1, by omega⟩
    rw [f_X6_bankruptHandlers_4]
    simp (disch := omega) only [↓lt_eq, bd, bd2, Option.bind_some, nI_lit, nI_clamp, nI_add, xb_nI, if_true, gi_sw, gi_sw0, si_sw, si_sw0, hY.g0, hY.g2, hY.g4, hY.g13, hY.g14, hY.f0, hY.f2, hY.h, hY.l, hY.t, hY.r, ↓reduceIte, pLEt, pLEf, pLTt, pLTf, pEQf, pML, pMG, pMf, pMg, hC.1.w1, hD.H]
    rfl
  | succ z ih =>
    intro i D9 a hi hD9
    obtain ⟨D8, rfl⟩ : ∃ z, D9 = z + 1 := ⟨D9 - 1, by omega⟩
    rw [f_X6_bankruptHandlers_4, fo]
    rcases hD.B i (by omega) with q | q
    · simp (disch := omega) only [↓lt_eq, bd, bd2, Option.bind_some, nI_lit, nI_clamp, nI_add, xb_nI, if_true, gi_sw, gi_sw0, si_sw, si_sw0, hY.g0, hY.g2, hY.g4, hY.g13, hY.g14, hY.f0, hY.f2, hY.h, hY.l, hY.t, hY.r, ↓reduceIte, pLEt, pLEf, pLTt, pLTf, pEQf, pML, pMG, pMf, pMg, hC.1.w1, hD.H, hC.1.h2, q]
      rw [ih (i + 1) D8 _ (by omega) (by omega), i32_add0]
    · simp (disch := omega) only [↓lt_eq, bd, bd2, Option.bind_some, nI_lit, nI_clamp, nI_add, xb_nI, if_true, gi_sw, gi_sw0, si_sw, si_sw0, hY.g0, hY.g2, hY.g4, hY.g13, hY.g14, hY.f0, hY.f2, hY.h, hY.l, hY.t, hY.r, ↓reduceIte, pLEt, pLEf, pLTt, pLTf, pEQf, pML, pMG, pMf, pMg, hC.1.w1, hD.H, hC.1.h2, q]
      rw [ih (i + 1) D8 _ (by omega) (by omega)]
theorem C_broken (hY : WY Y w) (hD : DJ ops d) (hC : CR P ops d c) : f_X6_bankruptHandlers Y w (sw N w c) = some (sSum d 14 6 (nH d) (nI 0)) := C_broken_L hY hD hC (nH d) 0 FU (nI 0) (Nat.zero_add _) (by have := hD.H6; unfold FU; omega)

theorem C_requestsIn_L {s : Int32} (hY : WY Y w) (hD : DJ ops d) (hC : CR P ops d c) : ∀ (z i a D9 : Nat), i + z = nR d → z < D9 → f_X6_requestsIn_4 Y D9 w s (nI a) (nI i) (sw N w c) = some (nI (a + cntF (fun r => decide (d (107 + 8 * r) = s)) i z)) := by
  have h6 := hD.H6
  have h8 := hD.L8
  have h60 := hD.R60
  intro z
  induction z with
  | zero =>
    intro i a D9 hi hD9
    obtain ⟨D8, rfl⟩ : ∃ z, D9 = z + 1 := ⟨D9 - 1, by omega⟩
    rw [f_X6_requestsIn_4]
    simp (disch := omega) only [↓lt_eq, bd, bd2, Option.bind_some, nI_lit, nI_clamp, nI_add, xb_nI, if_true, gi_sw, gi_sw0, si_sw, si_sw0, hY.g0, hY.g2, hY.g4, hY.g13, hY.g14, hY.f0, hY.f2, hY.h, hY.l, hY.t, hY.r, ↓reduceIte, pLEt, pLEf, pLTt, pLTf, pEQf, pML, pMG, pMf, pMg, hC.1.w5, hD.R]
    rfl
  | succ z ih =>
    intro i a D9 hi hD9
    obtain ⟨D8, rfl⟩ : ∃ z, D9 = z + 1 := ⟨D9 - 1, by omega⟩
    have i0 := ih (i + 1) a D8 (by omega) (by omega)
    have i1 := ih (i + 1) (a + 1) D8 (by omega) (by omega)
    rw [f_X6_requestsIn_4, cntF]
    by_cases q : d (107 + 8 * i) = s
    · rw [show (decide (d (107 + 8 * i) = s)) = true from decide_eq_true q, if_pos rfl, ← Nat.add_assoc]
      simp (disch := omega) only [↓lt_eq, bd, bd2, Option.bind_some, nI_lit, nI_clamp, nI_add, xb_nI, if_true, gi_sw, gi_sw0, si_sw, si_sw0, hY.g0, hY.g2, hY.g4, hY.g13, hY.g14, hY.f0, hY.f2, hY.h, hY.l, hY.t, hY.r, ↓reduceIte, pLEt, pLEf, pLTt, pLTf, pEQf, pML, pMG, pMf, pMg, hC.1.w5, hD.R, hC.1.r3, eq_true q]
      exact i1
    · rw [show (decide (d (107 + 8 * i) = s)) = false from decide_eq_false q, if_neg (c := false = true) (by decide), Nat.zero_add]
      simp (disch := omega) only [↓lt_eq, bd, bd2, Option.bind_some, nI_lit, nI_clamp, nI_add, xb_nI, if_true, gi_sw, gi_sw0, si_sw, si_sw0, hY.g0, hY.g2, hY.g4, hY.g13, hY.g14, hY.f0, hY.f2, hY.h, hY.l, hY.t, hY.r, ↓reduceIte, pLEt, pLEf, pLTt, pLTf, pEQf, pML, pMG, pMf, pMg, hC.1.w5, hD.R, hC.1.r3, eq_false q]
      exact i0

theorem C_linesOf_L {h : Int32} (hY : WY Y w) (hD : DJ ops d) (hC : CR P ops d c) : ∀ (z i a D9 : Nat), i + z = nL d → z < D9 → f_X6_linesOf_4 Y D9 w h (nI a) (nI i) (sw N w c) = some (nI (a + cntF (fun l => (sTP d l h).isSome) i z)) := by
  have h6 := hD.H6
  have h8 := hD.L8
  have h60 := hD.R60
  intro z
  induction z with
  | zero =>
    intro i a D9 hi hD9
    obtain ⟨D8, rfl⟩ : ∃ z, D9 = z + 1 := ⟨D9 - 1, by omega⟩
    rw [f_X6_linesOf_4]
    simp (disch := omega) only [↓lt_eq, bd, bd2, Option.bind_some, nI_lit, nI_clamp, nI_add, xb_nI, if_true, gi_sw, gi_sw0, si_sw, si_sw0, hY.g0, hY.g2, hY.g4, hY.g13, hY.g14, hY.f0, hY.f2, hY.h, hY.l, hY.t, hY.r, ↓reduceIte, pLEt, pLEf, pLTt, pLTf, pEQf, pML, pMG, pMf, pMg, hC.1.w3, hD.L]
    rfl
  | succ z ih =>
    intro i a D9 hi hD9
    obtain ⟨D8, rfl⟩ : ∃ z, D9 = z + 1 := ⟨D9 - 1, by omega⟩
    have i0 := ih (i + 1) a D8 (by omega) (by omega)
    have i1 := ih (i + 1) (a + 1) D8 (by omega) (by omega)
    rw [f_X6_linesOf_4, cntF]
    obtain ⟨t1, t2, -, -⟩ := hD.ln i (by omega)
    have mi := C_placeOf (N := N) hY hC.1 (h := h) (show i < nL d by omega) h8 t1 (Nat.le_refl _) t2
    by_cases q : (sTP d i h).isSome = true
    · rw [q, if_pos rfl, ← Nat.add_assoc]
      have z0 : (pI (sTP d i h) < nI 0) = False := eq_false (fun z => by rw [(pI_neg _ sTP_lt).1.mp z] at q; cases q)
      simp (disch := omega) only [↓lt_eq, bd, bd2, Option.bind_some, nI_lit, nI_clamp, nI_add, xb_nI, if_true, gi_sw, gi_sw0, si_sw, si_sw0, hY.g0, hY.g2, hY.g4, hY.g13, hY.g14, hY.f0, hY.f2, hY.h, hY.l, hY.t, hY.r, ↓reduceIte, pLEt, pLEf, pLTt, pLTf, pEQf, pML, pMG, pMf, pMg, hC.1.w3, hD.L, mi, q, z0]
      exact i1
    · rw [if_neg q, Nat.zero_add]
      have z0 : (pI (sTP d i h) < nI 0) = True := eq_true ((pI_neg _ sTP_lt).1.mpr (by cases z : sTP d i h with | none => rfl | some k => rw [z] at q; exact absurd rfl q))
      simp (disch := omega) only [↓lt_eq, bd, bd2, Option.bind_some, nI_lit, nI_clamp, nI_add, xb_nI, if_true, gi_sw, gi_sw0, si_sw, si_sw0, hY.g0, hY.g2, hY.g4, hY.g13, hY.g14, hY.f0, hY.f2, hY.h, hY.l, hY.t, hY.r, ↓reduceIte, pLEt, pLEf, pLTt, pLTf, pEQf, pML, pMG, pMf, pMg, hC.1.w3, hD.L, mi, eq_false q, z0, Bool.false_eq_true]
      exact i0

theorem C_openOf_L {l h : Int32} (hY : WY Y w) (hD : DJ ops d) (hC : CR P ops d c) : ∀ (z i a D9 : Nat), i + z = nR d → z < D9 → f_X6_openOf_5 Y D9 w l h (nI a) (nI i) (sw N w c) = some (nI (a + cntF (sFreeP d l h) i z)) := by
  have h6 := hD.H6
  have h8 := hD.L8
  have h60 := hD.R60
  intro z
  induction z with
  | zero =>
    intro i a D9 hi hD9
    obtain ⟨D8, rfl⟩ : ∃ z, D9 = z + 1 := ⟨D9 - 1, by omega⟩
    rw [f_X6_openOf_5]
    simp (disch := omega) only [↓lt_eq, bd, bd2, Option.bind_some, nI_lit, nI_clamp, nI_add, xb_nI, if_true, gi_sw, gi_sw0, si_sw, si_sw0, hY.g0, hY.g2, hY.g4, hY.g13, hY.g14, hY.f0, hY.f2, hY.h, hY.l, hY.t, hY.r, ↓reduceIte, pLEt, pLEf, pLTt, pLTf, pEQf, pML, pMG, pMf, pMg, hC.1.w5, hD.R]
    rfl
  | succ z ih =>
    intro i a D9 hi hD9
    obtain ⟨D8, rfl⟩ : ∃ z, D9 = z + 1 := ⟨D9 - 1, by omega⟩
    have i0 := ih (i + 1) a D8 (by omega) (by omega)
    have i1 := ih (i + 1) (a + 1) D8 (by omega) (by omega)
    rw [f_X6_openOf_5, cntF]
    by_cases q0 : sOpen d i = true
    · by_cases q1 : d (104 + 8 * i) = l
      · by_cases q2 : d (108 + 8 * i) = h
        · rw [show sFreeP d l h i = true by unfold sFreeP; rw [q0, decide_eq_true q1, decide_eq_true q2]; rfl, if_pos rfl, ← Nat.add_assoc]
          simp (disch := omega) only [↓lt_eq, bd, bd2, Option.bind_some, nI_lit, nI_clamp, nI_add, xb_nI, if_true, gi_sw, gi_sw0, si_sw, si_sw0, hY.g0, hY.g2, hY.g4, hY.g13, hY.g14, hY.f0, hY.f2, hY.h, hY.l, hY.t, hY.r, ↓reduceIte, pLEt, pLEf, pLTt, pLTf, pEQf, pML, pMG, pMf, pMg, hC.1.w5, hD.R, hC.1.r3, hC.1.r0, hC.1.r4, eq_true (of_decide_eq_true q0), eq_true q1, eq_true q2]
          exact i1
        · rw [show sFreeP d l h i = false by unfold sFreeP; rw [decide_eq_false q2, Bool.and_false, Bool.and_false], if_neg (c := false = true) (by decide), Nat.zero_add]
          simp (disch := omega) only [↓lt_eq, bd, bd2, Option.bind_some, nI_lit, nI_clamp, nI_add, xb_nI, if_true, gi_sw, gi_sw0, si_sw, si_sw0, hY.g0, hY.g2, hY.g4, hY.g13, hY.g14, hY.f0, hY.f2, hY.h, hY.l, hY.t, hY.r, ↓reduceIte, pLEt, pLEf, pLTt, pLTf, pEQf, pML, pMG, pMf, pMg, hC.1.w5, hD.R, hC.1.r3, hC.1.r0, hC.1.r4, eq_true (of_decide_eq_true q0), eq_true q1, eq_false q2]
          exact i0
      · rw [show sFreeP d l h i = false by unfold sFreeP; rw [decide_eq_false q1, Bool.false_and, Bool.and_false], if_neg (c := false = true) (by decide), Nat.zero_add]
        simp (disch := omega) only [↓lt_eq, bd, bd2, Option.bind_some, nI_lit, nI_clamp, nI_add, xb_nI, if_true, gi_sw, gi_sw0, si_sw, si_sw0, hY.g0, hY.g2, hY.g4, hY.g13, hY.g14, hY.f0, hY.f2, hY.h, hY.l, hY.t, hY.r, ↓reduceIte, pLEt, pLEf, pLTt, pLTf, pEQf, pML, pMG, pMf, pMg, hC.1.w5, hD.R, hC.1.r3, hC.1.r0, hC.1.r4, eq_true (of_decide_eq_true q0), eq_false q1]
        exact i0
    · rw [show sFreeP d l h i = false by unfold sFreeP; rw [Bool.eq_false_iff.mpr q0, Bool.false_and], if_neg (c := false = true) (by decide), Nat.zero_add]
      simp (disch := omega) only [↓lt_eq, bd, bd2, Option.bind_some, nI_lit, nI_clamp, nI_add, xb_nI, if_true, gi_sw, gi_sw0, si_sw, si_sw0, hY.g0, hY.g2, hY.g4, hY.g13, hY.g14, hY.f0, hY.f2, hY.h, hY.l, hY.t, hY.r, ↓reduceIte, pLEt, pLEf, pLTt, pLTf, pEQf, pML, pMG, pMf, pMg, hC.1.w5, hD.R, hC.1.r3, hC.1.r0, hC.1.r4, eq_false (fun z => q0 (decide_eq_true z))]
      exact i0

theorem zadd {f : Nat} : nI (0 + f) = nI f := by rw [Nat.zero_add]
theorem C_requestsIn {s : Int32} (hY : WY Y w) (hD : DJ ops d) (hC : CR P ops d c) : f_X6_requestsIn Y w s (sw N w c) = some (nI (sCount d s)) := (C_requestsIn_L hY hD hC (nR d) 0 0 FU (Nat.zero_add _) (by have := hD.R60; unfold FU; omega)).trans (by rw [zadd]; rfl)
theorem C_linesOf {h : Int32} (hY : WY Y w) (hD : DJ ops d) (hC : CR P ops d c) : f_X6_linesOf Y w h (sw N w c) = some (nI (sLines d h)) := (C_linesOf_L hY hD hC (nL d) 0 0 FU (Nat.zero_add _) (by have := hD.L8; unfold FU; omega)).trans (by rw [zadd]; rfl)
theorem C_openOf {l h : Int32} (hY : WY Y w) (hD : DJ ops d) (hC : CR P ops d c) : f_X6_openOf Y w l h (sw N w c) = some (nI (sFree d l h)) := (C_openOf_L hY hD hC (nR d) 0 0 FU (Nat.zero_add _) (by have := hD.R60; unfold FU; omega)).trans (by rw [zadd]; rfl)
/-- what state tells -/
def sTold (d : XD) (k : Nat) : Int32 := if k < 5 then d k else if k < 8 then nI (sCount d (nI (k - 4))) else if k = 8 then sSum d 14 6 (nH d) (nI 0) else sSum d 50 7 (nL d) (sSum d 12 6 (nH d) (d 4))
def sToldH (d : XD) (h k : Nat) : Int32 := if k < 3 then d (12 + 6 * h + k) else if k = 3 then nI (sHeld d (nI h)) else if k = 4 then nI (sLines d (nI h)) else d (12 + 6 * h + (k - 2))
def sToldL (d : XD) (l k : Nat) : Int32 := if k < 4 then d (48 + 7 * l + k) else nI (sFree d (nI l) (-nI 1))
end RD

