/-! COUNTS AND SUMS, ON BOTH SIDES (laid out by gen85.py) -/
def cB (b : Bool) : Nat := if b then 1 else 0
def sSum (d : XD) (K S n : Nat) (a : Int32) : Int32 := fo (fun i a => a + d (K + S * i)) 0 n a
def sCount (d : XD) (s : Int32) : Nat := cnt (fun r => decide (d (107 + 8 * r) = s)) (nR d)
def sFreeP (d : XD) (l h : Int32) (r : Nat) : Bool := sOpen d r && (decide (d (104 + 8 * r) = l) && decide (d (108 + 8 * r) = h))
def sFree (d : XD) (l h : Int32) : Nat := cnt (sFreeP d l h) (nR d)
def sLines (d : XD) (h : Int32) : Nat := cnt (fun l => (sTP d l h).isSome) (nL d)
section RD
variable {P : Nat → Int32} {Y : XY} {m w : Nat} {N : XN} {c : Nat → Nat → Int32} {d : XD} {ops : List Int32}
theorem i32_0add (a : Int32) : nI 0 + a = a := by
  have : 0 + a = a := by simp
  exact this

theorem M_broken_L (hD : DJ ops d) : ∀ (z i D9 : Nat) (a : Int32), i + z = nH d → z < D9 → f_X8_broken_4 Y D9 m a (nI i) (sd N (gp Y m 8) d) = some (fo (fun i a => a + d (14 + 6 * i)) i z a) := by
  have h6 := hD.H6
  have h8 := hD.L8
  have h60 := hD.R60
  intro z
  induction z with
  | zero =>
    intro i D9 a hi hD9
    obtain ⟨D8, rfl⟩ : ∃ z, D9 = z + 1 := ⟨D9 - 1, by omega⟩
    rw [f_X8_broken_4]
    simp (disch := omega) only [↓lt_eq, bd, bd2, Option.bind_some, f_X8_handlerAt, f_X8_lineAt, f_X8_requestAt, nI_lit, pk_mul, nI_add, aN1, aN2, aN3, aN4, aN5, aN6, aN7, Nat.add_zero, Nat.reduceAdd, xb_nI, nI_clamp, gi_sd, si_sd, if_true, ↓reduceIte, pLEt, pLEf, pLTt, pLTf, pEQf, pML, pMG, pMf, pMg, hD.H]
    rfl
  | succ z ih =>
    intro i D9 a hi hD9
    obtain ⟨D8, rfl⟩ : ∃ z, D9 = z + 1 := ⟨D9 - 1, by omega⟩
    rw [f_X8_broken_4]
    simp (disch := omega) only [↓lt_eq, bd, bd2, Option.bind_some, f_X8_handlerAt, f_X8_lineAt, f_X8_requestAt, nI_lit, pk_mul, nI_add, aN1, aN2, aN3, aN4, aN5, aN6, aN7, Nat.add_zero, Nat.reduceAdd, xb_nI, nI_clamp, gi_sd, si_sd, if_true, ↓reduceIte, pLEt, pLEf, pLTt, pLTf, pEQf, pML, pMG, pMf, pMg, hD.H, f_X8_ofHandler]
    rw [ih (i + 1) D8 _ (by omega) (by omega)]
    rfl

theorem M_finesPaid_L (hD : DJ ops d) : ∀ (z i D9 : Nat) (a : Int32), i + z = nH d → z < D9 → f_X8_finesPaid_4 Y D9 m a (nI i) (sd N (gp Y m 8) d) = some (fo (fun i a => a + d (15 + 6 * i)) i z a) := by
  have h6 := hD.H6
  have h8 := hD.L8
  have h60 := hD.R60
  intro z
  induction z with
  | zero =>
    intro i D9 a hi hD9
    obtain ⟨D8, rfl⟩ : ∃ z, D9 = z + 1 := ⟨D9 - 1, by omega⟩
    rw [f_X8_finesPaid_4]
    simp (disch := omega) only [↓lt_eq, bd, bd2, Option.bind_some, f_X8_handlerAt, f_X8_lineAt, f_X8_requestAt, nI_lit, pk_mul, nI_add, aN1, aN2, aN3, aN4, aN5, aN6, aN7, Nat.add_zero, Nat.reduceAdd, xb_nI, nI_clamp, gi_sd, si_sd, if_true, ↓reduceIte, pLEt, pLEf, pLTt, pLTf, pEQf, pML, pMG, pMf, pMg, hD.H]
    rfl
  | succ z ih =>
    intro i D9 a hi hD9
    obtain ⟨D8, rfl⟩ : ∃ z, D9 = z + 1 := ⟨D9 - 1, by omega⟩
    rw [f_X8_finesPaid_4]
    simp (disch := omega) only [↓lt_eq, bd, bd2, Option.bind_some, f_X8_handlerAt, f_X8_lineAt, f_X8_requestAt, nI_lit, pk_mul, nI_add, aN1, aN2, aN3, aN4, aN5, aN6, aN7, Nat.add_zero, Nat.reduceAdd, xb_nI, nI_clamp, gi_sd, si_sd, if_true, ↓reduceIte, pLEt, pLEf, pLTt, pLTf, pEQf, pML, pMG, pMf, pMg, hD.H, f_X8_ofHandler]
    rw [ih (i + 1) D8 _ (by omega) (by omega)]
    rfl

theorem M_coins2_L (hD : DJ ops d) : ∀ (z i D9 : Nat) (a : Int32), i + z = nL d → z < D9 → f_X8_coins_36 Y D9 m a (nI i) (sd N (gp Y m 8) d) = some (fo (fun i a => a + d (50 + 7 * i)) i z a) := by
  have h6 := hD.H6
  have h8 := hD.L8
  have h60 := hD.R60
  intro z
  induction z with
  | zero =>
    intro i D9 a hi hD9
    obtain ⟨D8, rfl⟩ : ∃ z, D9 = z + 1 := ⟨D9 - 1, by omega⟩
    rw [f_X8_coins_36]
    simp (disch := omega) only [↓lt_eq, bd, bd2, Option.bind_some, f_X8_handlerAt, f_X8_lineAt, f_X8_requestAt, nI_lit, pk_mul, nI_add, aN1, aN2, aN3, aN4, aN5, aN6, aN7, Nat.add_zero, Nat.reduceAdd, xb_nI, nI_clamp, gi_sd, si_sd, if_true, ↓reduceIte, pLEt, pLEf, pLTt, pLTf, pEQf, pML, pMG, pMf, pMg, hD.L]
    rfl
  | succ z ih =>
    intro i D9 a hi hD9
    obtain ⟨D8, rfl⟩ : ∃ z, D9 = z + 1 := ⟨D9 - 1, by omega⟩
    rw [f_X8_coins_36]
    simp (disch := omega) only [↓lt_eq, bd, bd2, Option.bind_some, f_X8_handlerAt, f_X8_lineAt, f_X8_requestAt, nI_lit, pk_mul, nI_add, aN1, aN2, aN3, aN4, aN5, aN6, aN7, Nat.add_zero, Nat.reduceAdd, xb_nI, nI_clamp, gi_sd, si_sd, if_true, ↓reduceIte, pLEt, pLEf, pLTt, pLTf, pEQf, pML, pMG, pMf, pMg, hD.L, f_X8_ofLine]
    rw [ih (i + 1) D8 _ (by omega) (by omega)]
    rfl

theorem M_coins1_L (hD : DJ ops d) : ∀ (z i D9 : Nat) (a : Int32), i + z = nH d → z < D9 → f_X8_coins_9 Y D9 m a (nI i) (sd N (gp Y m 8) d) = some (sSum d 50 7 (nL d) (fo (fun i a => a + d (12 + 6 * i)) i z a)) := by
  have h6 := hD.H6
  have h8 := hD.L8
  have h60 := hD.R60
  intro z
  induction z with
  | zero =>
    intro i D9 a hi hD9
    obtain ⟨D8, rfl⟩ : ∃ z, D9 = z + 1 := ⟨D9 - 1, by omega⟩
    rw [f_X8_coins_9]
    simp (disch := omega) only [↓lt_eq, bd, bd2, Option.bind_some, f_X8_handlerAt, f_X8_lineAt, f_X8_requestAt, nI_lit, pk_mul, nI_add, aN1, aN2, aN3, aN4, aN5, aN6, aN7, Nat.add_zero, Nat.reduceAdd, xb_nI, nI_clamp, gi_sd, si_sd, if_true, ↓reduceIte, pLEt, pLEf, pLTt, pLTf, pEQf, pML, pMG, pMf, pMg, hD.H]
    exact M_coins2_L hD (nL d) 0 FU a (Nat.zero_add _) (by unfold FU; omega)
  | succ z ih =>
    intro i D9 a hi hD9
    obtain ⟨D8, rfl⟩ : ∃ z, D9 = z + 1 := ⟨D9 - 1, by omega⟩
    rw [f_X8_coins_9]
    simp (disch := omega) only [↓lt_eq, bd, bd2, Option.bind_some, f_X8_handlerAt, f_X8_lineAt, f_X8_requestAt, nI_lit, pk_mul, nI_add, aN1, aN2, aN3, aN4, aN5, aN6, aN7, Nat.add_zero, Nat.reduceAdd, xb_nI, nI_clamp, gi_sd, si_sd, if_true, ↓reduceIte, pLEt, pLEf, pLTt, pLTf, pEQf, pML, pMG, pMf, pMg, hD.H, f_X8_ofHandler]
    rw [ih (i + 1) D8 _ (by omega) (by omega)]
    rfl

theorem C_allFines_L (hY : WY Y w) (hD : DJ ops d) (hC : CR P ops d c) : ∀ (z i D9 : Nat) (a : Int32), i + z = nH d → z < D9 → f_X6_allFines_4 Y D9 w a (nI i) (sw N w c) = some (fo (fun i a => a + d (15 + 6 * i)) i z a) := by
  have h6 := hD.H6
  have h8 := hD.L8
  have h60 := hD.R60
  intro z
  induction z with
  | zero =>
    intro i D9 a hi hD9
    obtain ⟨D8, rfl⟩ : ∃ z, D9 = z + 1 := ⟨D9 - 1, by omega⟩
    rw [f_X6_allFines_4]
    simp (disch := omega) only [↓lt_eq, bd, bd2, Option.bind_some, nI_lit, nI_clamp, nI_add, xb_nI, if_true, gi_sw, gi_sw0, si_sw, si_sw0, hY.g0, hY.g2, hY.g4, hY.g13, hY.g14, hY.f0, hY.f2, hY.h, hY.l, hY.t, hY.r, ↓reduceIte, pLEt, pLEf, pLTt, pLTf, pEQf, pML, pMG, pMf, pMg, hC.1.w1, hD.H]
    rfl
  | succ z ih =>
    intro i D9 a hi hD9
    obtain ⟨D8, rfl⟩ : ∃ z, D9 = z + 1 := ⟨D9 - 1, by omega⟩
    rw [f_X6_allFines_4]
    simp (disch := omega) only [↓lt_eq, bd, bd2, Option.bind_some, nI_lit, nI_clamp, nI_add, xb_nI, if_true, gi_sw, gi_sw0, si_sw, si_sw0, hY.g0, hY.g2, hY.g4, hY.g13, hY.g14, hY.f0, hY.f2, hY.h, hY.l, hY.t, hY.r, ↓reduceIte, pLEt, pLEf, pLTt, pLTf, pEQf, pML, pMG, pMf, pMg, hC.1.w1, hD.H, hC.1.h4]
    rw [ih (i + 1) D8 _ (by omega) (by omega)]
    rfl

theorem C_coins2_L (hY : WY Y w) (hD : DJ ops d) (hC : CR P ops d c) : ∀ (z i D9 : Nat) (a : Int32), i + z = nL d → z < D9 → f_X6_allCoins_35 Y D9 w a (nI i) (sw N w c) = some (fo (fun i a => a + d (50 + 7 * i)) i z a) := by
  have h6 := hD.H6
  have h8 := hD.L8
  have h60 := hD.R60
  intro z
  induction z with
  | zero =>
    intro i D9 a hi hD9
    obtain ⟨D8, rfl⟩ : ∃ z, D9 = z + 1 := ⟨D9 - 1, by omega⟩
    rw [f_X6_allCoins_35]
    simp (disch := omega) only [↓lt_eq, bd, bd2, Option.bind_some, nI_lit, nI_clamp, nI_add, xb_nI, if_true, gi_sw, gi_sw0, si_sw, si_sw0, hY.g0, hY.g2, hY.g4, hY.g13, hY.g14, hY.f0, hY.f2, hY.h, hY.l, hY.t, hY.r, ↓reduceIte, pLEt, pLEf, pLTt, pLTf, pEQf, pML, pMG, pMf, pMg, hC.1.w3, hD.L]
    rfl
  | succ z ih =>
    intro i D9 a hi hD9
    obtain ⟨D8, rfl⟩ : ∃ z, D9 = z + 1 := ⟨D9 - 1, by omega⟩
    rw [f_X6_allCoins_35]
    simp (disch := omega) only [↓lt_eq, bd, bd2, Option.bind_some, nI_lit, nI_clamp, nI_add, xb_nI, if_true, gi_sw, gi_sw0, si_sw, si_sw0, hY.g0, hY.g2, hY.g4, hY.g13, hY.g14, hY.f0, hY.f2, hY.h, hY.l, hY.t, hY.r, ↓reduceIte, pLEt, pLEf, pLTt, pLTf, pEQf, pML, pMG, pMf, pMg, hC.1.w3, hD.L, hC.1.l2]
    rw [ih (i + 1) D8 _ (by omega) (by omega)]
    rfl

theorem C_coins1_L (hY : WY Y w) (hD : DJ ops d) (hC : CR P ops d c) : ∀ (z i D9 : Nat) (a : Int32), i + z = nH d → z < D9 → f_X6_allCoins_7 Y D9 w a (nI i) (sw N w c) = some (sSum d 50 7 (nL d) (fo (fun i a => a + d (12 + 6 * i)) i z a)) := by
  have h6 := hD.H6
  have h8 := hD.L8
  have h60 := hD.R60
  intro z
  induction z with
  | zero =>
    intro i D9 a hi hD9
    obtain ⟨D8, rfl⟩ : ∃ z, D9 = z + 1 := ⟨D9 - 1, by omega⟩
    rw [f_X6_allCoins_7]
    simp (disch := omega) only [↓lt_eq, bd, bd2, Option.bind_some, nI_lit, nI_clamp, nI_add, xb_nI, if_true, gi_sw, gi_sw0, si_sw, si_sw0, hY.g0, hY.g2, hY.g4, hY.g13, hY.g14, hY.f0, hY.f2, hY.h, hY.l, hY.t, hY.r, ↓reduceIte, pLEt, pLEf, pLTt, pLTf, pEQf, pML, pMG, pMf, pMg, hC.1.w1, hD.H]
    exact C_coins2_L hY hD hC (nL d) 0 FU a (Nat.zero_add _) (by unfold FU; omega)
  | succ z ih =>
    intro i D9 a hi hD9
    obtain ⟨D8, rfl⟩ : ∃ z, D9 = z + 1 := ⟨D9 - 1, by omega⟩
    rw [f_X6_allCoins_7]
    simp (disch := omega) only [↓lt_eq, bd, bd2, Option.bind_some, nI_lit, nI_clamp, nI_add, xb_nI, if_true, gi_sw, gi_sw0, si_sw, si_sw0, hY.g0, hY.g2, hY.g4, hY.g13, hY.g14, hY.f0, hY.f2, hY.h, hY.l, hY.t, hY.r, ↓reduceIte, pLEt, pLEf, pLTt, pLTf, pEQf, pML, pMG, pMf, pMg, hC.1.w1, hD.H, hC.1.h0]
    rw [ih (i + 1) D8 _ (by omega) (by omega)]
    rfl

theorem M_broken (hD : DJ ops d) : f_X8_broken Y m (sd N (gp Y m 8) d) = some (sSum d 14 6 (nH d) (nI 0)) := M_broken_L hD (nH d) 0 FU (nI 0) (Nat.zero_add _) (by have := hD.H6; unfold FU; omega)
theorem M_finesPaid (hD : DJ ops d) : f_X8_finesPaid Y m (sd N (gp Y m 8) d) = some (sSum d 15 6 (nH d) (nI 0)) := M_finesPaid_L hD (nH d) 0 FU (nI 0) (Nat.zero_add _) (by have := hD.H6; unfold FU; omega)
theorem M_coins (hD : DJ ops d) : f_X8_coins Y m (sd N (gp Y m 8) d) = some (sSum d 50 7 (nL d) (sSum d 12 6 (nH d) (d 4))) := by
  unfold f_X8_coins
  rw [gi_sd]
  exact M_coins1_L hD (nH d) 0 FU (d 4) (Nat.zero_add _) (by have := hD.H6; unfold FU; omega)
theorem C_allFines (hY : WY Y w) (hD : DJ ops d) (hC : CR P ops d c) : f_X6_allFines Y w (sw N w c) = some (sSum d 15 6 (nH d) (nI 0)) := C_allFines_L hY hD hC (nH d) 0 FU (nI 0) (Nat.zero_add _) (by have := hD.H6; unfold FU; omega)
theorem C_allCoins (hY : WY Y w) (hD : DJ ops d) (hC : CR P ops d c) : f_X6_allCoins Y w (sw N w c) = some (sSum d 50 7 (nL d) (sSum d 12 6 (nH d) (d 4))) := by
  unfold f_X6_allCoins
  rw [gi_sw0, hC.1.w7]
  exact C_coins1_L hY hD hC (nH d) 0 FU (d 4) (Nat.zero_add _) (by have := hD.H6; unfold FU; omega)
theorem C_broken_L (hY : WY Y w) (hD : DJ ops d) (hC : CR P ops d c) : ∀ (z i D9 : Nat) (a : Int32), i + z = nH d → z < D9 → f_X6_bankruptHandlers_4 Y D9 w a (nI i) (sw N w c) = some (fo (fun i a => a + d (14 + 6 * i)) i z a) := by
  have h6 := hD.H6
  intro z
  induction z with
  | zero =>
    intro i D9 a hi hD9
    obtain ⟨D8, rfl⟩ : ∃ z, D9 = z + 1 := ⟨D9 - 1, by omega⟩
    rw [f_X6_bankruptHandlers_4]
    simp (disch := omega) only [↓lt_eq, bd, bd2, Option.bind_some, nI_lit, nI_clamp, nI_add, xb_nI, if_true, gi_sw, gi_sw0, si_sw, si_sw0, hY.g0, hY.g2, hY.g4, hY.g13, hY.g14, hY.f0, hY.f2, hY.h, hY.l, hY.t, hY.r, ↓reduceIte, pLEt, pLEf, pLTt, pLTf, pEQf, pML, pMG, pMf, pMg, hC.1.w1, hD.H]
    rfl
  | succ z ih =>
    intro i D9 a hi hD9
    obtain ⟨D8, rfl⟩ : ∃ z, D9 = z + 1 := ⟨D9 - 1, by omega⟩
    rw [f_X6_bankruptHandlers_4, fo]
    rcases hD.B i (by omega) with q | q
    · simp (disch := omega) only [↓lt_eq, bd, bd2, Option.bind_some, nI_lit, nI_clamp, nI_add, xb_nI, if_true, gi_sw, gi_sw0, si_sw, si_sw0, hY.g0, hY.g2, hY.g4, hY.g13, hY.g14, hY.f0, hY.f2, hY.h, hY.l, hY.t, hY.r, ↓reduceIte, pLEt, pLEf, pLTt, pLTf, pEQf, pML, pMG, pMf, pMg, hC.1.w1, hD.H, hC.1.h2, q]
      rw [ih (i + 1) D8 _ (by omega) (by omega), i32_add0]
    · simp (disch := omega) only [↓lt_eq, bd, bd2, Option.bind_some, nI_lit, nI_clamp, nI_add, xb_nI, if_true, gi_sw, gi_sw0, si_sw, si_sw0, hY.g0, hY.g2, hY.g4, hY.g13, hY.g14, hY.f0, hY.f2, hY.h, hY.l, hY.t, hY.r, ↓reduceIte, pLEt, pLEf, pLTt, pLTf, pEQf, pML, pMG, pMf, pMg, hC.1.w1, hD.H, hC.1.h2, q]
      rw [ih (i + 1) D8 _ (by omega) (by omega)]
theorem C_broken (hY : WY Y w) (hD : DJ ops d) (hC : CR P ops d c) : f_X6_bankruptHandlers Y w (sw N w c) = some (sSum d 14 6 (nH d) (nI 0)) := C_broken_L hY hD hC (nH d) 0 FU (nI 0) (Nat.zero_add _) (by have := hD.H6; unfold FU; omega)

theorem M_countOf_L {s : Int32} (hD : DJ ops d) : ∀ (z i a D9 : Nat), i + z = nR d → z < D9 → f_X8_countOf_4 Y D9 m s (nI a) (nI i) (sd N (gp Y m 8) d) = some (nI (a + cntF (fun r => decide (d (107 + 8 * r) = s)) i z)) := by
  have h6 := hD.H6
  have h8 := hD.L8
  have h60 := hD.R60
  intro z
  induction z with
  | zero =>
    intro i a D9 hi hD9
    obtain ⟨D8, rfl⟩ : ∃ z, D9 = z + 1 := ⟨D9 - 1, by omega⟩
    rw [f_X8_countOf_4]
    simp (disch := omega) only [↓lt_eq, bd, bd2, Option.bind_some, f_X8_handlerAt, f_X8_lineAt, f_X8_requestAt, nI_lit, pk_mul, nI_add, aN1, aN2, aN3, aN4, aN5, aN6, aN7, Nat.add_zero, Nat.reduceAdd, xb_nI, nI_clamp, gi_sd, si_sd, if_true, ↓reduceIte, pLEt, pLEf, pLTt, pLTf, pEQf, pML, pMG, pMf, pMg, hD.R]
    rfl
  | succ z ih =>
    intro i a D9 hi hD9
    obtain ⟨D8, rfl⟩ : ∃ z, D9 = z + 1 := ⟨D9 - 1, by omega⟩
    have i0 := ih (i + 1) a D8 (by omega) (by omega)
    have i1 := ih (i + 1) (a + 1) D8 (by omega) (by omega)
    rw [f_X8_countOf_4, cntF]
    by_cases q : d (107 + 8 * i) = s
    · rw [show (decide (d (107 + 8 * i) = s)) = true from decide_eq_true q, if_pos rfl, ← Nat.add_assoc]
      simp (disch := omega) only [↓lt_eq, bd, bd2, Option.bind_some, f_X8_handlerAt, f_X8_lineAt, f_X8_requestAt, nI_lit, pk_mul, nI_add, aN1, aN2, aN3, aN4, aN5, aN6, aN7, Nat.add_zero, Nat.reduceAdd, xb_nI, nI_clamp, gi_sd, si_sd, if_true, ↓reduceIte, pLEt, pLEf, pLTt, pLTf, pEQf, pML, pMG, pMf, pMg, hD.R, M_ofRequest, eq_true q]
      exact i1
    · rw [show (decide (d (107 + 8 * i) = s)) = false from decide_eq_false q, if_neg (c := false = true) (by decide), Nat.zero_add]
      simp (disch := omega) only [↓lt_eq, bd, bd2, Option.bind_some, f_X8_handlerAt, f_X8_lineAt, f_X8_requestAt, nI_lit, pk_mul, nI_add, aN1, aN2, aN3, aN4, aN5, aN6, aN7, Nat.add_zero, Nat.reduceAdd, xb_nI, nI_clamp, gi_sd, si_sd, if_true, ↓reduceIte, pLEt, pLEf, pLTt, pLTf, pEQf, pML, pMG, pMf, pMg, hD.R, M_ofRequest, eq_false q]
      exact i0

theorem C_requestsIn_L {s : Int32} (hY : WY Y w) (hD : DJ ops d) (hC : CR P ops d c) : ∀ (z i a D9 : Nat), i + z = nR d → z < D9 → f_X6_requestsIn_4 Y D9 w s (nI a) (nI i) (sw N w c) = some (nI (a + cntF (fun r => decide (d (107 + 8 * r) = s)) i z)) := by
  have h6 := hD.H6
  have h8 := hD.L8
  have h60 := hD.R60
  intro z
  induction z with
  | zero =>
    intro i a D9 hi hD9
    obtain ⟨D8, rfl⟩ : ∃ z, D9 = z + 1 := ⟨D9 - 1, by omega⟩
    rw [f_X6_requestsIn_4]
    simp (disch := omega) only [↓lt_eq, bd, bd2, Option.bind_some, nI_lit, nI_clamp, nI_add, xb_nI, if_true, gi_sw, gi_sw0, si_sw, si_sw0, hY.g0, hY.g2, hY.g4, hY.g13, hY.g14, hY.f0, hY.f2, hY.h, hY.l, hY.t, hY.r, ↓reduceIte, pLEt, pLEf, pLTt, pLTf, pEQf, pML, pMG, pMf, pMg, hC.1.w5, hD.R]
    rfl
  | succ z ih =>
    intro i a D9 hi hD9
    obtain ⟨D8, rfl⟩ : ∃ z, D9 = z + 1 := ⟨D9 - 1, by omega⟩
    have i0 := ih (i + 1) a D8 (by omega) (by omega)
    have i1 := ih (i + 1) (a + 1) D8 (by omega) (by omega)
    rw [f_X6_requestsIn_4, cntF]
    by_cases q : d (107 + 8 * i) = s
    · rw [show (decide (d (107 + 8 * i) = s)) = true from decide_eq_true q, if_pos rfl, ← Nat.add_assoc]
      simp (disch := omega) only [↓lt_eq, bd, bd2, Option.bind_some, nI_lit, nI_clamp, nI_add, xb_nI, if_true, gi_sw, gi_sw0, si_sw, si_sw0, hY.g0, hY.g2, hY.g4, hY.g13, hY.g14, hY.f0, hY.f2, hY.h, hY.l, hY.t, hY.r, ↓reduceIte, pLEt, pLEf, pLTt, pLTf, pEQf, pML, pMG, pMf, pMg, hC.1.w5, hD.R, hC.1.r3, eq_true q]
      exact i1
    · rw [show (decide (d (107 + 8 * i) = s)) = false from decide_eq_false q, if_neg (c := false = true) (by decide), Nat.zero_add]
      simp (disch := omega) only [↓lt_eq, bd, bd2, Option.bind_some, nI_lit, nI_clamp, nI_add, xb_nI, if_true, gi_sw, gi_sw0, si_sw, si_sw0, hY.g0, hY.g2, hY.g4, hY.g13, hY.g14, hY.f0, hY.f2, hY.h, hY.l, hY.t, hY.r, ↓reduceIte, pLEt, pLEf, pLTt, pLTf, pEQf, pML, pMG, pMf, pMg, hC.1.w5, hD.R, hC.1.r3, eq_false q]
      exact i0

theorem M_linesOf_L {h : Int32} (hM : MY Y m) (hD : DJ ops d) : ∀ (z i a D9 : Nat), i + z = nL d → z < D9 → f_X8_linesOf_4 Y D9 m h (nI a) (nI i) (sd N (gp Y m 8) d) = some (nI (a + cntF (fun l => (sTP d l h).isSome) i z)) := by
  have h6 := hD.H6
  have h8 := hD.L8
  have h60 := hD.R60
  intro z
  induction z with
  | zero =>
    intro i a D9 hi hD9
    obtain ⟨D8, rfl⟩ : ∃ z, D9 = z + 1 := ⟨D9 - 1, by omega⟩
    rw [f_X8_linesOf_4]
    simp (disch := omega) only [↓lt_eq, bd, bd2, Option.bind_some, f_X8_handlerAt, f_X8_lineAt, f_X8_requestAt, nI_lit, pk_mul, nI_add, aN1, aN2, aN3, aN4, aN5, aN6, aN7, Nat.add_zero, Nat.reduceAdd, xb_nI, nI_clamp, gi_sd, si_sd, if_true, ↓reduceIte, pLEt, pLEf, pLTt, pLTf, pEQf, pML, pMG, pMf, pMg, hD.L]
    rfl
  | succ z ih =>
    intro i a D9 hi hD9
    obtain ⟨D8, rfl⟩ : ∃ z, D9 = z + 1 := ⟨D9 - 1, by omega⟩
    have i0 := ih (i + 1) a D8 (by omega) (by omega)
    have i1 := ih (i + 1) (a + 1) D8 (by omega) (by omega)
    rw [f_X8_linesOf_4, cntF]
    obtain ⟨t1, t2, -, -⟩ := hD.ln i (by omega)
    have mi := M_isTenant (N := N) (h := h) hM (show i < 8 by omega) t1 t2
    by_cases q : (sTP d i h).isSome = true
    · rw [q, if_pos rfl, ← Nat.add_assoc]
      have z0 : (nI 1 = nI 0) = False := eq_false (by decide)
      simp (disch := omega) only [↓lt_eq, bd, bd2, Option.bind_some, f_X8_handlerAt, f_X8_lineAt, f_X8_requestAt, nI_lit, pk_mul, nI_add, aN1, aN2, aN3, aN4, aN5, aN6, aN7, Nat.add_zero, Nat.reduceAdd, xb_nI, nI_clamp, gi_sd, si_sd, if_true, ↓reduceIte, pLEt, pLEf, pLTt, pLTf, pEQf, pML, pMG, pMf, pMg, hD.L, mi, q, z0]
      exact i1
    · rw [if_neg q, Nat.zero_add]
      have z0 : (nI 1 = nI 0) = False := eq_false (by decide)
      simp (disch := omega) only [↓lt_eq, bd, bd2, Option.bind_some, f_X8_handlerAt, f_X8_lineAt, f_X8_requestAt, nI_lit, pk_mul, nI_add, aN1, aN2, aN3, aN4, aN5, aN6, aN7, Nat.add_zero, Nat.reduceAdd, xb_nI, nI_clamp, gi_sd, si_sd, if_true, ↓reduceIte, pLEt, pLEf, pLTt, pLTf, pEQf, pML, pMG, pMf, pMg, hD.L, mi, eq_false q, z0, Bool.false_eq_true]
      exact i0

theorem C_linesOf_L {h : Int32} (hY : WY Y w) (hD : DJ ops d) (hC : CR P ops d c) : ∀ (z i a D9 : Nat), i + z = nL d → z < D9 → f_X6_linesOf_4 Y D9 w h (nI a) (nI i) (sw N w c) = some (nI (a + cntF (fun l => (sTP d l h).isSome) i z)) := by
  have h6 := hD.H6
  have h8 := hD.L8
  have h60 := hD.R60
  intro z
  induction z with
  | zero =>
    intro i a D9 hi hD9
    obtain ⟨D8, rfl⟩ : ∃ z, D9 = z + 1 := ⟨D9 - 1, by omega⟩
    rw [f_X6_linesOf_4]
    simp (disch := omega) only [↓lt_eq, bd, bd2, Option.bind_some, nI_lit, nI_clamp, nI_add, xb_nI, if_true, gi_sw, gi_sw0, si_sw, si_sw0, hY.g0, hY.g2, hY.g4, hY.g13, hY.g14, hY.f0, hY.f2, hY.h, hY.l, hY.t, hY.r, ↓reduceIte, pLEt, pLEf, pLTt, pLTf, pEQf, pML, pMG, pMf, pMg, hC.1.w3, hD.L]
    rfl
  | succ z ih =>
    intro i a D9 hi hD9
    obtain ⟨D8, rfl⟩ : ∃ z, D9 = z + 1 := ⟨D9 - 1, by omega⟩
    have i0 := ih (i + 1) a D8 (by omega) (by omega)
    have i1 := ih (i + 1) (a + 1) D8 (by omega) (by omega)
    rw [f_X6_linesOf_4, cntF]
    obtain ⟨t1, t2, -, -⟩ := hD.ln i (by omega)
    have mi := C_placeOf (N := N) hY hC.1 (h := h) (show i < nL d by omega) h8 t1 (Nat.le_refl _) t2
    by_cases q : (sTP d i h).isSome = true
    · rw [q, if_pos rfl, ← Nat.add_assoc]
      have z0 : (pI (sTP d i h) < nI 0) = False := eq_false (fun z => by rw [(pI_neg _ sTP_lt).1.mp z] at q; cases q)
      simp (disch := omega) only [↓lt_eq, bd, bd2, Option.bind_some, nI_lit, nI_clamp, nI_add, xb_nI, if_true, gi_sw, gi_sw0, si_sw, si_sw0, hY.g0, hY.g2, hY.g4, hY.g13, hY.g14, hY.f0, hY.f2, hY.h, hY.l, hY.t, hY.r, ↓reduceIte, pLEt, pLEf, pLTt, pLTf, pEQf, pML, pMG, pMf, pMg, hC.1.w3, hD.L, mi, q, z0]
      exact i1
    · rw [if_neg q, Nat.zero_add]
      have z0 : (pI (sTP d i h) < nI 0) = True := eq_true ((pI_neg _ sTP_lt).1.mpr (by cases z : sTP d i h with | none => rfl | some k => rw [z] at q; exact absurd rfl q))
      simp (disch := omega) only [↓lt_eq, bd, bd2, Option.bind_some, nI_lit, nI_clamp, nI_add, xb_nI, if_true, gi_sw, gi_sw0, si_sw, si_sw0, hY.g0, hY.g2, hY.g4, hY.g13, hY.g14, hY.f0, hY.f2, hY.h, hY.l, hY.t, hY.r, ↓reduceIte, pLEt, pLEf, pLTt, pLTf, pEQf, pML, pMG, pMf, pMg, hC.1.w3, hD.L, mi, eq_false q, z0, Bool.false_eq_true]
      exact i0

theorem M_free_L {l : Int32} (hD : DJ ops d) : ∀ (z i a D9 : Nat), i + z = nR d → z < D9 → f_X8_toldLine_17 Y D9 m l (nI a) (nI i) (sd N (gp Y m 8) d) = some (nI (a + cntF (sFreeP d l (-nI 1)) i z)) := by
  have h6 := hD.H6
  have h8 := hD.L8
  have h60 := hD.R60
  intro z
  induction z with
  | zero =>
    intro i a D9 hi hD9
    obtain ⟨D8, rfl⟩ : ∃ z, D9 = z + 1 := ⟨D9 - 1, by omega⟩
    rw [f_X8_toldLine_17]
    simp (disch := omega) only [↓lt_eq, bd, bd2, Option.bind_some, f_X8_handlerAt, f_X8_lineAt, f_X8_requestAt, nI_lit, pk_mul, nI_add, aN1, aN2, aN3, aN4, aN5, aN6, aN7, Nat.add_zero, Nat.reduceAdd, xb_nI, nI_clamp, gi_sd, si_sd, if_true, ↓reduceIte, pLEt, pLEf, pLTt, pLTf, pEQf, pML, pMG, pMf, pMg, hD.R]
    rfl
  | succ z ih =>
    intro i a D9 hi hD9
    obtain ⟨D8, rfl⟩ : ∃ z, D9 = z + 1 := ⟨D9 - 1, by omega⟩
    have i0 := ih (i + 1) a D8 (by omega) (by omega)
    have i1 := ih (i + 1) (a + 1) D8 (by omega) (by omega)
    rw [f_X8_toldLine_17, cntF]
    by_cases q0 : sOpen d i = true
    · by_cases q1 : d (104 + 8 * i) = l
      · by_cases q2 : d (108 + 8 * i) = -nI 1
        · rw [show sFreeP d l (-nI 1) i = true by unfold sFreeP; rw [q0, decide_eq_true q1, decide_eq_true q2]; rfl, if_pos rfl, ← Nat.add_assoc]
          simp (disch := omega) only [↓lt_eq, bd, bd2, Option.bind_some, f_X8_handlerAt, f_X8_lineAt, f_X8_requestAt, nI_lit, pk_mul, nI_add, aN1, aN2, aN3, aN4, aN5, aN6, aN7, Nat.add_zero, Nat.reduceAdd, xb_nI, nI_clamp, gi_sd, si_sd, if_true, ↓reduceIte, pLEt, pLEf, pLTt, pLTf, pEQf, pML, pMG, pMf, pMg, hD.R, M_isOpen, M_ofRequest, q0, eq_true q1, eq_true q2]
          exact i1
        · rw [show sFreeP d l (-nI 1) i = false by unfold sFreeP; rw [decide_eq_false q2, Bool.and_false, Bool.and_false], if_neg (c := false = true) (by decide), Nat.zero_add]
          simp (disch := omega) only [↓lt_eq, bd, bd2, Option.bind_some, f_X8_handlerAt, f_X8_lineAt, f_X8_requestAt, nI_lit, pk_mul, nI_add, aN1, aN2, aN3, aN4, aN5, aN6, aN7, Nat.add_zero, Nat.reduceAdd, xb_nI, nI_clamp, gi_sd, si_sd, if_true, ↓reduceIte, pLEt, pLEf, pLTt, pLTf, pEQf, pML, pMG, pMf, pMg, hD.R, M_isOpen, M_ofRequest, q0, eq_true q1, eq_false q2]
          exact i0
      · rw [show sFreeP d l (-nI 1) i = false by unfold sFreeP; rw [decide_eq_false q1, Bool.false_and, Bool.and_false], if_neg (c := false = true) (by decide), Nat.zero_add]
        simp (disch := omega) only [↓lt_eq, bd, bd2, Option.bind_some, f_X8_handlerAt, f_X8_lineAt, f_X8_requestAt, nI_lit, pk_mul, nI_add, aN1, aN2, aN3, aN4, aN5, aN6, aN7, Nat.add_zero, Nat.reduceAdd, xb_nI, nI_clamp, gi_sd, si_sd, if_true, ↓reduceIte, pLEt, pLEf, pLTt, pLTf, pEQf, pML, pMG, pMf, pMg, hD.R, M_isOpen, M_ofRequest, q0, eq_false q1]
        exact i0
    · rw [show sFreeP d l (-nI 1) i = false by unfold sFreeP; rw [Bool.eq_false_iff.mpr q0, Bool.false_and], if_neg (c := false = true) (by decide), Nat.zero_add]
      simp (disch := omega) only [↓lt_eq, bd, bd2, Option.bind_some, f_X8_handlerAt, f_X8_lineAt, f_X8_requestAt, nI_lit, pk_mul, nI_add, aN1, aN2, aN3, aN4, aN5, aN6, aN7, Nat.add_zero, Nat.reduceAdd, xb_nI, nI_clamp, gi_sd, si_sd, if_true, ↓reduceIte, pLEt, pLEf, pLTt, pLTf, pEQf, pML, pMG, pMf, pMg, hD.R, M_isOpen, M_ofRequest, eq_false q0, Bool.false_eq_true]
      exact i0

theorem C_openOf_L {l h : Int32} (hY : WY Y w) (hD : DJ ops d) (hC : CR P ops d c) : ∀ (z i a D9 : Nat), i + z = nR d → z < D9 → f_X6_openOf_5 Y D9 w l h (nI a) (nI i) (sw N w c) = some (nI (a + cntF (sFreeP d l h) i z)) := by
  have h6 := hD.H6
  have h8 := hD.L8
  have h60 := hD.R60
  intro z
  induction z with
  | zero =>
    intro i a D9 hi hD9
    obtain ⟨D8, rfl⟩ : ∃ z, D9 = z + 1 := ⟨D9 - 1, by omega⟩
    rw [f_X6_openOf_5]
    simp (disch := omega) only [↓lt_eq, bd, bd2, Option.bind_some, nI_lit, nI_clamp, nI_add, xb_nI, if_true, gi_sw, gi_sw0, si_sw, si_sw0, hY.g0, hY.g2, hY.g4, hY.g13, hY.g14, hY.f0, hY.f2, hY.h, hY.l, hY.t, hY.r, ↓reduceIte, pLEt, pLEf, pLTt, pLTf, pEQf, pML, pMG, pMf, pMg, hC.1.w5, hD.R]
    rfl
  | succ z ih =>
    intro i a D9 hi hD9
    obtain ⟨D8, rfl⟩ : ∃ z, D9 = z + 1 := ⟨D9 - 1, by omega⟩
    have i0 := ih (i + 1) a D8 (by omega) (by omega)
    have i1 := ih (i + 1) (a + 1) D8 (by omega) (by omega)
    rw [f_X6_openOf_5, cntF]
    by_cases q0 : sOpen d i = true
    · by_cases q1 : d (104 + 8 * i) = l
      · by_cases q2 : d (108 + 8 * i) = h
        · rw [show sFreeP d l h i = true by unfold sFreeP; rw [q0, decide_eq_true q1, decide_eq_true q2]; rfl, if_pos rfl, ← Nat.add_assoc]
          simp (disch := omega) only [↓lt_eq, bd, bd2, Option.bind_some, nI_lit, nI_clamp, nI_add, xb_nI, if_true, gi_sw, gi_sw0, si_sw, si_sw0, hY.g0, hY.g2, hY.g4, hY.g13, hY.g14, hY.f0, hY.f2, hY.h, hY.l, hY.t, hY.r, ↓reduceIte, pLEt, pLEf, pLTt, pLTf, pEQf, pML, pMG, pMf, pMg, hC.1.w5, hD.R, hC.1.r3, hC.1.r0, hC.1.r4, eq_true (of_decide_eq_true q0), eq_true q1, eq_true q2]
          exact i1
        · rw [show sFreeP d l h i = false by unfold sFreeP; rw [decide_eq_false q2, Bool.and_false, Bool.and_false], if_neg (c := false = true) (by decide), Nat.zero_add]
          simp (disch := omega) only [↓lt_eq, bd, bd2, Option.bind_some, nI_lit, nI_clamp, nI_add, xb_nI, if_true, gi_sw, gi_sw0, si_sw, si_sw0, hY.g0, hY.g2, hY.g4, hY.g13, hY.g14, hY.f0, hY.f2, hY.h, hY.l, hY.t, hY.r, ↓reduceIte, pLEt, pLEf, pLTt, pLTf, pEQf, pML, pMG, pMf, pMg, hC.1.w5, hD.R, hC.1.r3, hC.1.r0, hC.1.r4, eq_true (of_decide_eq_true q0), eq_true q1, eq_false q2]
          exact i0
      · rw [show sFreeP d l h i = false by unfold sFreeP; rw [decide_eq_false q1, Bool.false_and, Bool.and_false], if_neg (c := false = true) (by decide), Nat.zero_add]
        simp (disch := omega) only [↓lt_eq, bd, bd2, Option.bind_some, nI_lit, nI_clamp, nI_add, xb_nI, if_true, gi_sw, gi_sw0, si_sw, si_sw0, hY.g0, hY.g2, hY.g4, hY.g13, hY.g14, hY.f0, hY.f2, hY.h, hY.l, hY.t, hY.r, ↓reduceIte, pLEt, pLEf, pLTt, pLTf, pEQf, pML, pMG, pMf, pMg, hC.1.w5, hD.R, hC.1.r3, hC.1.r0, hC.1.r4, eq_true (of_decide_eq_true q0), eq_false q1]
        exact i0
    · rw [show sFreeP d l h i = false by unfold sFreeP; rw [Bool.eq_false_iff.mpr q0, Bool.false_and], if_neg (c := false = true) (by decide), Nat.zero_add]
      simp (disch := omega) only [↓lt_eq, bd, bd2, Option.bind_some, nI_lit, nI_clamp, nI_add, xb_nI, if_true, gi_sw, gi_sw0, si_sw, si_sw0, hY.g0, hY.g2, hY.g4, hY.g13, hY.g14, hY.f0, hY.f2, hY.h, hY.l, hY.t, hY.r, ↓reduceIte, pLEt, pLEf, pLTt, pLTf, pEQf, pML, pMG, pMf, pMg, hC.1.w5, hD.R, hC.1.r3, hC.1.r0, hC.1.r4, eq_false (fun z => q0 (decide_eq_true z))]
      exact i0

theorem zadd {f : Nat} : nI (0 + f) = nI f := by rw [Nat.zero_add]
theorem M_countOf {s : Int32} (hD : DJ ops d) : f_X8_countOf Y m s (sd N (gp Y m 8) d) = some (nI (sCount d s)) := (M_countOf_L hD (nR d) 0 0 FU (Nat.zero_add _) (by have := hD.R60; unfold FU; omega)).trans (by rw [zadd]; rfl)
theorem C_requestsIn {s : Int32} (hY : WY Y w) (hD : DJ ops d) (hC : CR P ops d c) : f_X6_requestsIn Y w s (sw N w c) = some (nI (sCount d s)) := (C_requestsIn_L hY hD hC (nR d) 0 0 FU (Nat.zero_add _) (by have := hD.R60; unfold FU; omega)).trans (by rw [zadd]; rfl)
theorem M_linesOf {h : Int32} (hM : MY Y m) (hD : DJ ops d) : f_X8_linesOf Y m h (sd N (gp Y m 8) d) = some (nI (sLines d h)) := (M_linesOf_L hM hD (nL d) 0 0 FU (Nat.zero_add _) (by have := hD.L8; unfold FU; omega)).trans (by rw [zadd]; rfl)
theorem C_linesOf {h : Int32} (hY : WY Y w) (hD : DJ ops d) (hC : CR P ops d c) : f_X6_linesOf Y w h (sw N w c) = some (nI (sLines d h)) := (C_linesOf_L hY hD hC (nL d) 0 0 FU (Nat.zero_add _) (by have := hD.L8; unfold FU; omega)).trans (by rw [zadd]; rfl)
theorem M_free {l : Int32} (hD : DJ ops d) : f_X8_toldLine_17 Y FU m l (nI 0) (nI 0) (sd N (gp Y m 8) d) = some (nI (sFree d l (-nI 1))) := (M_free_L hD (nR d) 0 0 FU (Nat.zero_add _) (by have := hD.R60; unfold FU; omega)).trans (by rw [zadd]; rfl)
theorem C_openOf {l h : Int32} (hY : WY Y w) (hD : DJ ops d) (hC : CR P ops d c) : f_X6_openOf Y w l h (sw N w c) = some (nI (sFree d l h)) := (C_openOf_L hY hD hC (nR d) 0 0 FU (Nat.zero_add _) (by have := hD.R60; unfold FU; omega)).trans (by rw [zadd]; rfl)
/-- what state tells -/
def sTold (d : XD) (k : Nat) : Int32 := if k < 5 then d k else if k < 8 then nI (sCount d (nI (k - 4))) else if k = 8 then sSum d 14 6 (nH d) (nI 0) else sSum d 50 7 (nL d) (sSum d 12 6 (nH d) (d 4))
theorem M_told (hD : DJ ops d) {k : Nat} (hk : k < 10) : f_X8_told Y m (nI k) (sd N (gp Y m 8) d) = some (sTold d k) := by
  unfold f_X8_told sTold
  by_cases q1 : k < 5
  · rw [if_pos q1]
    simp (disch := omega) only [↓lt_eq, bd, bd2, Option.bind_some, f_X8_handlerAt, f_X8_lineAt, f_X8_requestAt, nI_lit, pk_mul, nI_add, aN1, aN2, aN3, aN4, aN5, aN6, aN7, Nat.add_zero, Nat.reduceAdd, xb_nI, nI_clamp, gi_sd, si_sd, if_true, ↓reduceIte, pLEt, pLEf, pLTt, pLTf, pEQf, pML, pMG, pMf, pMg]
  · rw [if_neg q1]
    by_cases q2 : k < 8
    · rw [if_pos q2]
      simp (disch := omega) only [↓lt_eq, bd, bd2, Option.bind_some, f_X8_handlerAt, f_X8_lineAt, f_X8_requestAt, nI_lit, pk_mul, nI_add, aN1, aN2, aN3, aN4, aN5, aN6, aN7, Nat.add_zero, Nat.reduceAdd, xb_nI, nI_clamp, gi_sd, si_sd, if_true, ↓reduceIte, pLEt, pLEf, pLTt, pLTf, pEQf, pML, pMG, pMf, pMg, pk_sub, M_countOf hD]
    · rw [if_neg q2]
      by_cases q3 : k = 8
      · subst q3
        simp (disch := omega) only [↓lt_eq, bd, bd2, Option.bind_some, f_X8_handlerAt, f_X8_lineAt, f_X8_requestAt, nI_lit, pk_mul, nI_add, aN1, aN2, aN3, aN4, aN5, aN6, aN7, Nat.add_zero, Nat.reduceAdd, xb_nI, nI_clamp, gi_sd, si_sd, if_true, ↓reduceIte, pLEt, pLEf, pLTt, pLTf, pEQf, pML, pMG, pMf, pMg, M_broken hD]
      · rw [if_neg q3]
        simp (disch := omega) only [↓lt_eq, bd, bd2, Option.bind_some, f_X8_handlerAt, f_X8_lineAt, f_X8_requestAt, nI_lit, pk_mul, nI_add, aN1, aN2, aN3, aN4, aN5, aN6, aN7, Nat.add_zero, Nat.reduceAdd, xb_nI, nI_clamp, gi_sd, si_sd, if_true, ↓reduceIte, pLEt, pLEf, pLTt, pLTf, pEQf, pML, pMG, pMf, pMg, M_coins hD]
def sToldH (d : XD) (h k : Nat) : Int32 := if k < 3 then d (12 + 6 * h + k) else if k = 3 then nI (sHeld d (nI h)) else if k = 4 then nI (sLines d (nI h)) else d (12 + 6 * h + (k - 2))
theorem M_toldHandler (hM : MY Y m) (hD : DJ ops d) {h k : Nat} (hh : h < 6) (hk : k < 8) : f_X8_toldHandler Y m (nI h) (nI k) (sd N (gp Y m 8) d) = some (sToldH d h k) := by
  unfold f_X8_toldHandler f_X8_ofHandler sToldH
  by_cases q1 : k < 3
  · rw [if_pos q1]
    simp (disch := omega) only [↓lt_eq, bd, bd2, Option.bind_some, f_X8_handlerAt, f_X8_lineAt, f_X8_requestAt, nI_lit, pk_mul, nI_add, aN1, aN2, aN3, aN4, aN5, aN6, aN7, Nat.add_zero, Nat.reduceAdd, xb_nI, nI_clamp, gi_sd, si_sd, if_true, ↓reduceIte, pLEt, pLEf, pLTt, pLTf, pEQf, pML, pMG, pMf, pMg]
  · rw [if_neg q1]
    by_cases q2 : k = 3
    · subst q2
      simp (disch := omega) only [↓lt_eq, bd, bd2, Option.bind_some, f_X8_handlerAt, f_X8_lineAt, f_X8_requestAt, nI_lit, pk_mul, nI_add, aN1, aN2, aN3, aN4, aN5, aN6, aN7, Nat.add_zero, Nat.reduceAdd, xb_nI, nI_clamp, gi_sd, si_sd, if_true, ↓reduceIte, pLEt, pLEf, pLTt, pLTf, pEQf, pML, pMG, pMf, pMg, M_heldBy hD.R hD.R60]
    · rw [if_neg q2]
      by_cases q3 : k = 4
      · subst q3
        simp (disch := omega) only [↓lt_eq, bd, bd2, Option.bind_some, f_X8_handlerAt, f_X8_lineAt, f_X8_requestAt, nI_lit, pk_mul, nI_add, aN1, aN2, aN3, aN4, aN5, aN6, aN7, Nat.add_zero, Nat.reduceAdd, xb_nI, nI_clamp, gi_sd, si_sd, if_true, ↓reduceIte, pLEt, pLEf, pLTt, pLTf, pEQf, pML, pMG, pMf, pMg, M_linesOf hM hD]
      · rw [if_neg q3]
        simp (disch := omega) only [↓lt_eq, bd, bd2, Option.bind_some, f_X8_handlerAt, f_X8_lineAt, f_X8_requestAt, nI_lit, pk_mul, nI_add, aN1, aN2, aN3, aN4, aN5, aN6, aN7, Nat.add_zero, Nat.reduceAdd, xb_nI, nI_clamp, gi_sd, si_sd, if_true, ↓reduceIte, pLEt, pLEf, pLTt, pLTf, pEQf, pML, pMG, pMf, pMg, pk_sub]
def sToldL (d : XD) (l k : Nat) : Int32 := if k < 4 then d (48 + 7 * l + k) else nI (sFree d (nI l) (-nI 1))
theorem M_toldLine (hD : DJ ops d) {l k : Nat} (hl : l < 8) (hk : k < 5) : f_X8_toldLine Y m (nI l) (nI k) (sd N (gp Y m 8) d) = some (sToldL d l k) := by
  unfold f_X8_toldLine f_X8_ofLine sToldL
  by_cases q1 : k < 4
  · rw [if_pos q1]
    simp (disch := omega) only [↓lt_eq, bd, bd2, Option.bind_some, f_X8_handlerAt, f_X8_lineAt, f_X8_requestAt, nI_lit, pk_mul, nI_add, aN1, aN2, aN3, aN4, aN5, aN6, aN7, Nat.add_zero, Nat.reduceAdd, xb_nI, nI_clamp, gi_sd, si_sd, if_true, ↓reduceIte, pLEt, pLEf, pLTt, pLTf, pEQf, pML, pMG, pMf, pMg]
  · rw [if_neg q1]
    simp (disch := omega) only [↓lt_eq, bd, bd2, Option.bind_some, f_X8_handlerAt, f_X8_lineAt, f_X8_requestAt, nI_lit, pk_mul, nI_add, aN1, aN2, aN3, aN4, aN5, aN6, aN7, Nat.add_zero, Nat.reduceAdd, xb_nI, nI_clamp, gi_sd, si_sd, if_true, ↓reduceIte, pLEt, pLEf, pLTt, pLTf, pEQf, pML, pMG, pMf, pMg, M_free hD]
end RD
