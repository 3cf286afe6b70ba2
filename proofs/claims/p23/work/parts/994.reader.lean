/-! PRUNED: of whole -/
/-- the class's memory: the reader g at B + 6, the trial world c -/
def KS (N : XN) (B : Nat) (c : Nat → Nat → Int32) (g : XD) : XN := sd (sw N (B + 97) c) (B + 6) g
/-- the reader's references -/
def RD (Y : XY) (B : Nat) : Prop := gp Y (B + 6) 2 = B + 2 ∧ gp Y (B + 6) 3 = B + 97 ∧ gp Y (B + 2) 0 = B + 3 ∧ gp Y (B + 2) 1 = B + 4 ∧ gp Y (B + 2) 2 = B + 5 ∧ WY Y (B + 97)
/-- the tokens' rows hold T tokens and the end -/
def TK9 (N : XN) (B T L : Nat) (t : Nat → Nat) : Prop := TKm N (B + 2) (T + 1) L t ∧ tS t L T = L ∧ T ≤ 700 ∧ ∀ j, j < T → tS t L j < L
section KR
variable {Y : XY} {N : XN} {B T L : Nat} {t : Nat → Nat} {c : Nat → Nat → Int32} {g : XD}
theorem gi_KS (j : Nat) : gi (KS N B c g) (B + 6) j = g j := gi_sd _ _ _ _
theorem si_KS (j : Nat) (v : Int32) : si (KS N B c g) (B + 6) j v = KS N B c (upd g j v) := si_sd _ _ _ _ _
theorem gi_KSt {a : Nat} (ha : a < B + 6) (j : Nat) : gi (KS N B c g) a j = gi N a j := by
  unfold KS
  rw [gi_sd_ne (by omega)]
  show (if B + 97 ≤ a ∧ a < B + 97 + 90 then _ else _) = _
  rw [if_neg (by omega)]
  rfl
theorem K_kind (hR : RD Y B) (hT : TK9 N B T L t) {a : Nat} (ha : a ≤ T) (h4 : g 4 = nI a) : f_X4_kind Y (B + 6) (KS N B c g) = some (nI (tK t L (tS t L a))) := by
  obtain ⟨r1, r2, r3, r4, r5, -⟩ := hR
  obtain ⟨⟨t1, t2⟩, t3, t4, t5⟩ := hT
  have t6 := (t2 a (by omega)).1
  have k1 := gi_KSt (N := N) (B := B) (c := c) (g := g) (a := B + 2) (by omega) 3
  have k2 := gi_KSt (N := N) (B := B) (c := c) (g := g) (a := B + 3) (by omega) a
  rw [t1] at k1
  rw [t6] at k2
  unfold f_X4_kind
  simp (disch := omega) only [nI_lit, r1, r3, gi_KS, h4, k1, ↓reduceIte, pLEt, pLEf, pLTt, pLTf, pEQf, pML, pMG, pMf, pMg, xb_nI, nI_clamp, if_true]
  rw [k2]
theorem K_fails (hR : RD Y B) (hT : TK9 N B T L t) {a : Nat} (ha : a ≤ T) (h4 : g 4 = nI a) {x : Int32} : f_X4_fails Y (B + 6) x (KS N B c g) = some (nI 0, KS N B c (upd (upd g 0 x) 1 (nI (tS t L a)))) := by
  obtain ⟨r1, r2, r3, r4, r5, -⟩ := hR
  obtain ⟨⟨t1, t2⟩, t3, t4, t5⟩ := hT
  have t6 := (t2 a (by omega)).2.1
  have k1 := gi_KSt (N := N) (B := B) (c := c) (g := upd g 0 x) (a := B + 2) (by omega) 3
  have k2 := gi_KSt (N := N) (B := B) (c := c) (g := upd g 0 x) (a := B + 4) (by omega) a
  have h4' : upd g 0 x 4 = nI a := by rw [upd_n (by omega)]; exact h4
  rw [t1] at k1
  rw [t6] at k2
  unfold f_X4_fails
  simp (disch := omega) only [↓lt_eq, nI_lit, r1, r4, si_KS, gi_KS, h4', k1, ↓reduceIte, pLEt, pLEf, pLTt, pLTf, pEQf, pML, pMG, pMf, pMg, xb_nI, nI_clamp, if_true]
  rw [k2]
theorem tK_lt {s : Nat} : tK t L s < 24 := by
  unfold tK
  have h1 := wK_le (t := t) s (rN isL t L s) 13 0
  have h2 := sgK_le (t s)
  (repeat' split) <;> omega
theorem xz0 : xz (nI 0) = true := by decide
theorem K_takes (hR : RD Y B) (hT : TK9 N B T L t) {a : Nat} (ha : a ≤ T) (h4 : g 4 = nI a) {k : Nat} (hk : k < 24) : f_X4_takes Y (B + 6) (nI k) (KS N B c g) = some (if tK t L (tS t L a) = k then (nI 1, KS N B c (upd g 4 (nI (a + 1)))) else (nI 0, KS N B c (upd (upd g 0 (-nI 2)) 1 (nI (tS t L a))))) := by
  have kd := K_kind (c := c) (g := g) hR hT ha h4
  have kf := K_fails (c := c) (g := g) hR hT ha h4 (x := -nI 2)
  have lt9 := tK_lt (t := t) (L := L) (s := tS t L a)
  have e : nI (tK t L (tS t L a)) = nI k ↔ tK t L (tS t L a) = k := nI_eq (by omega) (by omega)
  unfold f_X4_takes
  by_cases q : tK t L (tS t L a) = k
  · rw [if_pos q]
    simp only [↓lt_eq, nI_lit, kd, bd_some, eq_true (e.mpr q), if_true, gi_KS, h4, nI_add, si_KS]
  · rw [if_neg q]
    simp only [↓lt_eq, nI_lit, kd, bd_some, eq_false (fun z => q (e.mp z)), if_false, kf, bd2_some, xz0, if_true]
theorem K_readsNumber (hR : RD Y B) (hT : TK9 N B T L t) {a : Nat} (ha : a ≤ T) (h4 : g 4 = nI a) {x : Nat} {y : Int32} (hx : x ≤ 9999) (hy : y.toInt ≤ 9999) : f_X4_readsNumber Y (B + 6) (nI x) y (KS N B c g) = some (if tK t L (tS t L a) = 2 then (if inR (num t L (tS t L a)) x y then (nI 1, KS N B c (upd (upd g 5 (nI (num t L (tS t L a)))) 4 (nI (a + 1)))) else (nI 0, KS N B c (upd (upd (upd g 5 (nI (min 100000 (num t L (tS t L a))))) 0 (-nI 3)) 1 (nI (tS t L a))))) else (nI 0, KS N B c (upd (upd g 0 (-nI 2)) 1 (nI (tS t L a))))) := by
  have kd := K_kind (c := c) (g := g) hR hT ha h4
  have kf := K_fails (c := c) (g := g) hR hT ha h4 (x := -nI 2)
  have lt9 := tK_lt (t := t) (L := L) (s := tS t L a)
  have e : nI (tK t L (tS t L a)) = nI 2 ↔ tK t L (tS t L a) = 2 := nI_eq (by omega) (by omega)
  unfold f_X4_readsNumber
  by_cases q : tK t L (tS t L a) = 2
  · rw [if_pos q]
    have tn := tN_num q
    have n1 := num_le (t := t) (L := L) (s := tS t L a)
    generalize hs : tS t L a = s at *
    generalize hv : num t L s = v at *
    have h45 : upd g 5 (nI (min 100000 v)) 4 = nI a := by rw [upd_n (by omega)]; exact h4
    have kf3 := K_fails (c := c) (g := upd g 5 (nI (min 100000 v))) hR hT ha h45 (x := -nI 3)
    rw [hs] at kf3
    obtain ⟨r1, r2, r3, r4, r5, -⟩ := hR
    obtain ⟨⟨t1, t2⟩, t3, t4, t5⟩ := hT
    have t6 := (t2 a (by omega)).2.2
    rw [hs, tn] at t6
    have k1 := gi_KSt (N := N) (B := B) (c := c) (g := g) (a := B + 2) (by omega) 3
    have k2 := gi_KSt (N := N) (B := B) (c := c) (g := g) (a := B + 5) (by omega) a
    rw [t1] at k1
    rw [t6] at k2
    have e1 : (nI (min 100000 v) < nI x) ↔ v < x := by rw [Int32.lt_iff_toInt_lt, nI_toInt (by omega), nI_toInt (by omega)]; omega
    have e2 : (nI (min 100000 v) ≤ y) ↔ (v : Int) ≤ y.toInt := by rw [Int32.le_iff_toInt_le, nI_toInt (by omega)]; omega
    have e3 : inR v x y = true ↔ (x ≤ v ∧ (v : Int) ≤ y.toInt) := by unfold inR; rw [decide_eq_true_eq]
    simp (disch := omega) only [↓lt_eq, nI_lit, kd, bd_some, eq_true (e.mpr q), if_true, r1, r5, gi_KS, h4, k1, k2, ↓reduceIte, pLEt, pLEf, pLTt, pLTf, pEQf, pML, pMG, pMf, pMg, xb_nI, nI_clamp, si_KS, upd_s]
    by_cases q1 : v < x
    · simp only [eq_true (e1.mpr q1), eq_false (show ¬ inR v x y = true from fun z => by have := e3.mp z; omega), if_true, if_false, kf3, bd2_some, xz0]
    · by_cases q2 : (v : Int) ≤ y.toInt
      · rw [show min 100000 v = v by omega] at *
        simp only [eq_false (fun z => q1 (e1.mp z)), eq_true (e2.mpr q2), eq_true (e3.mpr ⟨by omega, q2⟩), if_true, if_false, h45, nI_add]
      · simp only [eq_false (fun z => q1 (e1.mp z)), eq_false (fun z => q2 (e2.mp z)), eq_false (show ¬ inR v x y = true from fun z => q2 (e3.mp z).2), if_true, if_false, kf3, bd2_some, xz0]
  · rw [if_neg q]
    simp only [↓lt_eq, nI_lit, kd, bd_some, eq_false (fun z => q (e.mp z)), if_false, kf, bd2_some, xz0, if_true]
end KR

