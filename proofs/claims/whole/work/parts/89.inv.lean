/-! WHAT HOLDS BETWEEN THE CALLS, AND THE FACE'S READS -/
def ZZ (d : XD) : Prop := ∀ j, 1784 ≤ j → d j = nI 0
/-- the references of the object at B and of the model behind it -/
def YO (Y : XY) (B : Nat) : Prop := (gp Y B 0 = B + 1 ∧ gp Y B 3 = B + 2 ∧ gp Y B 4 = B + 6 ∧ gp Y B 5 = B + 7 ∧ gp Y B 6 = B + 97 ∧ gp Y B 7 = B + 187) ∧ (∀ i, i < 8 → gp Y (B + 187) i = B + (188 + 90 * i)) ∧ (gp Y (B + 2) 0 = B + 3 ∧ gp Y (B + 2) 1 = B + 4 ∧ gp Y (B + 2) 2 = B + 5) ∧ WY Y (B + 7) ∧ WY Y (B + 97) ∧ (∀ i, i < 8 → WY Y (B + (188 + 90 * i))) ∧ MY Y (B + 908) ∧ kn Y (B + 1) = 700
def byR (u v : Int32) : Prop := ∃ b : Nat, b < 256 ∧ v = nI b ∧ u = if b < 128 then nI b else nI b - nI 256
def IVd (B : Nat) (N : XN) (ops : List Int32) (d : XD) : Prop := DJ ops d ∧ ZZ d ∧ tM d ≤ 9999 ∧ N.1 (B + 910) = d ∧ ∃ P, CR P ops d (wc N (B + 7))
/-- the class's ring of worlds: the i-th of the k that can be undone shows hd i -/
def slot (B p k i : Nat) : Nat := B + (188 + 90 * ((p + 8 - k + i) % 8))
def ring (B : Nat) (N : XN) (k p : Nat) (hd : Nat → XD) : Prop := k ≤ 8 ∧ p < 8 ∧ gi N B 8 = nI k ∧ gi N B 9 = nI p ∧ ∀ i, i < k → ∃ ops, DJ ops (hd i) ∧ tM (hd i) ≤ 9999 ∧ ∃ P, CR P ops (hd i) (wc N (slot B p k i))
def hrow (B : Nat) (N : XN) (i : Nat) : XD := N.1 (B + (915 + i))
def IVh (B : Nat) (N : XN) (k p : Nat) : Prop := ring B N k p (hrow B N) ∧ gi N (B + 908) 13 = nI k ∧ ∀ i, i < 8 → ZZ (hrow B N i)
def IVt (B : Nat) (N : XN) (n : Nat) : Prop := n ≤ 700 ∧ gi N B 1 = nI n ∧ gi N (B + 908) 2 = nI n ∧ (∀ i, i < n → byR (gi N (B + 1) i) (gi N (B + 909) i)) ∧ gi N B 2 = gi N (B + 908) 7
def IV (B : Nat) (N : XN) : Prop := (∃ ops d, IVd B N ops d) ∧ (∃ k p, IVh B N k p) ∧ ∃ n, IVt B N n
/-- the cells that this speaks of -/
def core (B a k : Nat) : Prop := a = B ∨ a = B + 1 ∨ (B + 7 ≤ a ∧ a < B + 97) ∨ (B + 188 ≤ a ∧ a < B + 908) ∨ (a = B + 908 ∧ (k = 2 ∨ k = 7 ∨ k = 13)) ∨ a = B + 909 ∨ a = B + 910 ∨ (B + 915 ≤ a ∧ a < B + 923)
def sc (B : Nat) (N N' : XN) : Prop := ∀ a k, core B a k → N'.1 a k = N.1 a k
theorem sc.rfl' {B : Nat} {N : XN} : sc B N N := fun _ _ _ => rfl
theorem sc.trans {B : Nat} {N N' N'' : XN} (h : sc B N N') (h' : sc B N' N'') : sc B N N'' := fun a k q => (h' a k q).trans (h a k q)
theorem CR.cells {P : Nat → Int32} {ops : List Int32} {d : XD} {c c' : Nat → Nat → Int32} (h : CR P ops d c) (h6 : nH d ≤ 6) (h8 : nL d ≤ 8) (h60 : nR d ≤ 60) (hs : ∀ o k, o < 90 → c' o k = c o k) : CR P ops d c' := by
  obtain ⟨⟨w1, w2, w3, w4, w5⟩, h2, h3⟩ := h
  exact ⟨⟨fun k j h => (hs _ _ (by omega)).trans (w1 k j h), fun i k j hi h => (hs _ _ (by omega)).trans (w2 i k j hi h), fun i k j hi h => (hs _ _ (by omega)).trans (w3 i k j hi h), fun i k hi h3 h => (hs _ _ (by omega)).trans (w4 i k hi h3 h), fun i k j hi h => (hs _ _ (by omega)).trans (w5 i k j hi h)⟩, h2.same (fun k => hs _ _ (by omega)) (fun k => hs _ _ (by omega)) (fun k => hs _ _ (by omega)), fun i hi => (hs _ _ (by omega)).trans (h3 i hi)⟩
theorem IVd.same {B : Nat} {N N' : XN} {ops : List Int32} {d : XD} (h : IVd B N ops d) (h1 : ∀ k, N'.1 (B + 910) k = N.1 (B + 910) k) (h2 : ∀ o k, o < 90 → wc N' (B + 7) o k = wc N (B + 7) o k) : IVd B N' ops d := by
  obtain ⟨a1, a2, a3, a4, P, a5⟩ := h
  exact ⟨a1, a2, a3, (funext h1).trans a4, P, a5.cells a1.H6 a1.L8 a1.R60 h2⟩
theorem ring.same {B : Nat} {N N' : XN} {k p : Nat} {hd hd' : Nat → XD} (h : ring B N k p hd) (h1 : gi N' B 8 = gi N B 8) (h2 : gi N' B 9 = gi N B 9) (h3 : ∀ i, i < k → hd' i = hd i) (h4 : ∀ o j, o < 720 → wc N' (B + 188) o j = wc N (B + 188) o j) : ring B N' k p hd' := by
  obtain ⟨a1, a2, a4, a5, a6⟩ := h
  refine ⟨a1, a2, h1.trans a4, h2.trans a5, fun i hi => ?_⟩
  obtain ⟨ops, b1, b3, P, b4⟩ := a6 i hi
  rw [h3 i hi]
  refine ⟨ops, b1, b3, P, b4.cells b1.H6 b1.L8 b1.R60 (fun o j ho => ?_)⟩
  have := h4 (90 * ((p + 8 - k + i) % 8) + o) j (by omega)
  unfold wc slot at *
  rw [show B + (188 + 90 * ((p + 8 - k + i) % 8)) + o = B + 188 + (90 * ((p + 8 - k + i) % 8) + o) by omega]
  exact this
theorem IVh.same {B : Nat} {N N' : XN} {k p : Nat} (h : IVh B N k p) (h0 : gi N' (B + 908) 13 = gi N (B + 908) 13) (h1 : gi N' B 8 = gi N B 8) (h2 : gi N' B 9 = gi N B 9) (h3 : ∀ i j, i < 8 → N'.1 (B + (915 + i)) j = N.1 (B + (915 + i)) j) (h4 : ∀ o j, o < 720 → wc N' (B + 188) o j = wc N (B + 188) o j) : IVh B N' k p := by
  obtain ⟨a1, a2, a3⟩ := h
  have e : ∀ i, i < 8 → hrow B N' i = hrow B N i := fun i hi => funext (fun j => h3 i j hi)
  have hk := a1.1
  exact ⟨a1.same h1 h2 (fun i hi => e i (by omega)) h4, h0.trans a2, fun i hi => by rw [e i hi]; exact a3 i hi⟩
theorem IVt.same {B : Nat} {N N' : XN} {n : Nat} (h : IVt B N n) (h0 : gi N' B 1 = gi N B 1) (h1 : gi N' (B + 908) 2 = gi N (B + 908) 2) (h2 : ∀ i, gi N' (B + 1) i = gi N (B + 1) i) (h3 : ∀ i, gi N' (B + 909) i = gi N (B + 909) i) (h4 : gi N' B 2 = gi N B 2) (h5 : gi N' (B + 908) 7 = gi N (B + 908) 7) : IVt B N' n := by
  obtain ⟨a1, a2, a3, a4, a5⟩ := h
  exact ⟨a1, h0.trans a2, h1.trans a3, fun i hi => by rw [h2, h3]; exact a4 i hi, by rw [h4, h5]; exact a5⟩
theorem IVh.sc {B : Nat} {N N' : XN} {k p : Nat} (h : IVh B N k p) (s : sc B N N') : IVh B N' k p :=
  h.same (s _ _ (by unfold core; omega)) (s _ _ (by unfold core; omega)) (s _ _ (by unfold core; omega)) (fun i j hi => s _ _ (by unfold core; omega)) (fun o j ho => s _ _ (by unfold core; omega))
theorem IVt.sc {B : Nat} {N N' : XN} {n : Nat} (h : IVt B N n) (s : sc B N N') : IVt B N' n :=
  h.same (s _ _ (by unfold core; omega)) (s _ _ (by unfold core; omega)) (fun i => s _ _ (by unfold core; omega)) (fun i => s _ _ (by unfold core; omega)) (s _ _ (by unfold core; omega)) (s _ _ (by unfold core; omega))
theorem IVd.sc {B : Nat} {N N' : XN} {ops : List Int32} {d : XD} (h : IVd B N ops d) (s : sc B N N') : IVd B N' ops d :=
  h.same (fun k => s _ _ (by unfold core; omega)) (fun o k ho => s _ _ (by unfold core; omega))
theorem IV.sc {B : Nat} {N N' : XN} (h : IV B N) (s : sc B N N') : IV B N' := by
  obtain ⟨⟨ops, d, h1⟩, ⟨k, p, h2⟩, n, h3⟩ := h
  exact ⟨⟨ops, d, h1.sc s⟩, ⟨k, p, h2.sc s⟩, n, h3.sc s⟩
/-- the class's outcome o against the model's answer v and its number of a throw t -/
def AG (codes : List String) (o : Int32 ⊕ String) (v t : Int32) : Prop := match o with
  | .inl x => t = nI 0 ∧ x = v
  | .inr E => ∃ i, i < codes.length ∧ codes.getD i "" = E ∧ t = nI (i + 1)
/-- what is owed of a call: the class's end, then the model's, from any memory with the same ints -/
def FC2 (Y : XY) (B : Nat) (codes : List String) (fx : XN → Option ((Int32 ⊕ String) × XN)) (fm : XN → Option (Int32 × XN)) (N : XN) : Prop :=
  ∃ o N1, fx N = some (o, N1) ∧ ∀ N', N'.1 = N1.1 → ∃ v N2, fm N' = some (v, N2) ∧ IV B N2 ∧ (∀ a, a ≠ B + 923 → N2.2 a = N'.2 a) ∧ AG codes o v (gi N2 (B + 908) 0)
def IOB : String := "java/lang/IndexOutOfBoundsException"
def IAE : String := "java/lang/IllegalArgumentException"
def ISE : String := "java/lang/IllegalStateException"
def NSE : String := "java/util/NoSuchElementException"
section FA
variable {Y : XY} {B : Nat} {N : XN} {d : XD} {ops : List Int32}
theorem si_si (N : XN) (a k : Nat) (u v : Int32) : si (si N a k u) a k v = si N a k v := by
  refine Prod.ext ?_ rfl
  funext b j
  show (if b = a ∧ j = k then v else if b = a ∧ j = k then u else N.1 b j) = (if b = a ∧ j = k then v else N.1 b j)
  by_cases q : b = a ∧ j = k
  · rw [if_pos q, if_pos q]
  · rw [if_neg q, if_neg q, if_neg q]
theorem si_row {N : XN} {a k b : Nat} {v : Int32} (h : b ≠ a) : (si N a k v).1 b = N.1 b := by
  funext j
  exact if_neg (fun q => h q.1)
/-- the model's memory, with its row d and its number of a throw t -/
def mm (N : XN) (B : Nat) (t : Int32) : XN := si N (B + 908) 0 t
theorem mm_row (N : XN) (B : Nat) (t : Int32) : (mm N B t).1 (B + 910) = N.1 (B + 910) := by
  exact si_row (by omega)
theorem mm_sd (hM : MY Y (B + 908)) (hd : N.1 (B + 910) = d) (t : Int32) : mm N B t = sd (mm N B t) (gp Y (B + 908) 8) d := by
  rw [hM.g8, ← hd, ← mm_row N B t]
  exact (sd_self _ _).symm
theorem mm_mm (N : XN) (B : Nat) (t u : Int32) : mm (mm N B t) B u = mm N B u := si_si N _ _ _ _
theorem gi_mm (N : XN) (B : Nat) (t : Int32) : gi (mm N B t) (B + 908) 0 = t := gi_si _ _ _ _
theorem si_cell {N : XN} {a k b j : Nat} {v : Int32} (h : ¬ (b = a ∧ j = k)) : (si N a k v).1 b j = N.1 b j := if_neg h
theorem sc_mm (N : XN) (B : Nat) (t : Int32) : sc B N (mm N B t) := fun a k q => si_cell (by unfold core at q; omega)
theorem fails_t {c : Nat} (hc : 0 < c) (h2 : c < 10) : f_X8_fails Y (B + 908) (nI 1) (nI c) (mm N B (nI 0)) = some (nI 1, mm N B (nI c)) := by
  unfold f_X8_fails
  have e1 : si (mm N B (nI 0)) (B + 908) 0 (nI c) = mm N B (nI c) := mm_mm N B _ _
  simp (disch := omega) only [↓lt_eq, nI_lit, gi_mm, e1, ↓reduceIte, pLEt, pLEf, pLTt, pLTf, pEQf, pML, pMG, pMf, pMg]
theorem fails_f (c : Int32) : f_X8_fails Y (B + 908) (nI 0) c (mm N B (nI 0)) = some (nI 0, mm N B (nI 0)) := by
  unfold f_X8_fails
  simp (disch := omega) only [↓lt_eq, nI_lit, gi_mm, ↓reduceIte, pLEt, pLEf, pLTt, pLTf, pEQf, pML, pMG, pMf, pMg]
/-- out of 0 .. n - 1 -/
def outR (x : Int32) (n : Nat) : Prop := x < nI 0 ∨ nI n ≤ x
theorem ix_or (x : Int32) {n : Nat} (hn : n < 2 ^ 31) : outR x n ∨ ∃ j : Nat, j < n ∧ x = nI j := by
  rcases pk_ix x hn with h | h | h
  · exact Or.inl (Or.inl h)
  · exact Or.inl (Or.inr h)
  · exact Or.inr h
theorem outR_ne {x : Int32} {n k : Nat} (h : outR x n) (hk : k < n) (hn : n < 2 ^ 31) : (x = nI k) = False := eq_false (fun q => by
  rcases h with h | h
  · rw [q] at h; exact nI_nlt (Nat.zero_le k) (by omega) h
  · rw [q] at h; exact nI_ge hk hn h)
theorem in_of {x : Int32} {n : Nat} (hn : n < 2 ^ 30) : f_X8_in Y x (nI 0) (nI n - nI 1) N = if x < nI 0 then nI 0 else if nI n ≤ x then nI 0 else nI 1 := by
  unfold f_X8_in
  have e : (nI n - nI 1 < x) ↔ nI n ≤ x := by
    rw [Int32.lt_iff_toInt_lt, Int32.le_iff_toInt_le, pk_sub_toInt hn (by omega), nI_toInt (by omega)]
    omega
  by_cases q1 : x < nI 0
  · rw [if_pos q1, if_pos q1]; rfl
  · rw [if_neg q1, if_neg q1]
    by_cases q2 : nI n ≤ x
    · rw [if_pos (e.mpr q2), if_pos q2]; rfl
    · rw [if_neg (fun z => q2 (e.mp z)), if_neg q2]; rfl
theorem in_out {x : Int32} {n : Nat} (hn : n < 2 ^ 30) (h : outR x n) : f_X8_in Y x (nI 0) (nI n - nI 1) N = nI 0 := by
  rw [in_of hn]
  rcases h with h | h
  · rw [if_pos h]
  · by_cases q : x < nI 0
    · rw [if_pos q]
    · rw [if_neg q, if_pos h]
theorem in_in {j n : Nat} (hn : n < 2 ^ 30) (h : j < n) : f_X8_in Y (nI j) (nI 0) (nI n - nI 1) N = nI 1 := by
  rw [in_of hn, if_neg (nI_nlt (Nat.zero_le j) (by omega)), if_neg (nI_ge h (by omega))]
theorem pre_n {n : Nat} (h : 0 < n) : nI n - nI 1 = nI (n - 1) := pk_sub h
theorem in_outS {x : Int32} {k : Nat} (hk : k < 2 ^ 29) (h : outR x (k + 1)) : f_X8_in Y x (nI 0) (nI k) N = nI 0 := by
  have := in_out (Y := Y) (N := N) (n := k + 1) (by omega) h
  rw [pk_sub (by omega), Nat.add_sub_cancel] at this
  exact this
theorem in_inS {j k : Nat} (hk : k < 2 ^ 29) (h : j ≤ k) : f_X8_in Y (nI j) (nI 0) (nI k) N = nI 1 := by
  have := in_in (Y := Y) (N := N) (n := k + 1) (j := j) (by omega) (by omega)
  rw [pk_sub (by omega), Nat.add_sub_cancel] at this
  exact this
theorem sw_wc (N : XN) (w : Nat) : sw N w (wc N w) = N := sw_self N w
theorem noH (hM : MY Y (B + 908)) (hd : N.1 (B + 910) = d) (hD : DJ ops d) (x : Int32) : (outR x (nH d) → f_X8_noHandler Y (B + 908) x (mm N B (nI 0)) = some (nI 1, mm N B (nI 1))) ∧ ∀ j, j < nH d → x = nI j → f_X8_noHandler Y (B + 908) x (mm N B (nI 0)) = some (nI 0, mm N B (nI 0)) := by
  have h6 := hD.H6
  have e : gi (mm N B (nI 0)) (gp Y (B + 908) 8) 1 = nI (nH d) := by rw [mm_sd hM hd, gi_sd]; exact hD.H
  have x1 : xz (nI 1) = true := by decide
  have x0 : xz (nI 0) = true := by decide
  unfold f_X8_noHandler
  refine ⟨fun h => ?_, fun j hj hx => ?_⟩
  · simp (disch := omega) only [nI_lit, e, in_out (n := nH d) (by omega) h, ↓reduceIte, pLEt, pLEf, pLTt, pLTf, pEQf, pML, pMG, pMf, pMg, fails_t (Y := Y) (N := N) (B := B) (c := 1) (by omega) (by omega), bd2, Option.bind_some, x1, if_true]
  · rw [hx]
    simp (disch := omega) only [nI_lit, e, in_in (n := nH d) (j := j) (by omega) hj, ↓reduceIte, pLEt, pLEf, pLTt, pLTf, pEQf, pML, pMG, pMf, pMg, fails_f, bd2, Option.bind_some, x0, if_true]
theorem noL (hM : MY Y (B + 908)) (hd : N.1 (B + 910) = d) (hD : DJ ops d) (x : Int32) : (outR x (nL d) → f_X8_noLine Y (B + 908) x (mm N B (nI 0)) = some (nI 1, mm N B (nI 1))) ∧ ∀ j, j < nL d → x = nI j → f_X8_noLine Y (B + 908) x (mm N B (nI 0)) = some (nI 0, mm N B (nI 0)) := by
  have h6 := hD.L8
  have e : gi (mm N B (nI 0)) (gp Y (B + 908) 8) 2 = nI (nL d) := by rw [mm_sd hM hd, gi_sd]; exact hD.L
  have x1 : xz (nI 1) = true := by decide
  have x0 : xz (nI 0) = true := by decide
  unfold f_X8_noLine
  refine ⟨fun h => ?_, fun j hj hx => ?_⟩
  · simp (disch := omega) only [nI_lit, e, in_out (n := nL d) (by omega) h, ↓reduceIte, pLEt, pLEf, pLTt, pLTf, pEQf, pML, pMG, pMf, pMg, fails_t (Y := Y) (N := N) (B := B) (c := 1) (by omega) (by omega), bd2, Option.bind_some, x1, if_true]
  · rw [hx]
    simp (disch := omega) only [nI_lit, e, in_in (n := nL d) (j := j) (by omega) hj, ↓reduceIte, pLEt, pLEf, pLTt, pLTf, pEQf, pML, pMG, pMf, pMg, fails_f, bd2, Option.bind_some, x0, if_true]
theorem noR (hM : MY Y (B + 908)) (hd : N.1 (B + 910) = d) (hD : DJ ops d) (x : Int32) : (outR x (nR d) → f_X8_noRequest Y (B + 908) x (mm N B (nI 0)) = some (nI 1, mm N B (nI 1))) ∧ ∀ j, j < nR d → x = nI j → f_X8_noRequest Y (B + 908) x (mm N B (nI 0)) = some (nI 0, mm N B (nI 0)) := by
  have h6 := hD.R60
  have e : gi (mm N B (nI 0)) (gp Y (B + 908) 8) 3 = nI (nR d) := by rw [mm_sd hM hd, gi_sd]; exact hD.R
  have x1 : xz (nI 1) = true := by decide
  have x0 : xz (nI 0) = true := by decide
  unfold f_X8_noRequest
  refine ⟨fun h => ?_, fun j hj hx => ?_⟩
  · simp (disch := omega) only [nI_lit, e, in_out (n := nR d) (by omega) h, ↓reduceIte, pLEt, pLEf, pLTt, pLTf, pEQf, pML, pMG, pMf, pMg, fails_t (Y := Y) (N := N) (B := B) (c := 1) (by omega) (by omega), bd2, Option.bind_some, x1, if_true]
  · rw [hx]
    simp (disch := omega) only [nI_lit, e, in_in (n := nR d) (j := j) (by omega) hj, ↓reduceIte, pLEt, pLEf, pLTt, pLTf, pEQf, pML, pMG, pMf, pMg, fails_f, bd2, Option.bind_some, x0, if_true]
/-- a number from 0 to n - 1 -/
theorem noN {n : Nat} (hn : n < 2 ^ 30) (x : Int32) : (outR x n → f_X8_noNumber Y (B + 908) x (nI 0) (nI n - nI 1) (mm N B (nI 0)) = some (nI 1, mm N B (nI 2))) ∧ ∀ j, j < n → x = nI j → f_X8_noNumber Y (B + 908) x (nI 0) (nI n - nI 1) (mm N B (nI 0)) = some (nI 0, mm N B (nI 0)) := by
  have x1 : xz (nI 1) = true := by decide
  have x0 : xz (nI 0) = true := by decide
  unfold f_X8_noNumber
  refine ⟨fun h => ?_, fun j hj hx => ?_⟩
  · simp (disch := omega) only [nI_lit, in_out (n := n) hn h, ↓reduceIte, pLEt, pLEf, pLTt, pLTf, pEQf, pML, pMG, pMf, pMg, fails_t (Y := Y) (N := N) (B := B) (c := 2) (by omega) (by omega), bd2, Option.bind_some, x1, if_true]
  · rw [hx]
    simp (disch := omega) only [nI_lit, in_in (n := n) (j := j) hn hj, ↓reduceIte, pLEt, pLEf, pLTt, pLTf, pEQf, pML, pMG, pMf, pMg, fails_f, bd2, Option.bind_some, x0, if_true]
theorem has_out {x : Int32} {n : Nat} {α : Type} {u v : α} (h : outR x n) : (if (if x < nI 0 then nI 0 else if nI n ≤ x then nI 0 else nI 1) = nI 0 then u else v) = u := by
  rcases h with h | h
  · rw [if_pos h, if_pos rfl]
  · by_cases q : x < nI 0
    · rw [if_pos q, if_pos rfl]
    · rw [if_neg q, if_pos h, if_pos rfl]
theorem mem_eq {N N' : XN} (h : N'.1 = N.1) : (N'.1, N'.2) = N' := rfl
theorem IV.ints {N N' : XN} (h : N'.1 = N.1) (hI : IV B N) : IV B N' := hI.sc (fun a k _ => by rw [h])
end FA
