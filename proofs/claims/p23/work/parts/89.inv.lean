/-! PRUNED: of whole -/
def ZZ (d : XD) : Prop := ∀ j, 1784 ≤ j → d j = nI 0
/-- the references of the object at B and of the model behind it -/
def YO (Y : XY) (B : Nat) : Prop := (gp Y B 0 = B + 1 ∧ gp Y B 3 = B + 2 ∧ gp Y B 4 = B + 6 ∧ gp Y B 5 = B + 7 ∧ gp Y B 6 = B + 97 ∧ gp Y B 7 = B + 187) ∧ (∀ i, i < 8 → gp Y (B + 187) i = B + (188 + 90 * i)) ∧ (gp Y (B + 2) 0 = B + 3 ∧ gp Y (B + 2) 1 = B + 4 ∧ gp Y (B + 2) 2 = B + 5) ∧ WY Y (B + 7) ∧ WY Y (B + 97) ∧ (∀ i, i < 8 → WY Y (B + (188 + 90 * i))) ∧ MY Y (B + 908) ∧ kn Y (B + 1) = 700
def byR (u v : Int32) : Prop := ∃ b : Nat, b < 256 ∧ v = nI b ∧ u = if b < 128 then nI b else nI b - nI 256
def IVd (B : Nat) (N : XN) (ops : List Int32) (d : XD) : Prop := DJ ops d ∧ ZZ d ∧ tM d ≤ 9999 ∧ N.1 (B + 910) = d ∧ ∃ P, CR P ops d (wc N (B + 7))
/-- the class's ring of worlds: the i-th of the k that can be undone shows hd i -/
def slot (B p k i : Nat) : Nat := B + (188 + 90 * ((p + 8 - k + i) % 8))
def ring (B : Nat) (N : XN) (k p : Nat) (hd : Nat → XD) : Prop := k ≤ 8 ∧ p < 8 ∧ gi N B 8 = nI k ∧ gi N B 9 = nI p ∧ ∀ i, i < k → ∃ ops, DJ ops (hd i) ∧ tM (hd i) ≤ 9999 ∧ ∃ P, CR P ops (hd i) (wc N (slot B p k i))
def hrow (B : Nat) (N : XN) (i : Nat) : XD := N.1 (B + (915 + i))
def IVh (B : Nat) (N : XN) (k p : Nat) : Prop := ring B N k p (hrow B N) ∧ gi N (B + 908) 13 = nI k ∧ ∀ i, i < 8 → ZZ (hrow B N i)
def IVt (B : Nat) (N : XN) (n : Nat) : Prop := n ≤ 700 ∧ gi N B 1 = nI n ∧ gi N (B + 908) 2 = nI n ∧ (∀ i, i < n → byR (gi N (B + 1) i) (gi N (B + 909) i)) ∧ gi N B 2 = gi N (B + 908) 7
/-- the cells that this speaks of -/
def core (B a k : Nat) : Prop := a = B ∨ a = B + 1 ∨ (B + 7 ≤ a ∧ a < B + 97) ∨ (B + 188 ≤ a ∧ a < B + 908) ∨ (a = B + 908 ∧ (k = 2 ∨ k = 7 ∨ k = 13)) ∨ a = B + 909 ∨ a = B + 910 ∨ (B + 915 ≤ a ∧ a < B + 923)
def sc (B : Nat) (N N' : XN) : Prop := ∀ a k, core B a k → N'.1 a k = N.1 a k
theorem sc.rfl' {B : Nat} {N : XN} : sc B N N := fun _ _ _ => rfl
theorem sc.trans {B : Nat} {N N' N'' : XN} (h : sc B N N') (h' : sc B N' N'') : sc B N N'' := fun a k q => (h' a k q).trans (h a k q)
theorem CR.cells {P : Nat → Int32} {ops : List Int32} {d : XD} {c c' : Nat → Nat → Int32} (h : CR P ops d c) (h6 : nH d ≤ 6) (h8 : nL d ≤ 8) (h60 : nR d ≤ 60) (hs : ∀ o k, o < 90 → c' o k = c o k) : CR P ops d c' := by
  obtain ⟨⟨w1, w2, w3, w4, w5⟩, h2, h3⟩ := h
  exact ⟨⟨fun k j h => (hs _ _ (by omega)).trans (w1 k j h), fun i k j hi h => (hs _ _ (by omega)).trans (w2 i k j hi h), fun i k j hi h => (hs _ _ (by omega)).trans (w3 i k j hi h), fun i k hi h3 h => (hs _ _ (by omega)).trans (w4 i k hi h3 h), fun i k j hi h => (hs _ _ (by omega)).trans (w5 i k j hi h)⟩, h2.same (fun k => hs _ _ (by omega)) (fun k => hs _ _ (by omega)) (fun k => hs _ _ (by omega)), fun i hi => (hs _ _ (by omega)).trans (h3 i hi)⟩
theorem IVd.same {B : Nat} {N N' : XN} {ops : List Int32} {d : XD} (h : IVd B N ops d) (h1 : ∀ k, N'.1 (B + 910) k = N.1 (B + 910) k) (h2 : ∀ o k, o < 90 → wc N' (B + 7) o k = wc N (B + 7) o k) : IVd B N' ops d := by
  obtain ⟨a1, a2, a3, a4, P, a5⟩ := h
  exact ⟨a1, a2, a3, (funext h1).trans a4, P, a5.cells a1.H6 a1.L8 a1.R60 h2⟩
theorem ring.same {B : Nat} {N N' : XN} {k p : Nat} {hd hd' : Nat → XD} (h : ring B N k p hd) (h1 : gi N' B 8 = gi N B 8) (h2 : gi N' B 9 = gi N B 9) (h3 : ∀ i, i < k → hd' i = hd i) (h4 : ∀ o j, o < 720 → wc N' (B + 188) o j = wc N (B + 188) o j) : ring B N' k p hd' := by
  obtain ⟨a1, a2, a4, a5, a6⟩ := h
  refine ⟨a1, a2, h1.trans a4, h2.trans a5, fun i hi => ?_⟩
  obtain ⟨ops, b1, b3, P, b4⟩ := a6 i hi
  rw [h3 i hi]
  refine ⟨ops, b1, b3, P, b4.cells b1.H6 b1.L8 b1.R60 (fun o j ho => ?_)⟩
  have := h4 (90 * ((p + 8 - k + i) % 8) + o) j (by omega)
  unfold wc slot at *
  rw [show B + (188 + 90 * ((p + 8 - k + i) % 8)) + o = B + 188 + (90 * ((p + 8 - k + i) % 8) + o) by omega]
  exact this
theorem IVh.same {B : Nat} {N N' : XN} {k p : Nat} (h : IVh B N k p) (h0 : gi N' (B + 908) 13 = gi N (B + 908) 13) (h1 : gi N' B 8 = gi N B 8) (h2 : gi N' B 9 = gi N B 9) (h3 : ∀ i j, i < 8 → N'.1 (B + (915 + i)) j = N.1 (B + (915 + i)) j) (h4 : ∀ o j, o < 720 → wc N' (B + 188) o j = wc N (B + 188) o j) : IVh B N' k p := by
  obtain ⟨a1, a2, a3⟩ := h
  have e : ∀ i, i < 8 → hrow B N' i = hrow B N i := fun i hi => funext (fun j => h3 i j hi)
  have hk := a1.1
  exact ⟨a1.same h1 h2 (fun i hi => e i (by omega)) h4, h0.trans a2, fun i hi => by rw [e i hi]; exact a3 i hi⟩
theorem IVt.same {B : Nat} {N N' : XN} {n : Nat} (h : IVt B N n) (h0 : gi N' B 1 = gi N B 1) (h1 : gi N' (B + 908) 2 = gi N (B + 908) 2) (h2 : ∀ i, gi N' (B + 1) i = gi N (B + 1) i) (h3 : ∀ i, gi N' (B + 909) i = gi N (B + 909) i) (h4 : gi N' B 2 = gi N B 2) (h5 : gi N' (B + 908) 7 = gi N (B + 908) 7) : IVt B N' n := by
  obtain ⟨a1, a2, a3, a4, a5⟩ := h
  exact ⟨a1, h0.trans a2, h1.trans a3, fun i hi => by rw [h2, h3]; exact a4 i hi, by rw [h4, h5]; exact a5⟩
section FA
variable {Y : XY} {B : Nat} {N : XN} {d : XD} {ops : List Int32}
theorem si_row {N : XN} {a k b : Nat} {v : Int32} (h : b ≠ a) : (si N a k v).1 b = N.1 b := by
  funext j
  exact if_neg (fun q => h q.1)
theorem sw_wc (N : XN) (w : Nat) : sw N w (wc N w) = N := sw_self N w
end FA

