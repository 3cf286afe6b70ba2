/-! THE TEXT, AS BOTH BUFFERS HOLD IT -/
theorem text_of {N : XN} {B n L : Nat} (hb : ∀ i, i < n → byR (gi N (B + 1) i) (gi N (B + 909) i)) (hL : L ≤ n) : ∃ t, TB N (B + 1) L t ∧ TM N (B + 908) L t := by
  have key : ∀ i, i < L → (gi N (B + 909) i).toNatClampNeg < 256 ∧ gi N (B + 1) i = sb (gi N (B + 909) i).toNatClampNeg ∧ gi N (B + 909) i = nI (gi N (B + 909) i).toNatClampNeg := by
    intro i hi
    obtain ⟨b, b1, b2, b3⟩ := hb i (by omega)
    have e : (gi N (B + 909) i).toNatClampNeg = b := by rw [b2]; exact nI_clamp (by omega)
    rw [e]
    exact ⟨b1, b3, b2⟩
  exact ⟨fun i => (gi N (B + 909) i).toNatClampNeg, fun i hi => ⟨(key i hi).1, (key i hi).2.1⟩, fun i hi => ⟨(key i hi).1, (key i hi).2.2⟩⟩
