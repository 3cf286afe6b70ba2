/-! TOWARDS THE END OF A RANDOM DESK -/
theorem ND.mono : ∀ (D : Nat) {Y : XY} {N : XN} {a : Nat} {ops : List Int32} {tx : Nat → List Nat} {vl : (Nat → Int) → Int}, ND D Y N a ops tx vl → ND (D + 1) Y N a ops tx vl := by
  intro D
  induction D with
  | zero => intro Y N a ops tx vl h; exact h.elim
  | succ D ih =>
    intro Y N a ops tx vl h
    obtain ⟨k, h⟩ := h
    refine ⟨k, ?_⟩
    rcases h with h | h | ⟨c, p, r, lo, ro, lt, rt, lv, rv, h1, h2, h3, h4, h5, h6, h7⟩
    · exact Or.inl h
    · exact Or.inr (Or.inl h)
    · exact Or.inr (Or.inr ⟨c, p, r, lo, ro, lt, rt, lv, rv, h1, h2, h3, h4, ih h5, ih h6, h7⟩)
