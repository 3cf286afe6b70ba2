/-! PRUNED: of whole -/
section FP
variable {P : Nat → Int32} {Y : XY} {B w w2 : Nat} {N : XN} {d : XD} {ops : List Int32}
theorem K_copy (hW : WY Y w) (hW2 : WY Y w2) (hd : w + 90 ≤ w2) (hD : DJ ops d) (hC : CR P ops d (wc N w)) : ∃ Q c', f_X6_copyOf Y w2 w N = some (sw N w2 c') ∧ CR Q ops d c' := by
  obtain ⟨Q, c', a, b⟩ := C_copyOf (N := N) hW2 hW (Or.inl hd) hD hC (wc N w2)
  rw [sw_wc] at a
  exact ⟨Q, c', a, b⟩
end FP

