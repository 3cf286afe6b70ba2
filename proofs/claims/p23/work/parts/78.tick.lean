/-! PRUNED: of whole -/
section TK
variable {Y : XY} {m : Nat} {N : XN} {d : XD} {ops : List Int32}
def sFineV (ops : List Int32) (d : XD) (r : Nat) : Int32 := sFV ops (d (104 + 8 * r)) (d (109 + 8 * r)) (nI (sHeld d (d (108 + 8 * r)))) (d 0 - d (111 + 8 * r))
theorem sml_nI {n : Nat} (h : n ≤ 1000000) : sml (nI n) := by unfold sml; rw [nI_toInt (by omega)]; omega
/-- what the fine's value is made of is small -/
theorem fine_sml (hD : DJ ops d) (hT : tM d ≤ 1000000) {r : Nat} (hr : r < nR d) : sml (d (104 + 8 * r)) ∧ sml (d (109 + 8 * r)) ∧ sml (nI (sHeld d (d (108 + 8 * r)))) ∧ sml (d 0 - d (111 + 8 * r)) := by
  have h8 := hD.L8
  have h60 := hD.R60
  obtain ⟨⟨l, a1, a2⟩, -, ⟨x, c1, c2⟩, ⟨p, f1, f2⟩, -⟩ := hD.rq r hr
  have := sHeld_le (d := d) (d (108 + 8 * r))
  refine ⟨by rw [a2]; exact sml_nI (by omega), by rw [c2]; exact sml_nI (by omega), sml_nI (by omega), ?_⟩
  rw [hD.T, f2, pk_sub f1]
  exact sml_nI (by omega)
end TK

