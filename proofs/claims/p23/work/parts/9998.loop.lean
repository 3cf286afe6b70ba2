/-! PRUNED: of whole -/
section SL
variable {Y : XY} {N N2 : XN} {B T L m : Nat} {t : Nat → Nat} {h0 : XD} {P : Nat → Int32}
theorem K_reads0 {D p : Nat} {v : Int32} {M : XN} : f_X4_reads_63 Y (D + 1) p (nI 0) v M = some (nI 0, M) := by
  rw [f_X4_reads_63]
  simp only [nI_lit, xz0, nI01, if_true]
  split <;> rfl
end SL

