/-! PRUNED: of whole -/
section SU
variable {Y : XY} {N N2 : XN} {B T L m : Nat} {t : Nat → Nat} {h0 : XD} {P : Nat → Int32} {y1 y2 : Int32}
theorem K_term0 {rc : Nat → Nat → Int32 → XN → Option (Int32 × XN)} {D p : Nat} {u v : Int32} {M : XN} : f_X4_readsTerm_8 Y rc (D + 1) p u (nI 0) v M = some (nI 0, M) := by
  rw [f_X4_readsTerm_8]
  simp only [nI_lit, xz0, nI01, if_true]
  split <;> rfl
theorem K_sum0 {rc : Nat → Nat → Int32 → XN → Option (Int32 × XN)} {D p : Nat} {u v : Int32} {M : XN} : f_X4_readsSum_8 Y rc (D + 1) p u (nI 0) v M = some (nI 0, M) := by
  rw [f_X4_readsSum_8]
  simp only [nI_lit, xz0, nI01, if_true]
  split <;> rfl
end SU

