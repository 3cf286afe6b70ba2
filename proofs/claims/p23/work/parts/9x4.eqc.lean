/-! A ROW THAT DIFFERS IN THE FINE ALONE -/
section EQ9
variable {Y : XY} {N : XN} {pl : Nat → Nat} {H L R : Nat} {T : Nat → Nat} {ops ops' : List Int32} {d d' : XD}
theorem ixg_far {g k : Nat} (hb : H ≤ 6 ∧ L ≤ 8 ∧ R ≤ 60 ∧ ∀ l, l < L → T l ≤ 3) (hv : vd H L L R T g k) : ixg g k ≠ 10 ∧ ixg g k ≠ 11 ∧ ixg g k < 584 := by
  have t3 : g - 16 < L → T (g - 16) ≤ 3 := hb.2.2.2 (g - 16)
  unfold vd at hv
  unfold ixg
  (repeat' split) <;> omega
theorem DQ.eqc (h : DQ Y N pl H L R T ops d) (he : EQC d d') (hj : DJ ops' d') : DQ Y N pl H L R T ops' d' := by
  have hb := h.n.1
  refine ⟨h.y, ⟨hb, fun g k hv => ?_⟩, ⟨(nH_same (he 1 (by omega) (by omega) (by omega))).trans h.s.1, (nL_same (he 2 (by omega) (by omega) (by omega))).trans h.s.2.1, (nR_same (he 3 (by omega) (by omega) (by omega))).trans h.s.2.2.1, fun j hj' => (nT_same (he _ (by omega) (by omega) (by omega))).trans (h.s.2.2.2 j hj')⟩, hj, h.h4, h.l3⟩
  obtain ⟨f1, f2, f3⟩ := ixg_far ⟨hb.1, hb.2.1, hb.2.2.2.1, hb.2.2.2.2⟩ hv
  rw [he _ f1 f2 (by omega)]
  exact h.n.2 g k hv
end EQ9
