/-! PRUNED: of whole -/
section LN9
variable {f : Bool} {Y : XY} {N N2 : XN} {B T L m a : Nat} {t : Nat → Nat} {c : Nat → Nat → Int32} {g h h0 e : XD} {P : Nat → Int32} {ops : List Int32}
theorem QD.addT (hQ : QD P ops e c) {x l : Nat} (hx : x < nH e) (hl : l < nL e) (h3 : nT e l < 3) (hn : sTP e l (nI x) = none) : QD P ops (sAddT e x l) (up2 (up2 c (15 + 2 * l) (nT e l) (nI x)) (14 + 2 * l) 4 (nI (nT e l + 1))) := by
  obtain ⟨hD, hC, h0, z1, z2, z3⟩ := hQ
  have h6 := hD.H6
  have h8 := hD.L8
  obtain ⟨a1, a2, a3⟩ := sAddT_at (d := e) x l
  have e1 := a3 1 (by omega) (by omega)
  have e2 := a3 2 (by omega) (by omega)
  have e3 := a3 3 (by omega) (by omega)
  refine ⟨(hD.addT hx hl h3 hn).1, hC.addT hD hl h3, ?_, fun j b1 b2 => ?_, fun j b1 b2 => ?_, fun r hr => ?_⟩
  · rw [a3 _ (by omega) (by omega)]; exact h0
  · rw [nH_same e1] at b1
    rw [a3 _ (by omega) (by omega)]; exact z1 j b1 b2
  · rw [nL_same e2] at b1
    rw [a3 _ (by omega) (by omega)]; exact z2 j b1 b2
  · rw [nR_same e3] at hr
    rw [a3 _ (by omega) (by omega)]; exact z3 r hr
theorem K_line0 {D p q : Nat} {v : Int32} {M : XN} : f_X4_readsLine_111 Y (D + 1) p q (nI 0) v M = some (nI 0, M) := by
  rw [f_X4_readsLine_111]
  simp only [nI_lit, xz0, nI01, if_true]
  split <;> rfl
end LN9

