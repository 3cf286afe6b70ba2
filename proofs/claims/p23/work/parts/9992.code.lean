/-! PRUNED: of whole -/
section CO
variable {Y : XY} {N N2 : XN} {B T L m a w : Nat} {t : Nat → Nat} {c c' : Nat → Nat → Int32} {g h h0 e e' : XD} {P : Nat → Int32} {ops ops' : List Int32}
/-- a step more in the class's world -/
def cStep (c : Nat → Nat → Int32) (n : Nat) (x : Int32) : Nat → Nat → Int32 := up2 (up2 c 5 n x) 4 1 (nI (n + 1))
theorem C_addStep (hY : WY Y w) {n : Nat} (hn : n < 700) (h4 : c 4 1 = nI n) {x : Int32} : f_X0_addStep Y (w + 4) x (sw N w c) = some (sw N w (cStep c n x)) := by
  unfold f_X0_addStep
  simp (disch := omega) only [↓lt_eq, bd, bd2, Option.bind_some, nI_lit, nI_clamp, nI_add, xb_nI, if_true, gi_sw, gi_sw0, si_sw, si_sw0, hY.g0, hY.g2, hY.g4, hY.g13, hY.g14, hY.f0, hY.f2, hY.h, hY.l, hY.t, hY.r, ↓reduceIte, pLEt, pLEf, pLTt, pLTf, pEQf, pML, pMG, pMf, pMg, h4, up2_n]
  rfl
end CO

