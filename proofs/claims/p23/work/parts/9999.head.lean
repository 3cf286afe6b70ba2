/-! PRUNED: of whole -/
section HE
variable {Y : XY} {N : XN} {w a : Nat} {c : Nat → Nat → Int32} {e : XD}
/-- the trial world as a reading starts -/
def cUsual (c : Nat → Nat → Int32) : Nat → Nat → Int32 := up2 (up2 (up2 (up2 (up2 (up2 (up2 (up2 (up2 (up2 (up2 c 0 1 (nI 0)) 0 3 (nI 0)) 0 5 (nI 0)) 0 6 (nI 0)) 0 7 (nI 0)) 0 8 (nI 5)) 0 9 (nI 10)) 0 10 (nI 10)) 0 11 (nI 10)) 0 12 (nI 1)) 4 1 (nI 0)
theorem C_begin (hY : WY Y w) : f_X6_begin Y w (sw N w c) = some (sw N w (cUsual c)) := by
  unfold f_X6_begin
  simp (disch := omega) only [↓lt_eq, bd, bd2, Option.bind_some, nI_lit, nI_clamp, nI_add, xb_nI, if_true, gi_sw, gi_sw0, si_sw, si_sw0, hY.g0, hY.g2, hY.g4, hY.g13, hY.g14, hY.f0, hY.f2, hY.h, hY.l, hY.t, hY.r]
  rfl
end HE

