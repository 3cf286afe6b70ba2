/-! PRUNED: of whole -/
theorem nI01 : (nI 0 = nI 0) = True := eq_true rfl
section SM
variable {f : Bool} {Y : XY} {N N2 : XN} {B T L m a : Nat} {t : Nat → Nat} {c : Nat → Nat → Int32} {g h h0 e : XD} {P : Nat → Int32} {ops : List Int32}
end SM

