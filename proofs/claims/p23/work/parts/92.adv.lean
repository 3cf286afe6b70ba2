/-! PRUNED: of whole -/
theorem bd_some {α β : Type} (a : α) (f : α → Option β) : bd (some a) f = f a := (rfl)
theorem bd2_some {α β γ : Type} (a : α) (b : β) (f : α → β → Option γ) : bd2 (some (a, b)) f = f a b := (rfl)
section AV
variable {P : Nat → Int32} {Y : XY} {B w w2 m : Nat} {N : XN} {d : XD} {ops : List Int32}
end AV

