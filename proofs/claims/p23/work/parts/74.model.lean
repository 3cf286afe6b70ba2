/-! PRUNED: of whole -/
def MY (_ : XY) (_ : Nat) : Prop := True
/-- the memory but for the rows that only pass things on inside a call -/
def jn (Y : XY) (m : Nat) (N N' : XN) : Prop := (∀ a, a ≠ gp Y m 18 → N'.1 a = N.1 a) ∧ ∀ a, a ≠ gp Y m 17 → N'.2 a = N.2 a
theorem jn.rfl' {Y : XY} {m : Nat} {N : XN} : jn Y m N N := ⟨fun _ _ => rfl, fun _ _ => rfl⟩
theorem jn.trans {Y : XY} {m : Nat} {N N' N'' : XN} (h : jn Y m N N') (h' : jn Y m N' N'') : jn Y m N N'' := ⟨fun a q => (h'.1 a q).trans (h.1 a q), fun a q => (h'.2 a q).trans (h.2 a q)⟩
section XM3
variable {Y : XY} {m : Nat} {N : XN} {d : XD}
theorem sBestF_eq {e : XD} {l k : Nat} {s : Int32 × Int32} : sBestF e l k s = if s.1 = -nI 1 then (e (52 + 7 * l + k), nI (sHeld e (e (52 + 7 * l + k)))) else if nI (sHeld e (e (52 + 7 * l + k))) < s.2 then (e (52 + 7 * l + k), nI (sHeld e (e (52 + 7 * l + k)))) else s := rfl
end XM3

