/-! PRUNED: of whole -/
def sTicks (ops : List Int32) (n : Nat) (d : XD) : XD := fo (fun _ e => sTick ops e) 0 n d
theorem sTicks_S (ops : List Int32) (n i : Nat) (d : XD) : fo (fun _ e => sTick ops e) i n d = sTicks ops n d := by
  induction n generalizing i d with
  | zero => rfl
  | succ n ih => unfold sTicks; rw [fo, fo, ih, ih]
theorem sTicks_1 (ops : List Int32) (n : Nat) (d : XD) : sTicks ops (n + 1) d = sTicks ops n (sTick ops d) := by
  show fo _ 0 (n + 1) d = _
  rw [fo]
  exact sTicks_S ops n 1 _
/-- the memory but for the rows that predictions work in -/
def jn2 (Y : XY) (m : Nat) (N N' : XN) : Prop := (∀ a, a ≠ gp Y m 18 → a ≠ gp Y m 10 → a ≠ gp Y m 11 → N'.1 a = N.1 a) ∧ ∀ a, a ≠ gp Y m 17 → N'.2 a = N.2 a
theorem jn2.rfl' {Y : XY} {m : Nat} {N : XN} : jn2 Y m N N := ⟨fun _ _ _ _ => rfl, fun _ _ => rfl⟩
theorem jn2.trans {Y : XY} {m : Nat} {N N' N'' : XN} (h : jn2 Y m N N') (h' : jn2 Y m N' N'') : jn2 Y m N N'' := ⟨fun a q q1 q2 => (h'.1 a q q1 q2).trans (h.1 a q q1 q2), fun a q => (h'.2 a q).trans (h.2 a q)⟩
section MT
variable {P : Nat → Int32} {Y : XY} {m w : Nat} {N : XN} {d : XD} {ops : List Int32} {c : Nat → Nat → Int32}
end MT

