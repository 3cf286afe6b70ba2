/-! PRUNED: of whole -/
/-- the model's own row but for what reading writes -/
def HF (h0 h : XD) : Prop := ∀ j, j ≠ 4 → j ≠ 5 → j ≠ 6 → j ≠ 14 → j ≠ 15 → j ≠ 16 → h j = h0 j
theorem HF.up {h0 h : XD} (h9 : HF h0 h) {k : Nat} (hk : k = 4 ∨ k = 5 ∨ k = 6 ∨ k = 14 ∨ k = 15 ∨ k = 16) (v : Int32) : HF h0 (upd h k v) := fun j a1 a2 a3 a4 a5 a6 => by rw [upd_n (by omega)]; exact h9 j a1 a2 a3 a4 a5 a6
section ST
variable {Y : XY} {N N2 : XN} {B T L m a : Nat} {t : Nat → Nat} {c : Nat → Nat → Int32} {g h h0 e : XD}
end ST

