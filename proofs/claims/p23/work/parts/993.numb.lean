/-! PRUNED: of whole -/
theorem tK_num {t : Nat → Nat} {L s : Nat} : tK t L s = 2 ↔ (s < L ∧ isD (t s) = true) := by
  unfold tK
  by_cases h1 : L ≤ s
  · rw [if_pos h1]
    exact ⟨fun h => by omega, fun h => by omega⟩
  · rw [if_neg h1]
    by_cases h2 : isL (t s) = true
    · rw [if_pos h2]
      exact ⟨fun h => by omega, fun h => by
        have a : 97 ≤ t s ∧ t s ≤ 122 := of_decide_eq_true h2
        have b : 48 ≤ t s ∧ t s ≤ 57 := of_decide_eq_true h.2
        omega⟩
    · rw [if_neg h2]
      by_cases h3 : isD (t s) = true
      · rw [if_pos h3]; exact ⟨fun _ => ⟨by omega, h3⟩, fun _ => rfl⟩
      · rw [if_neg h3]
        constructor
        · intro h
          exfalso
          unfold sgK at h
          (repeat' split at h) <;> omega
        · intro h; exact absurd h.2 h3
theorem dV_le {t : Nat → Nat} {M : Nat} : ∀ (z s v : Nat), v ≤ M → dV t M z s v ≤ M := by
  intro z
  induction z with
  | zero => intro s v h; exact h
  | succ z ih => intro s v h; exact ih _ _ (Nat.min_le_left _ _)
/-- the class's cap is a cap on the model's -/
theorem dV_cap {t : Nat → Nat} {M K : Nat} (h : K ≤ M) : ∀ (z s v : Nat), dV t K z s (min K v) = min K (dV t M z s v) := by
  intro z
  induction z with
  | zero => intro s v; rfl
  | succ z ih =>
    intro s v
    rw [dV, dV, ← ih (s + 1)]
    congr 1
    omega
/-- the number of the digits at s; at most a million -/
def num (t : Nat → Nat) (L s : Nat) : Nat := dV t 1000000 (rN isD t L s - s) s 0
theorem num_le {t : Nat → Nat} {L s : Nat} : num t L s ≤ 1000000 := dV_le _ _ _ (Nat.zero_le _)
theorem isD_notL {b : Nat} (h : isD b = true) : isL b = false := by
  have h1 : 48 ≤ b ∧ b ≤ 57 := of_decide_eq_true h
  exact decide_eq_false (by omega)
theorem tN_num {t : Nat → Nat} {L s : Nat} (h : tK t L s = 2) : tN t L s = min 100000 (num t L s) := by
  obtain ⟨h1, h2⟩ := tK_num.mp h
  unfold tN num
  rw [if_neg (c := L ≤ s) (by omega), if_neg (by rw [isD_notL h2]; decide), if_pos h2]
  exact dV_cap (t := t) (M := 1000000) (K := 100000) (by omega) _ _ 0
/-- the number is in range -/
def inR (v a : Nat) (b : Int32) : Bool := decide (a ≤ v ∧ (v : Int) ≤ b.toInt)
section NU
variable {Y : XY} {N : XN} {m L : Nat} {t : Nat → Nat} {h e : XD}
end NU

