/-! PRUNED: of whole -/
section RU
variable {f : Bool} {Y : XY} {N N2 : XN} {B T L m a : Nat} {t : Nat → Nat} {c : Nat → Nat → Int32} {g h h0 e : XD} {P : Nat → Int32} {ops : List Int32}
/-- a rule's bounds, its field in the class's world -/
def lo5 (b : Nat) : Nat := if b = 2 then 0 else if b = 4 then 0 else 1
def hi5 (b : Nat) : Nat := if b = 2 then 999 else 99
theorem K_rule {b : Nat} (hb : b < 5) {M : XN} : f_X4_readsRule Y (B + 6) (nI (14 + b)) M = bd2 (f_X4_readsNumber Y (B + 6) (nI (lo5 b)) (nI (hi5 b)) M) fun r N' => if r = nI 0 then some (nI 0, N') else some (nI 1, si N' (gp Y (B + 6) 3) (8 + b) (gi N' (B + 6) 5)) := by
  unfold f_X4_readsRule
  rcases (show b = 0 ∨ b = 1 ∨ b = 2 ∨ b = 3 ∨ b = 4 by omega) with rfl | rfl | rfl | rfl | rfl
  all_goals (simp (disch := omega) only [↓lt_eq, nI_lit, Nat.reduceAdd, ↓reduceIte, pLEt, pLEf, pLTt, pLTf, pEQf, pML, pMG, pMf, pMg]; rfl)
end RU

