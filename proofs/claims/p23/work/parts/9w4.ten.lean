/-! A LINE'S TENANTS IN THE ROW -/
section TN
variable {e : XD} {l : Nat}
theorem sTPF_no {h : Int32} : ∀ (c k : Nat), (∀ i, k ≤ i → i < k + c → e (52 + 7 * l + i) ≠ h) → sTPF e l h k c = none := by
  intro c
  induction c with
  | zero => intro k _; rfl
  | succ c ih =>
    intro k hk
    rw [sTPF, if_neg (hk k (Nat.le_refl _) (by omega))]
    exact ih (k + 1) (fun i h1 h2 => hk i (by omega) (by omega))
theorem nT_add (x : Nat) (h : nT e l ≤ 3) : nT (sAddT e x l) l = nT e l + 1 := by
  unfold nT
  rw [(sAddT_at (d := e) x l).1]
  exact nI_clamp (by unfold nT at h ⊢; omega)
theorem eTn_at : ∀ (xs : List Nat) (e : XD), nT e l + xs.length ≤ 3 → nT (eTn e l xs) l = nT e l + xs.length ∧ (∀ i, i < xs.length → eTn e l xs (52 + 7 * l + nT e l + i) = nI (gd xs i)) ∧ ∀ j, j ≠ 51 + 7 * l → (j < 52 + 7 * l + nT e l ∨ 52 + 7 * l + nT e l + xs.length ≤ j) → eTn e l xs j = e j := by
  intro xs
  induction xs with
  | nil => intro e _; exact ⟨rfl, fun i hi => absurd hi (Nat.not_lt_zero i), fun j _ _ => rfl⟩
  | cons x r ih =>
    intro e h
    have hl : (x :: r).length = r.length + 1 := rfl
    rw [hl] at h
    have en := nT_add (e := e) (l := l) x (by omega)
    obtain ⟨a1, a2, a3⟩ := ih (sAddT e x l) (by rw [en]; omega)
    obtain ⟨-, b2, b3⟩ := sAddT_at (d := e) x l
    rw [en] at a1 a2 a3
    refine ⟨?_, fun i hi => ?_, fun j h1 h2 => ?_⟩
    · show nT (eTn (sAddT e x l) l r) l = _
      rw [a1, hl]; omega
    · show eTn (sAddT e x l) l r _ = _
      cases i with
      | zero =>
        rw [a3 _ (by omega) (by omega), Nat.add_zero, b2]
        rfl
      | succ i =>
        rw [show 52 + 7 * l + nT e l + (i + 1) = 52 + 7 * l + (nT e l + 1) + i by omega, a2 i (by rw [hl] at hi; omega)]
        rfl
    · show eTn (sAddT e x l) l r j = _
      rw [hl] at h2
      rw [a3 j h1 (by omega), b3 j h1 (by omega)]
theorem TV_of : ∀ (xs : List Nat) (e : XD), nT e l + xs.length ≤ 3 → (∀ x, x ∈ xs → x < nH e) → xs.Pairwise (· ≠ ·) → nH e ≤ 6 → (∀ k, k < nT e l → ∀ x, x ∈ xs → e (52 + 7 * l + k) ≠ nI x) → TV e l xs := by
  intro xs
  induction xs with
  | nil => intro e _ _ _ _ _; trivial
  | cons x r ih =>
    intro e h hx hp h6 hc
    have hl : (x :: r).length = r.length + 1 := rfl
    rw [hl] at h
    have en := nT_add (e := e) (l := l) x (by omega)
    obtain ⟨-, b2, b3⟩ := sAddT_at (d := e) x l
    have eh : nH (sAddT e x l) = nH e := nH_same (b3 1 (by omega) (by omega))
    obtain ⟨p1, p2⟩ := List.pairwise_cons.mp hp
    refine ⟨⟨hx x (List.mem_cons_self ..), by omega, sTPF_no _ _ (fun i _ hi => hc i (by omega) x (List.mem_cons_self ..))⟩, ih (sAddT e x l) (by rw [en]; omega) (fun y hy => by rw [eh]; exact hx y (List.mem_cons_of_mem _ hy)) p2 (by rw [eh]; exact h6) (fun k hk y hy => ?_)⟩
    rw [en] at hk
    by_cases q : k = nT e l
    · rw [q, b2]
      intro z
      have hx1 := hx x (List.mem_cons_self ..)
      have hy1 := hx y (List.mem_cons_of_mem _ hy)
      exact p1 y hy ((nI_eq (by omega) (by omega)).mp z)
    · rw [b3 _ (by omega) (by omega)]
      exact hc k (by omega) y (List.mem_cons_of_mem _ hy)
theorem QD_eTn {P : Nat → Int32} {ops : List Int32} : ∀ (xs : List Nat) (e : XD) (c : Nat → Nat → Int32), QD P ops e c → l < nL e → TV e l xs → ∃ c', QD P ops (eTn e l xs) c' := by
  intro xs
  induction xs with
  | nil => intro e c h _ _; exact ⟨c, h⟩
  | cons x r ih =>
    intro e c h hl hT
    obtain ⟨⟨t1, t2, t3⟩, t4⟩ := hT
    obtain ⟨-, b2, b3⟩ := sAddT_at (d := e) x l
    exact ih (sAddT e x l) _ (h.addT t1 hl t2 t3) (by rw [nL_same (b3 2 (by omega) (by omega))]; exact hl) t4
theorem eLn_at (e : XD) (x y z : Int32) : eLn e x y z 2 = nI (nL e + 1) ∧ eLn e x y z (48 + 7 * nL e) = x ∧ eLn e x y z (49 + 7 * nL e) = y ∧ eLn e x y z (50 + 7 * nL e) = z ∧ ∀ j, j ≠ 2 → j ≠ 48 + 7 * nL e → j ≠ 49 + 7 * nL e → j ≠ 50 + 7 * nL e → eLn e x y z j = e j := by
  unfold eLn
  refine ⟨upd_s _ _ _, ?_, ?_, ?_, fun j h1 h2 h3 h4 => ?_⟩
  · rw [upd_n (by omega), upd_n (by omega), upd_n (by omega), upd_s]
  · rw [upd_n (by omega), upd_n (by omega), upd_s]
  · rw [upd_n (by omega), upd_s]
  · rw [upd_n h1, upd_n h4, upd_n h3, upd_n h2]
end TN
/-- tenants, as the law draws them -/
def tn (f H : Nat) : Nat → Nat → List Nat
  | _, 0 => []
  | k, z + 1 => (f + k) % H :: tn f H (k + 1) z
theorem tn_at (f H : Nat) : ∀ (z k : Nat), (tn f H k z).length = z ∧ (∀ i, i < z → gd (tn f H k z) i = (f + (k + i)) % H) ∧ ∀ x, x ∈ tn f H k z → ∃ i, i < z ∧ x = (f + (k + i)) % H := by
  intro z
  induction z with
  | zero => intro k; exact ⟨rfl, fun i hi => absurd hi (Nat.not_lt_zero i), fun x hx => by cases hx⟩
  | succ z ih =>
    intro k
    obtain ⟨a1, a2, a3⟩ := ih (k + 1)
    refine ⟨?_, fun i hi => ?_, fun x hx => ?_⟩
    · show (tn f H (k + 1) z).length + 1 = z + 1
      rw [a1]
    · cases i with
      | zero => rfl
      | succ i =>
        show gd (tn f H (k + 1) z) i = _
        rw [a2 i (by omega), show k + 1 + i = k + (i + 1) by omega]
    · rcases List.mem_cons.mp hx with h | h
      · exact ⟨0, by omega, h⟩
      · obtain ⟨i, i1, i2⟩ := a3 x h
        exact ⟨i + 1, by omega, by rw [i2, show k + 1 + i = k + (i + 1) by omega]⟩
theorem mod_ne {f H i j : Nat} (hij : i < j) (hj : j < i + H) : (f + j) % H ≠ (f + i) % H := fun h => by
  have := Nat.sub_mod_eq_zero_of_mod_eq h
  rw [show f + j - (f + i) = j - i by omega, Nat.mod_eq_of_lt (by omega)] at this
  omega
theorem tn_pw (f H : Nat) : ∀ (z k : Nat), z ≤ H → (tn f H k z).Pairwise (· ≠ ·) := by
  intro z
  induction z with
  | zero => intro k _; exact List.Pairwise.nil
  | succ z ih =>
    intro k hz
    refine List.pairwise_cons.mpr ⟨fun x hx => ?_, ih (k + 1) (by omega)⟩
    obtain ⟨i, i1, i2⟩ := (tn_at f H z (k + 1)).2.2 x hx
    rw [i2]
    exact (mod_ne (by omega) (by omega)).symm
