/-! THE START: the numbers -/
section NU
variable {N : XN} {w b B m : Nat}
theorem n0_at {q : Nat} : (n0 N q).1 q = fun _ => 0 := by
  funext j
  exact if_pos rfl
theorem n0_ne {q : Nat} (h : b ≠ q) : (n0 N q).1 b = N.1 b := by
  funext j
  exact if_neg h
theorem nM_in {q M : Nat} (h1 : q ≤ b) (h2 : b ≤ q + M) : (nM N q M).1 b = fun _ => 0 := by
  funext j
  exact if_pos ⟨h1, h2⟩
theorem nM_out {q M : Nat} (h : ¬ (q ≤ b ∧ b ≤ q + M)) : (nM N q M).1 b = N.1 b := by
  funext j
  exact if_neg h
theorem mWb_row {g : Nat} (h1 : b ≠ w) (h2 : b ≠ g) : (mWb N w g).1 b = N.1 b := by
  unfold mWb
  rw [si_row h2, si_row h1, si_row h1, si_row h1, si_row h1, si_row h1, si_row h1, si_row h1, si_row h1, si_row h1, si_row h1]
theorem mW3_row : ∀ i, b < w + 30 ∨ w + 30 + i ≤ b → (mW3 N w i).1 b = N.1 b
  | 0, _ => rfl
  | i + 1, h => by
    unfold mW3
    rw [n0_ne (by omega)]
    exact mW3_row i (by omega)
theorem mW2_row : ∀ i, b < w + 14 ∨ w + 14 + 2 * i ≤ b → (mW2 N w i).1 b = N.1 b
  | 0, _ => rfl
  | i + 1, h => by
    unfold mW2 mI_X2
    rw [n0_ne (by omega), n0_ne (by omega)]
    exact mW2_row i (by omega)
theorem mW1_row : ∀ i, b < w + 8 ∨ w + 8 + i ≤ b → (mW1 N w i).1 b = N.1 b
  | 0, _ => rfl
  | i + 1, h => by
    unfold mW1
    rw [n0_ne (by omega)]
    exact mW1_row i (by omega)
theorem mW_row (h : b < w ∨ w + 90 ≤ b) : (mW N w).1 b = N.1 b := by
  unfold mW
  rw [mWb_row (by omega) (by omega), mW3_row 60 (by omega), mW2_row 8 (by omega), mW1_row 6 (by omega)]
  unfold mW0 mI_X0
  rw [n0_ne (by omega), n0_ne (by omega), n0_ne (by omega), n0_ne (by omega), n0_ne (by omega), n0_ne (by omega), n0_ne (by omega)]
theorem mWb_sw {c : Nat → Nat → Int32} : mWb (sw N w c) w (w + 4) = sw N w (cUsual c) := by
  unfold mWb
  simp (disch := omega) only [si_sw, si_sw0, nI_lit]
  rfl
theorem mW_wc : ∃ c, ∀ o k, o < 90 → wc (mW N w) w o k = cUsual c o k := by
  refine ⟨wc (mW3 (mW2 (mW1 (mW0 N w) w 6) w 8) w 60) w, fun o k ho => ?_⟩
  unfold mW
  generalize mW3 (mW2 (mW1 (mW0 N w) w 6) w 8) w 60 = M
  have e : mWb M w (w + 4) = sw M w (cUsual (wc M w)) := by
    have := mWb_sw (N := M) (w := w) (c := wc M w)
    rw [sw_wc] at this
    exact this
  rw [e]
  exact gi_sw M w _ k ho
theorem mP_row : ∀ i, b < B + 188 ∨ B + 188 + 90 * i ≤ b → (mP N B i).1 b = N.1 b
  | 0, _ => rfl
  | i + 1, h => by
    unfold mP
    rw [mW_row (by omega), n0_ne (by omega)]
    exact mP_row i (by omega)
theorem mL_row (h : b ≠ B) (h2 : b < B + 188) : (mL N B).1 b = (mL0 N B).1 b := by
  unfold mL
  rw [si_row h, si_row h, mP_row 8 (by omega)]
theorem mL0_wc : ∃ c, ∀ o k, o < 90 → wc (mL0 N B) (B + 7) o k = cUsual c o k := by
  unfold mL0 mI_X4 mI_X5
  generalize n0 (n0 (n0 (n0 (n0 (si (si (n0 N (B + 1)) B 1 0) B 2 (-1)) (B + 2)) (B + 2 + 1)) (B + 2 + 2)) (B + 2 + 3)) (B + 6) = M
  obtain ⟨c, hc⟩ := mW_wc (N := n0 M (B + 7)) (w := B + 7)
  refine ⟨c, fun o k ho => ?_⟩
  rw [← hc o k ho]
  unfold wc
  rw [n0_ne (by omega), mW_row (by omega), n0_ne (by omega)]
theorem mL_B : gi (mL N B) B 1 = nI 0 ∧ gi (mL N B) B 2 = -nI 1 ∧ gi (mL N B) B 8 = nI 0 ∧ gi (mL N B) B 9 = nI 0 := by
  have r : ∀ j, gi (mP (mL0 N B) B 8) B j = gi (si (si (n0 N (B + 1)) B 1 0) B 2 (-1)) B j := fun j => by
    unfold gi
    rw [mP_row 8 (by omega)]
    unfold mL0 mI_X4 mI_X5
    rw [n0_ne (by omega), mW_row (by omega), n0_ne (by omega), mW_row (by omega), n0_ne (by omega), n0_ne (by omega), n0_ne (by omega), n0_ne (by omega), n0_ne (by omega), n0_ne (by omega)]
  unfold mL
  refine ⟨?_, ?_, ?_, ?_⟩
  · rw [gi_si_n (Or.inr (by omega)), gi_si_n (Or.inr (by omega)), r, gi_si_n (Or.inr (by omega)), gi_si]; rfl
  · rw [gi_si_n (Or.inr (by omega)), gi_si_n (Or.inr (by omega)), r, gi_si]; rfl
  · rw [gi_si_n (Or.inr (by omega)), gi_si]; rfl
  · rw [gi_si]; rfl
theorem mX8_low (h : b < m) : (mX8 N m).1 b = N.1 b := by
  unfold mX8 mX80
  rw [sd_ne (by omega), n0_ne (by omega), n0_ne (by omega), nM_out (by omega), n0_ne (by omega), n0_ne (by omega), n0_ne (by omega), n0_ne (by omega), si_row (by omega), n0_ne (by omega)]
theorem mX8_m (j : Nat) : gi (mX8 N m) m j = gi (si N m 7 (-1)) m j := by
  have e : (mX8 N m).1 m = (si (n0 N (m + 1)) m 7 (-1)).1 m := by
    unfold mX8 mX80
    rw [sd_ne (by omega), n0_ne (by omega), n0_ne (by omega), nM_out (by omega), n0_ne (by omega), n0_ne (by omega), n0_ne (by omega), n0_ne (by omega)]
  unfold gi
  rw [e]
  show (if m = m ∧ j = 7 then (-1 : Int32) else (n0 N (m + 1)).1 m j) = (if m = m ∧ j = 7 then (-1 : Int32) else N.1 m j)
  rw [n0_ne (by omega)]
theorem mX8_d : (mX8 N m).1 (m + 2) = eUsual (fun _ => 0) := by
  have e : (mX80 N m).1 (m + 2) = fun _ => 0 := by
    unfold mX80
    rw [n0_ne (by omega), n0_ne (by omega), nM_out (by omega), n0_ne (by omega), n0_ne (by omega), n0_ne (by omega), n0_at]
  unfold mX8
  rw [sd_at, e]
theorem mX8_h {i : Nat} (hi : i < 8) : (mX8 N m).1 (m + 7 + i) = fun _ => 0 := by
  unfold mX8 mX80
  rw [sd_ne (by omega), n0_ne (by omega), n0_ne (by omega), nM_in (by omega) (by omega)]
/-- the memory as the law's loop begins -/
def mF (N : XN) (B : Nat) : XN := n0 (mX8 (n0 (mL (n0 N B) B) (B + 908)) (B + 908)) (B + 925)
theorem mF_IV : IV B (mF N B) := by
  have low : ∀ b, b < B + 908 → (mF N B).1 b = (mL (n0 N B) B).1 b := fun b hb => by
    unfold mF
    rw [n0_ne (by omega), mX8_low hb, n0_ne (by omega)]
  have mid : ∀ j, gi (mF N B) (B + 908) j = gi (si (n0 (mL (n0 N B) B) (B + 908)) (B + 908) 7 (-1)) (B + 908) j := fun j => by
    rw [← mX8_m]
    unfold mF gi
    rw [n0_ne (by omega)]
  have z8 : ∀ j, gi (n0 (mL (n0 N B) B) (B + 908)) (B + 908) j = nI 0 := fun j => by
    unfold gi
    rw [n0_at]
    rfl
  obtain ⟨b1, b2, b8, b9⟩ := mL_B (N := n0 N B) (B := B)
  have rB : ∀ j, gi (mF N B) B j = gi (mL (n0 N B) B) B j := fun j => by unfold gi; rw [low B (by omega)]
  obtain ⟨c, hc⟩ := mL0_wc (N := n0 N B) (B := B)
  have hd : (mF N B).1 (B + 910) = eUsual (fun _ => 0) := by
    unfold mF
    rw [n0_ne (by omega), show B + 910 = B + 908 + 2 from rfl]
    exact mX8_d (N := n0 (mL (n0 N B) B) (B + 908)) (m := B + 908)
  have hQ := QD_usual (e := fun _ => 0) (c := c)
  obtain ⟨u1, u2⟩ := eUsual_at (e := fun _ => (0 : Int32))
  refine ⟨⟨[], eUsual (fun _ => 0), hQ.1, fun j hj => ?_, ?_, hd, _, hQ.2.1.cells hQ.1.H6 hQ.1.L8 hQ.1.R60 (fun o j ho => ?_)⟩, ⟨0, 0, ⟨by omega, by omega, (rB 8).trans b8, (rB 9).trans b9, fun i hi => absurd hi (Nat.not_lt_zero i)⟩, ?_, fun i hi j hj => ?_⟩, 0, by omega, (rB 1).trans b1, ?_, fun i hi => absurd hi (Nat.not_lt_zero i), ?_⟩
  · unfold eUsual eZero
    rw [upd_n (by omega), upd_n (by omega), upd_n (by omega), upd_n (by omega), upd_n (by omega), if_neg (by omega)]
    rfl
  · unfold tM
    rw [hQ.2.2.1, nI_clamp (by omega)]
    omega
  · rw [← hc o j ho]
    unfold wc
    rw [low _ (by omega), mL_row (by omega) (by omega)]
  · rw [mid, gi_si_n (Or.inr (by omega)), z8]
  · unfold hrow mF
    rw [n0_ne (by omega), show B + (915 + i) = B + 908 + 7 + i by omega, mX8_h hi]
    rfl
  · rw [mid, gi_si_n (Or.inr (by omega)), z8]
  · rw [rB, b2, mid, gi_si]
    rfl
end NU
