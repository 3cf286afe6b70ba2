/-! THE START: the numbers of a new object -/
section NU9
variable {N : XN} {w b B m : Nat}
theorem n0_rat {q : Nat} : (n0 N q).1 q = fun _ => 0 := by
  funext j
  exact if_pos rfl
theorem n0_row {q : Nat} (h : b ≠ q) : (n0 N q).1 b = N.1 b := by
  funext j
  exact if_neg h
theorem mWb_row {g : Nat} (h1 : b ≠ w) (h2 : b ≠ g) : (mWb N w g).1 b = N.1 b := by
  unfold mWb
  rw [si_row h2, si_row h1, si_row h1, si_row h1, si_row h1, si_row h1, si_row h1, si_row h1, si_row h1, si_row h1, si_row h1]
theorem mW3_row : ∀ i, b < w + 30 ∨ w + 30 + i ≤ b → (mW3 N w i).1 b = N.1 b
  | 0, _ => rfl
  | i + 1, h => by
    unfold mW3
    rw [n0_row (by omega)]
    exact mW3_row i (by omega)
theorem mW2_row : ∀ i, b < w + 14 ∨ w + 14 + 2 * i ≤ b → (mW2 N w i).1 b = N.1 b
  | 0, _ => rfl
  | i + 1, h => by
    unfold mW2 mI_X2
    rw [n0_row (by omega), n0_row (by omega)]
    exact mW2_row i (by omega)
theorem mW1_row : ∀ i, b < w + 8 ∨ w + 8 + i ≤ b → (mW1 N w i).1 b = N.1 b
  | 0, _ => rfl
  | i + 1, h => by
    unfold mW1
    rw [n0_row (by omega)]
    exact mW1_row i (by omega)
theorem mW_row (h : b < w ∨ w + 90 ≤ b) : (mW N w).1 b = N.1 b := by
  unfold mW
  rw [mWb_row (by omega) (by omega), mW3_row 60 (by omega), mW2_row 8 (by omega), mW1_row 6 (by omega)]
  unfold mW0 mI_X0
  rw [n0_row (by omega), n0_row (by omega), n0_row (by omega), n0_row (by omega), n0_row (by omega), n0_row (by omega), n0_row (by omega)]
theorem mWb_sw {c : Nat → Nat → Int32} : mWb (sw N w c) w (w + 4) = sw N w (cUsual c) := by
  unfold mWb
  simp (disch := omega) only [si_sw, si_sw0, nI_lit]
  rfl
theorem mW_wc : ∃ c, ∀ o k, o < 90 → wc (mW N w) w o k = cUsual c o k := by
  refine ⟨wc (mW3 (mW2 (mW1 (mW0 N w) w 6) w 8) w 60) w, fun o k ho => ?_⟩
  unfold mW
  generalize mW3 (mW2 (mW1 (mW0 N w) w 6) w 8) w 60 = M
  have e : mWb M w (w + 4) = sw M w (cUsual (wc M w)) := by
    have := mWb_sw (N := M) (w := w) (c := wc M w)
    rw [sw_wc] at this
    exact this
  rw [e]
  exact gi_sw M w _ k ho
theorem mP_row : ∀ i, b < B + 188 ∨ B + 188 + 90 * i ≤ b → (mP N B i).1 b = N.1 b
  | 0, _ => rfl
  | i + 1, h => by
    unfold mP
    rw [mW_row (by omega), n0_row (by omega)]
    exact mP_row i (by omega)
theorem mL_row (h : b ≠ B) (h2 : b < B + 188) : (mL N B).1 b = (mL0 N B).1 b := by
  unfold mL
  rw [si_row h, si_row h, mP_row 8 (by omega)]
theorem mL0_wc : ∃ c, ∀ o k, o < 90 → wc (mL0 N B) (B + 7) o k = cUsual c o k := by
  unfold mL0 mI_X4 mI_X5
  generalize n0 (n0 (n0 (n0 (n0 (si (si (n0 N (B + 1)) B 1 0) B 2 (-1)) (B + 2)) (B + 2 + 1)) (B + 2 + 2)) (B + 2 + 3)) (B + 6) = M
  obtain ⟨c, hc⟩ := mW_wc (N := n0 M (B + 7)) (w := B + 7)
  refine ⟨c, fun o k ho => ?_⟩
  rw [← hc o k ho]
  unfold wc
  rw [n0_row (by omega), mW_row (by omega), n0_row (by omega)]
theorem mL_B : gi (mL N B) B 1 = nI 0 ∧ gi (mL N B) B 2 = -nI 1 ∧ gi (mL N B) B 8 = nI 0 ∧ gi (mL N B) B 9 = nI 0 := by
  have r : ∀ j, gi (mP (mL0 N B) B 8) B j = gi (si (si (n0 N (B + 1)) B 1 0) B 2 (-1)) B j := fun j => by
    unfold gi
    rw [mP_row 8 (by omega)]
    unfold mL0 mI_X4 mI_X5
    rw [n0_row (by omega), mW_row (by omega), n0_row (by omega), mW_row (by omega), n0_row (by omega), n0_row (by omega), n0_row (by omega), n0_row (by omega), n0_row (by omega), n0_row (by omega)]
  unfold mL
  refine ⟨?_, ?_, ?_, ?_⟩
  · rw [gi_si_n (Or.inr (by omega)), gi_si_n (Or.inr (by omega)), r, gi_si_n (Or.inr (by omega)), gi_si]; rfl
  · rw [gi_si_n (Or.inr (by omega)), gi_si_n (Or.inr (by omega)), r, gi_si]; rfl
  · rw [gi_si_n (Or.inr (by omega)), gi_si]; rfl
  · rw [gi_si]; rfl
theorem mL_out (h : b < B ∨ B + 908 ≤ b) : (mL N B).1 b = N.1 b := by
  unfold mL
  rw [si_row (by omega), si_row (by omega), mP_row 8 (by omega)]
  unfold mL0 mI_X4 mI_X5
  rw [n0_row (by omega), mW_row (by omega), n0_row (by omega), mW_row (by omega), n0_row (by omega), n0_row (by omega), n0_row (by omega), n0_row (by omega), n0_row (by omega), n0_row (by omega), si_row (by omega), si_row (by omega), n0_row (by omega)]
theorem mL_IK {hd : Nat → XD} : IK B (mL N B) [] eU 0 0 hd := by
  obtain ⟨b1, b2, b8, b9⟩ := mL_B (N := N) (B := B)
  obtain ⟨c, hc⟩ := mL0_wc (N := N) (B := B)
  have hQ := QD_usual (e := fun _ => nI 0) (c := c)
  have z0 : eU 0 = nI 0 := hQ.2.2.1
  refine ⟨hQ.1, ?_, ⟨_, hQ.2.1.cells hQ.1.H6 hQ.1.L8 hQ.1.R60 (fun o j ho => ?_)⟩, ⟨by omega, by omega, b8, b9, fun i hi => absurd hi (Nat.not_lt_zero i)⟩⟩
  · unfold tM
    rw [z0, nI_clamp (by omega)]
    omega
  · rw [← hc o j ho]
    unfold wc
    rw [mL_row (by omega) (by omega)]
end NU9
