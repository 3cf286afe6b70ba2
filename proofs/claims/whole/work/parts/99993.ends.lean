/-! THE MODEL'S ENDS OF A LOAD -/
section EE
variable {Y : XY} {N N2 : XN} {B T L m : Nat} {t : Nat → Nat} {h0 : XD} {g h e : XD}
theorem M_end_bad (h5 : h 5 ≠ nI 0) {D : Nat} : f_X8_load_99 Y (D + 1) m (MM N2 m h e) = some (h 5, MM N2 m (upd h 7 (h 6)) e) := by
  have gd := M_isGood (Y := Y) (N := N2) (m := m) (h := h) (e := e)
  rw [if_neg h5] at gd
  have gd2 := M_isGood (Y := Y) (N := N2) (m := m) (h := upd h 7 (h 6)) (e := e)
  rw [upd_n (by omega), if_neg h5] at gd2
  have e5 : upd h 7 (h 6) 5 = h 5 := upd_n (by omega)
  rw [f_X8_load_99]
  simp only [nI_lit, gd, nI01, ↓reduceIte, gi_MM, si_MM]
  simp only [lt_eq, gd2, nI01, ↓reduceIte, gi_MM, e5]
theorem M_end_good (E : EN Y N N2 B T L m t) (g8 : gp Y m 8 = m + 2) (hg : RG T L t h0 T g h) {D : Nat} : ∃ h', HF h0 (upd h' 7 (h0 7)) ∧ h' 7 = -nI 1 ∧ f_X8_load_99 Y (D + 1) m (MM N2 m h e) = bd (f_X8_remember Y m (MM N2 m h' e)) fun N21 => bd (f_X8_copy Y (m + 3) (m + 2) (nI 1784) N21) fun N29 => some (gi N29 (m + 2) 3, N29) := by
  obtain ⟨hR, hT, hL, ⟨g1, g9, k9⟩, hM⟩ := id E
  obtain ⟨h1, nx, b1, b2, b3, b4⟩ := S_next (e := e) hL g1 hM hT hg
  have nbn : nb t L (tS t L T) = -nI 1 := by
    unfold nb
    rw [hT.2.1, if_neg (by omega)]
  rw [nbn] at nx
  have e6 : h1 6 = -nI 1 := b1.2.2.2.1
  have gd2 := M_isGood (Y := Y) (N := N2) (m := m) (h := upd h1 7 (-nI 1)) (e := e)
  rw [upd_n (by omega), if_pos b1.2.2.1] at gd2
  refine ⟨upd h1 7 (-nI 1), fun j a1 a2 a3 a4 a5 a6 => ?_, upd_s _ _ _, ?_⟩
  · by_cases q : j = 7
    · rw [q, upd_s]
    · rw [upd_n q, upd_n q]
      exact b1.2.2.2.2.2.2 j a1 a2 a3 a4 a5 a6
  · rw [f_X8_load_99]
    simp only [nI_lit, hg.good, nz10, ↓reduceIte]
    rw [nx, bd2_some]
    simp only [↓reduceIte, eq_self, gi_MM, e6, si_MM]
    simp only [lt_eq, gd2, nz10, ↓reduceIte, g8, g9]
end EE
