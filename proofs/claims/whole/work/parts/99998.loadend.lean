/-! A WHOLE LOAD -/
def hLd (r : XD) (L : Nat) : XD := upd (upd (upd (upd (upd (upd (upd (upd r 0 (nI 0)) 2 (nI 0)) 3 (nI L)) 4 (nI 0)) 5 (nI 0)) 6 (-nI 1)) 15 (nI 0)) 16 (nI 0)
theorem hLd_at (r : XD) (L : Nat) : hLd r L 0 = nI 0 ∧ hLd r L 2 = nI 0 ∧ hLd r L 3 = nI L ∧ hLd r L 4 = nI 0 ∧ hLd r L 5 = nI 0 ∧ hLd r L 6 = -nI 1 ∧ hLd r L 15 = nI 0 ∧ hLd r L 16 = nI 0 ∧ hLd r L 13 = r 13 := by
  unfold hLd
  refine ⟨?_, ?_, ?_, ?_, ?_, ?_, ?_, upd_s _ _ _, ?_⟩
  all_goals simp (disch := omega) only [upd_n, upd_s]
theorem MM_self (N : XN) (m : Nat) : MM N m (N.1 m) (N.1 (m + 3)) = N := by
  unfold MM
  rw [sd_self, sd_self]
theorem MM_row {N : XN} {m a : Nat} {h e : XD} (h1 : a ≠ m) (h2 : a ≠ m + 3) : (MM N m h e).1 a = N.1 a := by
  unfold MM
  rw [sd_ne h1, sd_ne h2]
section LH
variable {Y : XY} {N : XN} {m L n : Nat} {h e : XD}
theorem M_load_head0 (hM : MY Y m) (h2 : h 2 = nI n) (hn : n ≤ 700) (hLn : L ≤ n) : f_X8_load Y m (nI L) (MM N m h e) = (bd2 (f_X8_takeWord Y m 0 (MM N m (hLd h L) (eUsual e))) fun r N21 => if r = nI 0 then bd (f_X8_report Y m (-nI 2) (gi N21 m 4) N21) fun N24 => bd (f_X8_expect Y m (nI 59) N24) fun N26 => f_X8_load_99 Y FU m N26 else bd (f_X8_expect Y m (nI 59) N21) fun N28 => f_X8_load_99 Y FU m N28) := by
  have k9 : kn Y (m + 3) = 1784 := hM.2.2.1.2.1
  have g9 : gp Y m 9 = m + 3 := hM.1.2.2.1
  have e2 : upd h 0 (nI 0) 2 = nI n := by rw [upd_n (by omega)]; exact h2
  have ei : ∀ N9 : XN, f_X8_in Y (nI L) (nI 0) (nI n) N9 = nI 1 := fun N9 => in_inS (Y := Y) (N := N9) (by omega) hLn
  have ef : f_X8_fails Y m (nI 0) (nI 1) (MM N m (upd h 0 (nI 0)) e) = some (nI 0, MM N m (upd h 0 (nI 0)) e) := by
    unfold f_X8_fails
    simp only [nI_lit, gi_MM, upd_s, ↓reduceIte]
  have el : ∀ h9 : XD, f_X8_layUsual Y (m + 3) (MM N m h9 e) = some (MM N m h9 (eUsual e)) := by
    intro h9
    unfold MM
    rw [sd_comm (by omega), M_layUsual k9, sd_comm (by omega)]
  unfold f_X8_load
  simp only [nI_lit]
  rw [lt_eq, si_MM]
  simp only [gi_MM, e2, ei, nz10, ↓reduceIte]
  rw [ef, bd2_some]
  simp only [↓reduceIte, lt_eq, si_MM, g9]
  rw [el, bd_some]
  rfl
theorem M_load_head (hM : MY Y m) (h2 : gi N m 2 = nI n) (hn : n ≤ 700) (hLn : L ≤ n) : f_X8_load Y m (nI L) N = (bd2 (f_X8_takeWord Y m 0 (MM N m (hLd (N.1 m) L) (eUsual (N.1 (m + 3))))) fun r N21 => if r = nI 0 then bd (f_X8_report Y m (-nI 2) (gi N21 m 4) N21) fun N24 => bd (f_X8_expect Y m (nI 59) N24) fun N26 => f_X8_load_99 Y FU m N26 else bd (f_X8_expect Y m (nI 59) N21) fun N28 => f_X8_load_99 Y FU m N28) := by
  have := M_load_head0 (N := N) (h := N.1 m) (e := N.1 (m + 3)) hM h2 hn hLn
  rw [MM_self] at this
  exact this
end LH
section LC
variable {Y : XY} {N Ns : XN} {B T L n k p : Nat} {t : Nat → Nat} {P P2 : Nat → Int32} {d e : XD} {ops ops2 : List Int32} {c : Nat → Nat → Int32} {g : XD}
/-- the class's reader has met a fault -/
theorem C_loadB_bad (hY : YO Y B) : f_X7_loadB Y B (nI 0) (KS Ns B c g) = some (.inl (g 0), si (KS Ns B c g) B 2 (g 1)) := by
  obtain ⟨⟨g0, g3, g4, h5, h6, g7⟩, -⟩ := hY
  have e0 : gi (si (KS Ns B c g) B 2 (g 1)) (B + 6) 0 = g 0 := by rw [gi_si_n (Or.inl (by omega)), gi_KS]
  unfold f_X7_loadB
  simp only [nI_lit, ↓reduceIte, g4, gi_KS, lt_eq, e0]
/-- the class's reader has read the text -/
theorem C_loadB_good (hY : YO Y B) (hD : DJ ops d) (hC : CR P ops d (wc (si (KS Ns B c g) B 2 (-nI 1)) (B + 7))) (hk : k ≤ 8) (hp : p < 8) (e8 : gi Ns B 8 = nI k) (e9 : gi Ns B 9 = nI p) (hQ : QD P2 ops2 e c) : ∃ Nk c2 Q Q2, f_X7_loadB Y B (nI 1) (KS Ns B c g) = some (.inl (e 3), sw Nk (B + 7) c2) ∧ kept1 B p k (si (KS Ns B c g) B 2 (-nI 1)) Nk ∧ CR Q ops d (wc Nk (B + (188 + 90 * p))) ∧ CR Q2 ops2 e c2 := by
  have hY' := hY
  obtain ⟨⟨g0, g3, g4, h5, h6, g7⟩, gr, -, hW, hW2, hWr, hM, -⟩ := hY'
  have e8' : gi (si (KS Ns B c g) B 2 (-nI 1)) B 8 = nI k := by rw [gi_si_n (Or.inr (by omega)), gi_KSt (by omega)]; exact e8
  have e9' : gi (si (KS Ns B c g) B 2 (-nI 1)) B 9 = nI p := by rw [gi_si_n (Or.inr (by omega)), gi_KSt (by omega)]; exact e9
  obtain ⟨Nk, Q, b1, b2, b3⟩ := K_keep hY hD hC hk hp e8' e9'
  have hCt : CR P2 ops2 e (wc Nk (B + 97)) := hQ.2.1.cells hQ.1.H6 hQ.1.L8 hQ.1.R60 (fun o j ho => by
    unfold wc
    rw [b2.2.1 _ (by omega) (by omega), si_row (by omega)]
    show gi (KS Ns B c g) (B + 97 + o) j = _
    exact gi_KSw j ho)
  obtain ⟨Q2, c2, a1, a2⟩ := C_copyOf (N := Nk) hW hW2 (Or.inr (by omega)) hQ.1 hCt (wc Nk (B + 7))
  rw [sw_wc] at a1
  have r5 : gi (sw Nk (B + 7) c2) (B + 7) 5 = e 3 := by rw [gi_sw0]; exact a2.1.w5
  refine ⟨Nk, c2, Q, Q2, ?_, b2, b3, a2⟩
  unfold f_X7_loadB
  simp only [nI_lit, nz10, ↓reduceIte, lt_eq, b1, bd_some, h5, h6, a1, r5]
end LC
