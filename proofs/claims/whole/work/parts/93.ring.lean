/-! WHAT IS KEPT FOR UNDO: the class's ring, the model's history -/
def nhd (k : Nat) (hd : Nat → XD) (d : XD) : Nat → XD := fun i => if k = 8 then (if i < 7 then hd (i + 1) else d) else if i = k then d else hd i
/-- what keepPresent does to the memory -/
def kept1 (B p k : Nat) (N N1 : XN) : Prop := N1.2 = N.2 ∧ (∀ a, a ≠ B → (a < B + (188 + 90 * p) ∨ B + (188 + 90 * p) + 90 ≤ a) → N1.1 a = N.1 a) ∧ (∀ j, j ≠ 8 → j ≠ 9 → gi N1 B j = gi N B j) ∧ gi N1 B 9 = nI ((p + 1) % 8) ∧ gi N1 B 8 = nI (min (k + 1) 8)
section RI
variable {P : Nat → Int32} {Y : XY} {B m : Nat} {N : XN} {d : XD} {ops : List Int32}
theorem K_keep (hY : YO Y B) (hD : DJ ops d) (hC : CR P ops d (wc N (B + 7))) {k p : Nat} (hk : k ≤ 8) (hp : p < 8) (e8 : gi N B 8 = nI k) (e9 : gi N B 9 = nI p) : ∃ N1 Q, f_X7_keepPresent Y B N = some N1 ∧ kept1 B p k N N1 ∧ CR Q ops d (wc N1 (B + (188 + 90 * p))) := by
  obtain ⟨⟨g0, g3, g4, h5, h6, g7⟩, gr, -, hW, hW2, hWr, hM, -⟩ := hY
  obtain ⟨Q, c1, a1, a2⟩ := C_copyOf (N := N) (hWr p hp) hW (Or.inl (by omega)) hD hC (wc N (B + (188 + 90 * p)))
  rw [sw_wc] at a1
  obtain ⟨u, hu⟩ : ∃ u, B + (188 + 90 * p) = u := ⟨_, rfl⟩
  have hBu : B < u := by omega
  have gg : ∀ j, gi (sw N u c1) B j = gi N B j := fun j => gi_sw_ne j (by omega)
  have hcc : ∀ N1 : XN, (∀ a, a ≠ B → N1.1 a = (sw N u c1).1 a) → CR Q ops d (wc N1 u) := by
    intro N1 h1
    refine a2.cells hD.H6 hD.L8 hD.R60 (fun o j ho => ?_)
    unfold wc
    rw [h1 _ (by omega)]
    exact gi_sw N u c1 j ho
  have mk : ∀ N1 : XN, f_X7_keepPresent Y B N = some N1 → N1.2 = N.2 → (∀ a, a ≠ B → N1.1 a = (sw N u c1).1 a) → (∀ j, j ≠ 8 → j ≠ 9 → gi N1 B j = gi N B j) → gi N1 B 9 = nI ((p + 1) % 8) → gi N1 B 8 = nI (min (k + 1) 8) → ∃ N1 Q, f_X7_keepPresent Y B N = some N1 ∧ kept1 B p k N N1 ∧ CR Q ops d (wc N1 (B + (188 + 90 * p))) := by
    intro N1 h1 h2 h3 h4 h5 h6
    refine ⟨N1, Q, h1, ⟨h2, fun a q q2 => (h3 a q).trans (funext (fun j => gi_sw_ne j (by omega))), h4, h5, h6⟩, ?_⟩
    rw [hu]
    exact hcc N1 h3
  rw [hu] at a1
  have gu : gp Y (B + 187) p = u := (gr p hp).trans hu
  have s0 : ∀ (M : XN) (j : Nat) (v : Int32) (a : Nat), a ≠ B → (si M B j v).1 a = M.1 a := fun M j v a q => si_row q
  by_cases p7 : p = 7
  · have m8 : ((p + 1) % 8) = 0 := by omega
    by_cases k8 : k = 8
    · refine mk (si (sw N u c1) B 9 (nI 0)) ?_ rfl (fun a q => s0 _ _ _ _ q) (fun j q1 q2 => by rw [gi_si_n (Or.inr q2), gg]) (by rw [m8, gi_si]) (by rw [gi_si_n (Or.inr (by omega)), gg, e8]; congr 1; omega)
      unfold f_X7_keepPresent
      simp (disch := omega) only [↓lt_eq, nI_lit, nI_add, ↓reduceIte, pLEt, pLEf, pLTt, pLTf, pEQf, pML, pMG, pMf, pMg, e9, xb_nI, nI_clamp, if_true, g7, gu, h5, a1, bd_some, gg, gi_si_n, e8]
    · refine mk (si (si (sw N u c1) B 9 (nI 0)) B 8 (nI (k + 1))) ?_ rfl (fun a q => by rw [s0 _ _ _ _ q, s0 _ _ _ _ q]) (fun j q1 q2 => by rw [gi_si_n (Or.inr q1), gi_si_n (Or.inr q2), gg]) (by rw [gi_si_n (Or.inr (by omega)), m8, gi_si]) (by rw [gi_si]; congr 1; omega)
      unfold f_X7_keepPresent
      simp (disch := omega) only [↓lt_eq, nI_lit, nI_add, ↓reduceIte, pLEt, pLEf, pLTt, pLTf, pEQf, pML, pMG, pMf, pMg, e9, xb_nI, nI_clamp, if_true, g7, gu, h5, a1, bd_some, gg, gi_si_n, e8]
  · have m8 : ((p + 1) % 8) = p + 1 := by omega
    by_cases k8 : k = 8
    · refine mk (si (sw N u c1) B 9 (nI (p + 1))) ?_ rfl (fun a q => s0 _ _ _ _ q) (fun j q1 q2 => by rw [gi_si_n (Or.inr q2), gg]) (by rw [m8, gi_si]) (by rw [gi_si_n (Or.inr (by omega)), gg, e8]; congr 1; omega)
      unfold f_X7_keepPresent
      simp (disch := omega) only [↓lt_eq, nI_lit, nI_add, ↓reduceIte, pLEt, pLEf, pLTt, pLTf, pEQf, pML, pMG, pMf, pMg, e9, xb_nI, nI_clamp, if_true, g7, gu, h5, a1, bd_some, gg, gi_si_n, e8]
    · refine mk (si (si (sw N u c1) B 9 (nI (p + 1))) B 8 (nI (k + 1))) ?_ rfl (fun a q => by rw [s0 _ _ _ _ q, s0 _ _ _ _ q]) (fun j q1 q2 => by rw [gi_si_n (Or.inr q1), gi_si_n (Or.inr q2), gg]) (by rw [gi_si_n (Or.inr (by omega)), m8, gi_si]) (by rw [gi_si]; congr 1; omega)
      unfold f_X7_keepPresent
      simp (disch := omega) only [↓lt_eq, nI_lit, nI_add, ↓reduceIte, pLEt, pLEf, pLTt, pLTf, pEQf, pML, pMG, pMf, pMg, e9, xb_nI, nI_clamp, if_true, g7, gu, h5, a1, bd_some, gg, gi_si_n, e8]
/-- the ring behind keepPresent -/
theorem ring_next {k p : Nat} {hd : Nat → XD} {N1 : XN} {Q : Nat → Int32} (h : ring B N k p hd) (h1 : kept1 B p k N N1) (hD : DJ ops d) (hT : tM d ≤ 9999) (hC : CR Q ops d (wc N1 (B + (188 + 90 * p)))) : ring B N1 (min (k + 1) 8) ((p + 1) % 8) (nhd k hd d) := by
  obtain ⟨a1, a2, a3, a4, a5⟩ := h
  obtain ⟨-, b2, b3, b4, b5⟩ := h1
  refine ⟨by omega, by omega, b5, b4, fun i hi => ?_⟩
  have old : ∀ j, j < k → (p + 8 - k + j) % 8 ≠ p → slot B ((p + 1) % 8) (min (k + 1) 8) i = slot B p k j → ∃ ops, DJ ops (hd j) ∧ tM (hd j) ≤ 9999 ∧ ∃ P, CR P ops (hd j) (wc N1 (slot B ((p + 1) % 8) (min (k + 1) 8) i)) := by
    intro j hj hne hs
    obtain ⟨ops', c1, c2, P', c3⟩ := a5 j hj
    refine ⟨ops', c1, c2, P', ?_⟩
    rw [hs]
    refine c3.cells c1.H6 c1.L8 c1.R60 (fun o x ho => ?_)
    unfold wc slot
    rw [b2 _ (by omega) (by omega)]
  by_cases k8 : k = 8
  · by_cases i7 : i < 7
    · have e : nhd k hd d i = hd (i + 1) := by unfold nhd; rw [if_pos k8, if_pos i7]
      rw [e]
      exact old (i + 1) (by omega) (by omega) (by unfold slot; omega)
    · have e : nhd k hd d i = d := by unfold nhd; rw [if_pos k8, if_neg i7]
      rw [e]
      have es : slot B ((p + 1) % 8) (min (k + 1) 8) i = B + (188 + 90 * p) := by unfold slot; omega
      rw [es]
      exact ⟨ops, hD, hT, Q, hC⟩
  · by_cases ik : i = k
    · have e : nhd k hd d i = d := by unfold nhd; rw [if_neg k8, if_pos ik]
      rw [e]
      have es : slot B ((p + 1) % 8) (min (k + 1) 8) i = B + (188 + 90 * p) := by unfold slot; omega
      rw [es]
      exact ⟨ops, hD, hT, Q, hC⟩
    · have e : nhd k hd d i = hd i := by unfold nhd; rw [if_neg k8, if_neg ik]
      rw [e]
      exact old i (by omega) (by omega) (by unfold slot; omega)
theorem cpR_Z {f g : XD} (hf : ZZ f) (hg : ZZ g) : cpR 1784 f g = f := by
  funext j
  unfold cpR
  by_cases q : j < 1784
  · rw [if_pos q]
  · rw [if_neg q, hg j (by omega), hf j (by omega)]
/-- what remember does to the memory -/
def kept2 (B k : Nat) (d : XD) (N N2 : XN) : Prop := N2.2 = N.2 ∧ (∀ i, i < 8 → hrow B N2 i = nhd k (hrow B N) d i) ∧ gi N2 (B + 908) 13 = nI (min (k + 1) 8) ∧ ∀ a j, ¬ (a = B + 908 ∧ j = 13) → (a < B + 915 ∨ B + 923 ≤ a) → N2.1 a j = N.1 a j
theorem M_hcopy (hM : MY Y (B + 908)) {a b : Nat} (hab : a ≠ b) (ha : a = B + 910 ∨ a = B + 911 ∨ (B + 915 ≤ a ∧ a < B + 923)) (hb : b = B + 910 ∨ (B + 915 ≤ b ∧ b < B + 923)) (hz : ZZ (N.1 a)) (hz2 : ZZ (N.1 b)) : f_X8_copy Y a b (nI 1784) N = some (sd N b (N.1 a)) := by
  have k1 : ∀ x, x = B + 910 ∨ x = B + 911 ∨ (B + 915 ≤ x ∧ x < B + 923) → kn Y x = 1784 := by
    intro x hx
    rcases hx with rfl | rfl | hx
    · exact hM.2.2.1.1
    · exact hM.2.2.1.2.1
    · have := hM.2.2.2 (x - (B + 915)) (by omega)
      rw [show B + 908 + 7 + (x - (B + 915)) = x by omega] at this
      exact this
  have ka := k1 a ha
  have kb := k1 b (by omega)
  rw [M_copy hab (by omega) (by omega) (by omega) (by omega) (by omega), cpR_Z hz hz2]
theorem hrow_sd {i j : Nat} {f : XD} : hrow B (sd N (B + (915 + i)) f) j = if j = i then f else hrow B N j := by
  unfold hrow
  by_cases q : j = i
  · rw [q, sd_at, if_pos rfl]
  · rw [sd_ne (by omega), if_neg q]
theorem M_rem_L (hM : MY Y (B + 908)) (hd : N.1 (B + 910) = d) (hz : ZZ d) : ∀ (z i D9 : Nat) (N : XN), N.1 (B + 910) = d → i + z = 8 → 1 ≤ i → z < D9 → gi N (B + 908) 13 = nI 8 → (∀ j, j < 8 → ZZ (hrow B N j)) → ∃ N2, f_X8_remember_11 Y D9 (B + 908) (nI i) N = some N2 ∧ N2.2 = N.2 ∧ (∀ j, j < 8 → hrow B N2 j = if j = 7 then d else if i ≤ j + 1 then hrow B N (j + 1) else hrow B N j) ∧ gi N2 (B + 908) 13 = nI 8 ∧ ∀ a j, ¬ (a = B + 908 ∧ j = 13) → (a < B + 915 ∨ B + 923 ≤ a) → N2.1 a j = N.1 a j := by
  have g12 : gp Y (B + 908) 12 = B + 914 := hM.g12
  have g8 : gp Y (B + 908) 8 = B + 910 := hM.g8
  have gh : ∀ i, i < 8 → gp Y (B + 914) i = B + (915 + i) := fun i hi => by
    have := hM.2.1 i hi
    rw [show B + 908 + 6 = B + 914 by omega, show B + 908 + 7 + i = B + (915 + i) by omega] at this
    exact this
  intro z
  induction z with
  | zero =>
    intro i D9 N hd hi h1 hD9 h13 hZ
    obtain ⟨D8, rfl⟩ : ∃ z, D9 = z + 1 := ⟨D9 - 1, by omega⟩
    have m7 : nI 8 - nI 1 = nI 7 := pk_sub (by omega)
    have hd' : (si N (B + 908) 13 (nI 7)).1 (B + 910) = d := (si_row (by omega)).trans hd
    have hr' : (si N (B + 908) 13 (nI 7)).1 (B + (915 + 7)) = hrow B N 7 := si_row (by omega)
    have hc := M_hcopy (N := si N (B + 908) 13 (nI 7)) hM (a := B + 910) (b := B + (915 + 7)) (by omega) (Or.inl rfl) (Or.inr (by omega)) (by rw [hd']; exact hz) (by rw [hr']; exact hZ 7 (by omega))
    rw [hd'] at hc
    refine ⟨si (sd (si N (B + 908) 13 (nI 7)) (B + (915 + 7)) d) (B + 908) 13 (nI 8), ?_, rfl, fun j hj => ?_, gi_si _ _ _ _, fun a j q1 q2 => ?_⟩
    · rw [f_X8_remember_11]
      have e13 : gi (sd (si N (B + 908) 13 (nI 7)) (B + (915 + 7)) d) (B + 908) 13 = nI 7 := by rw [gi_sd_ne (by omega), gi_si]
      simp (disch := omega) only [↓lt_eq, nI_lit, nI_add, ↓reduceIte, pLEt, pLEf, pLTt, pLTf, pEQf, pML, pMG, pMf, pMg, h13, m7, gi_si, xb_nI, nI_clamp, if_true, g12, g8, gh, hc, bd_some, e13]
    · have e1 : hrow B (si (sd (si N (B + 908) 13 (nI 7)) (B + (915 + 7)) d) (B + 908) 13 (nI 8)) j = hrow B (sd (si N (B + 908) 13 (nI 7)) (B + (915 + 7)) d) j := si_row (by omega)
      have e2 : hrow B (si N (B + 908) 13 (nI 7)) j = hrow B N j := si_row (by omega)
      rw [e1, hrow_sd, e2]
      by_cases q : j = 7
      · rw [if_pos q, if_pos q]
      · rw [if_neg q, if_neg q, if_neg (by omega)]
    · rw [si_cell q1, sd_ne (by omega), si_cell q1]
  | succ z ih =>
    intro i D9 N hd hi h1 hD9 h13 hZ
    obtain ⟨D8, rfl⟩ : ∃ z, D9 = z + 1 := ⟨D9 - 1, by omega⟩
    have hc := M_hcopy (N := N) hM (a := B + (915 + i)) (b := B + (915 + (i - 1))) (by omega) (Or.inr (Or.inr (by omega))) (Or.inr (by omega)) (hZ i (by omega)) (hZ (i - 1) (by omega))
    have hZ' : ∀ j, j < 8 → ZZ (hrow B (sd N (B + (915 + (i - 1))) (N.1 (B + (915 + i)))) j) := by
      intro j hj
      rw [hrow_sd]
      split
      · exact hZ i (by omega)
      · exact hZ j hj
    obtain ⟨N2, f1, f2, f3, f4, f5⟩ := ih (i + 1) D8 (sd N (B + (915 + (i - 1))) (N.1 (B + (915 + i)))) (by rw [sd_ne (by omega)]; exact hd) (by omega) (by omega) (by omega) (by rw [gi_sd_ne (by omega)]; exact h13) hZ'
    refine ⟨N2, ?_, f2, fun j hj => ?_, f4, fun a j q1 q2 => ?_⟩
    · rw [f_X8_remember_11]
      simp (disch := omega) only [↓lt_eq, nI_lit, nI_add, ↓reduceIte, pLEt, pLEf, pLTt, pLTf, pEQf, pML, pMG, pMf, pMg, pk_sub, xb_nI, nI_clamp, if_true, g12, gh, hc, bd_some]
      exact f1
    · rw [f3 j hj, hrow_sd, hrow_sd]
      by_cases q : j = 7
      · rw [if_pos q, if_pos q]
      · rw [if_neg q, if_neg q]
        by_cases q2 : i + 1 ≤ j + 1
        · rw [if_pos q2, if_neg (by omega), if_pos (by omega)]
        · rw [if_neg q2]
          by_cases q3 : j = i - 1
          · rw [if_pos q3, if_pos (by omega), show j + 1 = i by omega]
            rfl
          · rw [if_neg q3, if_neg (by omega)]
    · rw [f5 a j q1 q2, sd_ne (by omega)]
theorem M_remember (hM : MY Y (B + 908)) (hd : N.1 (B + 910) = d) (hz : ZZ d) {k : Nat} (hk : k ≤ 8) (h13 : gi N (B + 908) 13 = nI k) (hZ : ∀ j, j < 8 → ZZ (hrow B N j)) : ∃ N2, f_X8_remember Y (B + 908) N = some N2 ∧ kept2 B k d N N2 := by
  have g12 : gp Y (B + 908) 12 = B + 914 := hM.g12
  have g8 : gp Y (B + 908) 8 = B + 910 := hM.g8
  have gh : ∀ i, i < 8 → gp Y (B + 914) i = B + (915 + i) := fun i hi => by
    have := hM.2.1 i hi
    rw [show B + 908 + 6 = B + 914 by omega, show B + 908 + 7 + i = B + (915 + i) by omega] at this
    exact this
  by_cases k8 : k = 8
  · subst k8
    obtain ⟨N2, f1, f2, f3, f4, f5⟩ := M_rem_L hM hd hz 7 1 FU N hd (by omega) (by omega) (by unfold FU; omega) h13 hZ
    refine ⟨N2, ?_, f2, fun i hi => ?_, f4, f5⟩
    · unfold f_X8_remember
      have e : (gi N (B + 908) 13 = nI 8) = True := eq_true h13
      simp only [nI_lit, e, if_true]
      exact f1
    · rw [f3 i hi]
      unfold nhd
      rw [if_pos rfl]
      by_cases q : i = 7
      · rw [if_pos q, if_neg (by omega)]
      · rw [if_neg q, if_pos (by omega), if_pos (by omega)]
  · have hc := M_hcopy (N := N) hM (a := B + 910) (b := B + (915 + k)) (by omega) (Or.inl rfl) (Or.inr (by omega)) (by rw [hd]; exact hz) (hZ k (by omega))
    rw [hd] at hc
    refine ⟨si (sd N (B + (915 + k)) d) (B + 908) 13 (nI (k + 1)), ?_, rfl, fun i hi => ?_, ?_, fun a j q1 q2 => ?_⟩
    · unfold f_X8_remember
      have e13 : gi (sd N (B + (915 + k)) d) (B + 908) 13 = nI k := by rw [gi_sd_ne (by omega)]; exact h13
      simp (disch := omega) only [↓lt_eq, nI_lit, nI_add, ↓reduceIte, pLEt, pLEf, pLTt, pLTf, pEQf, pML, pMG, pMf, pMg, h13, xb_nI, nI_clamp, if_true, g12, g8, gh, hc, bd_some, e13]
    · have e1 : hrow B (si (sd N (B + (915 + k)) d) (B + 908) 13 (nI (k + 1))) i = hrow B (sd N (B + (915 + k)) d) i := si_row (by omega)
      rw [e1, hrow_sd]
      unfold nhd
      rw [if_neg k8]
    · rw [gi_si]; congr 1; omega
    · rw [si_cell q1, sd_ne (by omega)]
end RI
