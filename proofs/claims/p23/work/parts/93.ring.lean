/-! PRUNED: of whole -/
def nhd (k : Nat) (hd : Nat → XD) (d : XD) : Nat → XD := fun i => if k = 8 then (if i < 7 then hd (i + 1) else d) else if i = k then d else hd i
/-- what keepPresent does to the memory -/
def kept1 (B p k : Nat) (N N1 : XN) : Prop := N1.2 = N.2 ∧ (∀ a, a ≠ B → (a < B + (188 + 90 * p) ∨ B + (188 + 90 * p) + 90 ≤ a) → N1.1 a = N.1 a) ∧ (∀ j, j ≠ 8 → j ≠ 9 → gi N1 B j = gi N B j) ∧ gi N1 B 9 = nI ((p + 1) % 8) ∧ gi N1 B 8 = nI (min (k + 1) 8)
section RI
variable {P : Nat → Int32} {Y : XY} {B m : Nat} {N : XN} {d : XD} {ops : List Int32}
theorem K_keep (hY : YO Y B) (hD : DJ ops d) (hC : CR P ops d (wc N (B + 7))) {k p : Nat} (hk : k ≤ 8) (hp : p < 8) (e8 : gi N B 8 = nI k) (e9 : gi N B 9 = nI p) : ∃ N1 Q, f_X7_keepPresent Y B N = some N1 ∧ kept1 B p k N N1 ∧ CR Q ops d (wc N1 (B + (188 + 90 * p))) := by
  obtain ⟨⟨g0, g3, g4, h5, h6, g7⟩, gr, -, hW, hW2, hWr, hM, -⟩ := hY
  obtain ⟨Q, c1, a1, a2⟩ := C_copyOf (N := N) (hWr p hp) hW (Or.inl (by omega)) hD hC (wc N (B + (188 + 90 * p)))
  rw [sw_wc] at a1
  obtain ⟨u, hu⟩ : ∃ u, B + (188 + 90 * p) = u := ⟨_, rfl⟩
  have hBu : B < u := by omega
  have gg : ∀ j, gi (sw N u c1) B j = gi N B j := fun j => gi_sw_ne j (by omega)
  have hcc : ∀ N1 : XN, (∀ a, a ≠ B → N1.1 a = (sw N u c1).1 a) → CR Q ops d (wc N1 u) := by
    intro N1 h1
    refine a2.cells hD.H6 hD.L8 hD.R60 (fun o j ho => ?_)
    unfold wc
    rw [h1 _ (by omega)]
    exact gi_sw N u c1 j ho
  have mk : ∀ N1 : XN, f_X7_keepPresent Y B N = some N1 → N1.2 = N.2 → (∀ a, a ≠ B → N1.1 a = (sw N u c1).1 a) → (∀ j, j ≠ 8 → j ≠ 9 → gi N1 B j = gi N B j) → gi N1 B 9 = nI ((p + 1) % 8) → gi N1 B 8 = nI (min (k + 1) 8) → ∃ N1 Q, f_X7_keepPresent Y B N = some N1 ∧ kept1 B p k N N1 ∧ CR Q ops d (wc N1 (B + (188 + 90 * p))) := by
    intro N1 h1 h2 h3 h4 h5 h6
    refine ⟨N1, Q, h1, ⟨h2, fun a q q2 => (h3 a q).trans (funext (fun j => gi_sw_ne j (by omega))), h4, h5, h6⟩, ?_⟩
    rw [hu]
    exact hcc N1 h3
  rw [hu] at a1
  have gu : gp Y (B + 187) p = u := (gr p hp).trans hu
  have s0 : ∀ (M : XN) (j : Nat) (v : Int32) (a : Nat), a ≠ B → (si M B j v).1 a = M.1 a := fun M j v a q => si_row q
  by_cases p7 : p = 7
  · have m8 : ((p + 1) % 8) = 0 := by omega
    by_cases k8 : k = 8
    · refine mk (si (sw N u c1) B 9 (nI 0)) ?_ rfl (fun a q => s0 _ _ _ _ q) (fun j q1 q2 => by rw [gi_si_n (Or.inr q2), gg]) (by rw [m8, gi_si]) (by rw [gi_si_n (Or.inr (by omega)), gg, e8]; congr 1; omega)
      unfold f_X7_keepPresent
      simp (disch := omega) only [↓lt_eq, nI_lit, nI_add, ↓reduceIte, pLEt, pLEf, pLTt, pLTf, pEQf, pML, pMG, pMf, pMg, e9, xb_nI, nI_clamp, if_true, g7, gu, h5, a1, bd_some, gg, gi_si_n, e8]
    · refine mk (si (si (sw N u c1) B 9 (nI 0)) B 8 (nI (k + 1))) ?_ rfl (fun a q => by rw [s0 _ _ _ _ q, s0 _ _ _ _ q]) (fun j q1 q2 => by rw [gi_si_n (Or.inr q1), gi_si_n (Or.inr q2), gg]) (by rw [gi_si_n (Or.inr (by omega)), m8, gi_si]) (by rw [gi_si]; congr 1; omega)
      unfold f_X7_keepPresent
      simp (disch := omega) only [↓lt_eq, nI_lit, nI_add, ↓reduceIte, pLEt, pLEf, pLTt, pLTf, pEQf, pML, pMG, pMf, pMg, e9, xb_nI, nI_clamp, if_true, g7, gu, h5, a1, bd_some, gg, gi_si_n, e8]
  · have m8 : ((p + 1) % 8) = p + 1 := by omega
    by_cases k8 : k = 8
    · refine mk (si (sw N u c1) B 9 (nI (p + 1))) ?_ rfl (fun a q => s0 _ _ _ _ q) (fun j q1 q2 => by rw [gi_si_n (Or.inr q2), gg]) (by rw [m8, gi_si]) (by rw [gi_si_n (Or.inr (by omega)), gg, e8]; congr 1; omega)
      unfold f_X7_keepPresent
      simp (disch := omega) only [↓lt_eq, nI_lit, nI_add, ↓reduceIte, pLEt, pLEf, pLTt, pLTf, pEQf, pML, pMG, pMf, pMg, e9, xb_nI, nI_clamp, if_true, g7, gu, h5, a1, bd_some, gg, gi_si_n, e8]
    · refine mk (si (si (sw N u c1) B 9 (nI (p + 1))) B 8 (nI (k + 1))) ?_ rfl (fun a q => by rw [s0 _ _ _ _ q, s0 _ _ _ _ q]) (fun j q1 q2 => by rw [gi_si_n (Or.inr q1), gi_si_n (Or.inr q2), gg]) (by rw [gi_si_n (Or.inr (by omega)), m8, gi_si]) (by rw [gi_si]; congr 1; omega)
      unfold f_X7_keepPresent
      simp (disch := omega) only [↓lt_eq, nI_lit, nI_add, ↓reduceIte, pLEt, pLEf, pLTt, pLTf, pEQf, pML, pMG, pMf, pMg, e9, xb_nI, nI_clamp, if_true, g7, gu, h5, a1, bd_some, gg, gi_si_n, e8]
/-- the ring behind keepPresent -/
theorem ring_next {k p : Nat} {hd : Nat → XD} {N1 : XN} {Q : Nat → Int32} (h : ring B N k p hd) (h1 : kept1 B p k N N1) (hD : DJ ops d) (hT : tM d ≤ 9999) (hC : CR Q ops d (wc N1 (B + (188 + 90 * p)))) : ring B N1 (min (k + 1) 8) ((p + 1) % 8) (nhd k hd d) := by
  obtain ⟨a1, a2, a3, a4, a5⟩ := h
  obtain ⟨-, b2, b3, b4, b5⟩ := h1
  refine ⟨by omega, by omega, b5, b4, fun i hi => ?_⟩
  have old : ∀ j, j < k → (p + 8 - k + j) % 8 ≠ p → slot B ((p + 1) % 8) (min (k + 1) 8) i = slot B p k j → ∃ ops, DJ ops (hd j) ∧ tM (hd j) ≤ 9999 ∧ ∃ P, CR P ops (hd j) (wc N1 (slot B ((p + 1) % 8) (min (k + 1) 8) i)) := by
    intro j hj hne hs
    obtain ⟨ops', c1, c2, P', c3⟩ := a5 j hj
    refine ⟨ops', c1, c2, P', ?_⟩
    rw [hs]
    refine c3.cells c1.H6 c1.L8 c1.R60 (fun o x ho => ?_)
    unfold wc slot
    rw [b2 _ (by omega) (by omega)]
  by_cases k8 : k = 8
  · by_cases i7 : i < 7
    · have e : nhd k hd d i = hd (i + 1) := by unfold nhd; rw [if_pos k8, if_pos i7]
      rw [e]
      exact old (i + 1) (by omega) (by omega) (by unfold slot; omega)
    · have e : nhd k hd d i = d := by unfold nhd; rw [if_pos k8, if_neg i7]
      rw [e]
      have es : slot B ((p + 1) % 8) (min (k + 1) 8) i = B + (188 + 90 * p) := by unfold slot; omega
      rw [es]
      exact ⟨ops, hD, hT, Q, hC⟩
  · by_cases ik : i = k
    · have e : nhd k hd d i = d := by unfold nhd; rw [if_neg k8, if_pos ik]
      rw [e]
      have es : slot B ((p + 1) % 8) (min (k + 1) 8) i = B + (188 + 90 * p) := by unfold slot; omega
      rw [es]
      exact ⟨ops, hD, hT, Q, hC⟩
    · have e : nhd k hd d i = hd i := by unfold nhd; rw [if_neg k8, if_neg ik]
      rw [e]
      exact old i (by omega) (by omega) (by unfold slot; omega)
end RI

