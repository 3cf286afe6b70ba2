/-! BOTH READ A SUM, AND THE WHOLE FINE -/
section SV
variable {Y : XY} {N N2 : XN} {B T L m : Nat} {t : Nat → Nat} {h0 : XD} {P : Nat → Int32} {y1 y2 : Int32}
theorem S_sum_L (E : EN Y N N2 B T L m t) {k D : Nat} (hk : k ≤ 4) (H : PX Y N N2 B T L m t h0 P y1 y2 k (2 * k + 1) D 1) {a0 s : Nat} {ops0 : List Int32} (hs : s ≤ 2 * k) : ∀ (n a v3 D9 D8 : Nat) (ops : List Int32) (g h e : XD) (c : Nat → Nat → Int32), T - a ≤ n → n + 1 < D9 → n + 1 < D8 → v3 + 1 ≤ a → a0 < a → RG T L t h0 a g h → QD P ops e c → okS ops 0 = some (s + 1) → ops.length ≤ a → ops.length + a0 ≤ ops0.length + a → g 6 = y1 → h 15 = nI k → h 16 = y2 → OX N N2 B T L m t h0 P y1 y2 k a0 s ops0 (f_X4_readsSum_8 Y (f_X4_S Y D) D9 (B + 6) (nI k) (nI 1) (nI v3) (KS N B c g)) (f_X8_sum_4 Y (f_X8_S Y D) D8 m (MM N2 m h e)) := by
  obtain ⟨hR, hT, hL, ⟨g1, g9, k9⟩, hM⟩ := id E
  have hT7 := hT.2.2.1
  intro n
  induction n with
  | zero =>
    intro a v3 D9 D8 ops g h e c hn hD9 hD8 hv ha hg hQ ho hl hl2 hg6 h15 h16
    obtain ⟨D9, rfl⟩ : ∃ z, D9 = z + 1 := ⟨D9 - 1, by omega⟩
    obtain ⟨D8, rfl⟩ : ∃ z, D8 = z + 1 := ⟨D8 - 1, by omega⟩
    have haT := hg.1
    have e9 : tS t L a = L := by rw [show a = T by omega]; exact hT.2.1
    have kd := S_kind (c := c) hR hT hg
    have k0 : tK t L (tS t L a) = 0 := tK_end.mpr (by omega)
    rw [k0] at kd
    obtain ⟨h1, nx, b1, b2, b3, b4⟩ := S_next (e := e) hL g1 hM hT hg
    obtain ⟨h2, nx2, d1, d2, d3, d4⟩ := S_next (e := e) hL g1 hM hT b1
    have n42 : (nb t L (tS t L a) = nI 43) = False := eq_false (fun z => by have := ((nb_eq hM (by omega)).mp z).1; omega)
    have n47 : (nb t L (tS t L a) = nI 45) = False := eq_false (fun z => by have := ((nb_eq hM (by omega)).mp z).1; omega)
    refine ⟨c, g, h2, e, ?_, Or.inl ⟨?_, a, ops, ha, d1, hQ, ho, hl2, hg6, by rw [d3, b3]; exact h15, by rw [d4, b4]; exact h16⟩⟩
    · rw [f_X8_sum_4]
      simp only [nI_lit, hg.good, nz10, ↓reduceIte]
      rw [nx, bd2_some]
      simp only [n42, ↓reduceIte]
      rw [nx2, bd2_some]
      simp only [n47, ↓reduceIte]
    · rw [f_X4_readsSum_8]
      simp (disch := omega) only [nI_lit, ↓reduceIte, pLEt, pLEf, pLTt, pLTf, pEQf, pML, pMG, pMf, pMg, nz10, kd, bd_some, xz1]
  | succ n ih =>
    intro a v3 D9 D8 ops g h e c hn hD9 hD8 hv ha hg hQ ho hl hl2 hg6 h15 h16
    obtain ⟨D9, rfl⟩ : ∃ z, D9 = z + 1 := ⟨D9 - 1, by omega⟩
    obtain ⟨D8, rfl⟩ : ∃ z, D8 = z + 1 := ⟨D8 - 1, by omega⟩
    have haT := hg.1
    have h4 := hg.2.1
    have kd := S_kind (c := c) hR hT hg
    have lK := tK_lt (t := t) (L := L) (s := tS t L a)
    obtain ⟨h1, nx, b1, b2, b3, b4⟩ := S_next (e := e) hL g1 hM hT hg
    obtain ⟨h2, nx2, d1, d2, d3, d4⟩ := S_next (e := e) hL g1 hM hT b1
    obtain ⟨h3, nx3, i1, i2, i3, i4⟩ := S_next (e := e) hL g1 hM hT d1
    have n42 : nb t L (tS t L a) = nI 43 ↔ tK t L (tS t L a) = 6 := by
      rw [nb_eq hM (by omega)]
      exact (tK_sign (c := 43) (by omega)).symm
    have n47 : nb t L (tS t L a) = nI 45 ↔ tK t L (tS t L a) = 7 := by
      rw [nb_eq hM (by omega)]
      exact (tK_sign (c := 45) (by omega)).symm
    obtain ⟨d7, hd7⟩ : ∃ z, D9 = z + 1 := ⟨D9 - 1, by omega⟩
    obtain ⟨d6, hd6⟩ : ∃ z, D8 = z + 1 := ⟨D8 - 1, by omega⟩
    have bc : ∀ M, f_X4_readsSum_8 Y (f_X4_S Y D) D9 (B + 6) (nI k) (nI 0) (nI (v3 + 1)) M = some (nI 0, M) := fun M => by rw [hd7]; exact K_sum0
    have bm : ∀ h e : XD, h 5 ≠ nI 0 → f_X8_sum_4 Y (f_X8_S Y D) D8 m (MM N2 m h e) = some (MM N2 m h e) := fun h e q => by rw [hd6]; exact M_sum0 q
    have gc : ∀ (a' : Nat) (ops' : List Int32) (g' h' e' : XD) (c' : Nat → Nat → Int32), a + 1 < a' → RG T L t h0 a' g' h' → QD P ops' e' c' → okS ops' 0 = some (s + 1) → ops'.length + a ≤ ops.length + a' → g' 6 = y1 → h' 15 = nI k → h' 16 = y2 → OX N N2 B T L m t h0 P y1 y2 k a0 s ops0 (f_X4_readsSum_8 Y (f_X4_S Y D) D9 (B + 6) (nI k) (nI 1) (nI (v3 + 1)) (KS N B c' g')) (f_X8_sum_4 Y (f_X8_S Y D) D8 m (MM N2 m h' e')) := fun a' ops' g' h' e' c' x1 x2 x3 x4 x5 x6 x7 x8 => ih a' (v3 + 1) D9 D8 ops' g' h' e' c' (by omega) (by omega) (by omega) (by omega) (by omega) x2 x3 x4 (by omega) (by omega) x6 x7 x8
    rw [f_X4_readsSum_8, f_X8_sum_4]
    simp only [nI_lit, hg.good, nz10, ↓reduceIte]
    rw [nx, bd2_some]
    have v7 : (nI 700 ≤ nI v3) = False := pLEf (by omega) (by omega)
    simp only [v7, kd, ↓reduceIte]
    rw [bd_some]
    by_cases q8 : tK t L (tS t L a) = 6
    · have e42 := n42.mpr q8
      have R := H (a + 1) (s + 1) ops (upd g 4 (nI (a + 1))) (upd h2 4 (nI (tS t L a + 1))) e c (d1.op hT (b := 43) (by omega) q8) hQ ho (by omega) (by omega) (by rw [upd_n (by omega)]; exact hg6) (by rw [upd_n (by omega), d3, b3]; exact h15) (by rw [upd_n (by omega), d4, b4]; exact h16)
      have Z := S_op (a0 := a0) (ops0 := ops0) (kc := fun r M => f_X4_readsSum_8 Y (f_X4_S Y D) D9 (B + 6) (nI k) r (nI (v3 + 1)) M) (km := f_X8_sum_4 Y (f_X8_S Y D) D8 m) E op6.1 op6.2 (by omega) hk hl R bc bm gc
      simp only [e42, q8, nI01, ↓reduceIte, eq_self]
      rw [nx2, bd2_some, bd_some]
      simp only [e42, ↓reduceIte, eq_self, lt_eq, gi_KS, h4, nI_add, si_KS, gi_MM, d2, si_MM]
      exact Z
    · have e42 : (nb t L (tS t L a) = nI 43) = False := eq_false (fun z => q8 (n42.mp z))
      simp only [e42, sk_eq lK q8 (by omega), ↓reduceIte]
      rw [nx2, bd2_some, bd_some]
      by_cases q9 : tK t L (tS t L a) = 7
      · have e47 := n47.mpr q9
        have e74 : (nI 45 = nI 43) = False := pEQf (by omega) (by omega) (by omega)
        have R := H (a + 1) (s + 1) ops (upd g 4 (nI (a + 1))) (upd h3 4 (nI (tS t L a + 1))) e c (i1.op hT (b := 45) (by omega) q9) hQ ho (by omega) (by omega) (by rw [upd_n (by omega)]; exact hg6) (by rw [upd_n (by omega), i3, d3, b3]; exact h15) (by rw [upd_n (by omega), i4, d4, b4]; exact h16)
        have Z := S_op (a0 := a0) (ops0 := ops0) (kc := fun r M => f_X4_readsSum_8 Y (f_X4_S Y D) D9 (B + 6) (nI k) r (nI (v3 + 1)) M) (km := f_X8_sum_4 Y (f_X8_S Y D) D8 m) E op7.1 op7.2 (by omega) hk hl R bc bm gc
        simp only [e47, q9, nI01, ↓reduceIte, eq_self]
        rw [nx3, bd2_some, bd_some]
        simp only [e47, e74, ↓reduceIte, lt_eq, gi_KS, h4, nI_add, si_KS, gi_MM, i2, si_MM]
        exact Z
      · have e47 : (nb t L (tS t L a) = nI 45) = False := eq_false (fun z => q9 (n47.mp z))
        simp only [e47, sk_eq lK q9 (by omega), ↓reduceIte, xz1]
        exact ⟨c, g, h2, e, rfl, Or.inl ⟨rfl, a, ops, ha, d1, hQ, ho, hl2, hg6, by rw [d3, b3]; exact h15, by rw [d4, b4]; exact h16⟩⟩
theorem S_term (E : EN Y N N2 B T L m t) {k D : Nat} (hk : k ≤ 4) (H : PX Y N N2 B T L m t h0 P y1 y2 k (2 * k + 2) D 2) : PX Y N N2 B T L m t h0 P y1 y2 k (2 * k + 1) (D + 1) 1 := by
  intro a s ops g h e c hg hQ ho hs hl hg6 h15 h16
  have hT7 := E.2.1.2.2.1
  obtain ⟨c', g', h', e', f1, f2⟩ := H a s ops g h e c hg hQ ho (by omega) hl hg6 h15 h16
  obtain ⟨z, hz⟩ : ∃ z, FU = z + 1 := ⟨FU - 1, by unfold FU; omega⟩
  have hz9 : 2000 < z := by have : FU = 4096 := rfl; omega
  rw [f_X4_S, f_X8_S, if_neg (by decide), if_pos rfl, if_neg (by decide), if_pos rfl]
  unfold b_X4_readsTerm b_X8_term
  rw [f1, bd_some, hz]
  rcases f2 with ⟨f2, a', ops', i1, i2, i3, i4, i5, i6, i7, i8⟩ | ⟨f2, i1, i2⟩
  · rw [f2, bd2_some]
    have haT := i2.1
    exact S_term_L E hk H hs (T - a') a' 0 (z + 1) (z + 1) ops' g' h' e' c' (Nat.le_refl _) (by omega) (by omega) (by omega) i1 i2 i3 i4 (by omega) i5 i6 i7 i8
  · rw [f2, bd2_some, K_term0, M_term0 i1.1]
    exact ⟨c', g', h', e', rfl, Or.inr ⟨rfl, i1, i2⟩⟩
theorem S_sum (E : EN Y N N2 B T L m t) {k D : Nat} (hk : k ≤ 4) (H : PX Y N N2 B T L m t h0 P y1 y2 k (2 * k + 1) D 1) : PX Y N N2 B T L m t h0 P y1 y2 k (2 * k) (D + 1) 0 := by
  intro a s ops g h e c hg hQ ho hs hl hg6 h15 h16
  have hT7 := E.2.1.2.2.1
  obtain ⟨c', g', h', e', f1, f2⟩ := H a s ops g h e c hg hQ ho (by omega) hl hg6 h15 h16
  obtain ⟨z, hz⟩ : ∃ z, FU = z + 1 := ⟨FU - 1, by unfold FU; omega⟩
  have hz9 : 2000 < z := by have : FU = 4096 := rfl; omega
  rw [f_X4_S, f_X8_S, if_pos rfl, if_pos rfl]
  unfold b_X4_readsSum b_X8_sum
  rw [f1, bd_some, hz]
  rcases f2 with ⟨f2, a', ops', i1, i2, i3, i4, i5, i6, i7, i8⟩ | ⟨f2, i1, i2⟩
  · rw [f2, bd2_some]
    have haT := i2.1
    exact S_sum_L E hk H hs (T - a') a' 0 (z + 1) (z + 1) ops' g' h' e' c' (Nat.le_refl _) (by omega) (by omega) (by omega) i1 i2 i3 i4 (by omega) i5 i6 i7 i8
  · rw [f2, bd2_some, K_sum0, M_sum0 i1.1]
    exact ⟨c', g', h', e', rfl, Or.inr ⟨rfl, i1, i2⟩⟩
/-- a sum at one depth, from a sum one deeper -/
theorem S_depth (E : EN Y N N2 B T L m t) {k D : Nat} (hk : k ≤ 4) (hD : 3 ≤ D) (H : k < 4 → PX Y N N2 B T L m t h0 P y1 y2 (k + 1) (2 * (k + 1)) D 0) : PX Y N N2 B T L m t h0 P y1 y2 k (2 * k) (D + 3) 0 := by
  refine S_sum E hk (S_term E hk ?_)
  intro a s ops g h e c hg hQ ho hs hl hg6 h15 h16
  rw [f_X4_S, f_X8_S, if_neg (by decide), if_neg (by decide), if_neg (by decide), if_neg (by decide)]
  exact S_factor E hk (fun k4 => H k4) hD hg hQ ho hs hl hg6 h15 h16
theorem S_fine (E : EN Y N N2 B T L m t) : PX Y N N2 B T L m t h0 P y1 y2 0 0 24 0 :=
  S_depth E (k := 0) (D := 21) (by omega) (by omega) fun _ => S_depth E (k := 1) (D := 18) (by omega) (by omega) fun _ => S_depth E (k := 2) (D := 15) (by omega) (by omega) fun _ => S_depth E (k := 3) (D := 12) (by omega) (by omega) fun _ => S_depth E (k := 4) (D := 9) (by omega) (by omega) fun z => absurd z (by omega)
end SV
