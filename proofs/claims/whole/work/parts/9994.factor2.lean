/-! BOTH READ A FACTOR, ALL CASES -/
section FB
variable {Y : XY} {N N2 : XN} {B T L m : Nat} {t : Nat → Nat} {h0 : XD} {P : Nat → Int32} {y1 y2 : Int32}
theorem wl12 : isOp (-nI 12) = false ∧ isLeaf (-nI 12) = true ∧ enc (-nI 12) = [nI 1, nI 0] := by decide
theorem wl20 : isOp (-nI 20) = false ∧ isLeaf (-nI 20) = true ∧ enc (-nI 20) = [nI 1, nI 1] := by decide
theorem wl21 : isOp (-nI 21) = false ∧ isLeaf (-nI 21) = true ∧ enc (-nI 21) = [nI 1, nI 2] := by decide
theorem wl22 : isOp (-nI 22) = false ∧ isLeaf (-nI 22) = true ∧ enc (-nI 22) = [nI 1, nI 3] := by decide
theorem nz10' : ¬ nI 1 = nI 0 := by decide
theorem sk_eq {K i : Nat} (hK : K < 24) (h : K ≠ i) (hi : i < 24) : (nI K = nI i) = False := eq_false (fun z => h ((nI_eq (by omega) (by omega)).mp z))
theorem S_factor (E : EN Y N N2 B T L m t) {D k : Nat} (hk : k ≤ 4) (H : k < 4 → ∀ (a s : Nat) (ops : List Int32) (g h e : XD) (c : Nat → Nat → Int32), RG T L t h0 a g h → QD P ops e c → okS ops 0 = some s → s ≤ 2 * (k + 1) → ops.length ≤ a → g 6 = y1 → h 15 = nI (k + 1) → h 16 = y2 → OX N N2 B T L m t h0 P y1 y2 (k + 1) a s ops (f_X4_S Y D 0 (B + 6) (nI (k + 1)) (KS N B c g)) (f_X8_S Y D 0 m (MM N2 m h e))) (hD3 : 3 ≤ D) {a s : Nat} {ops : List Int32} {g h e : XD} {c : Nat → Nat → Int32} (hg : RG T L t h0 a g h) (hQ : QD P ops e c) (ho : okS ops 0 = some s) (hs : s ≤ 2 * k + 2) (hl : ops.length ≤ a) (hg6 : g 6 = y1) (h15 : h 15 = nI k) (h16 : h 16 = y2) : OX N N2 B T L m t h0 P y1 y2 k a s ops (b_X4_readsFactor Y (f_X4_S Y D) (B + 6) (nI k) (KS N B c g)) (b_X8_factor Y (f_X8_S Y D) m (MM N2 m h e)) := by
  obtain ⟨hR, hT, hL, ⟨g1, g9, k9⟩, hM⟩ := id E
  obtain ⟨r1, r2, r3, r4, r5, hY⟩ := id hR
  have hT7 := hT.2.2.1
  have haT := hg.1
  have h4 := hg.2.1
  obtain ⟨-, m2, m3, m4, m5⟩ := hQ.1.C
  have el := encs_len _ _ _ ho
  have hc4 := hQ.2.1.2.1.1.1
  have kd := S_kind (c := c) hR hT hg
  have kf := fun x : Int32 => K_fails (c := c) (g := g) hR hT haT h4 (x := x)
  have lK := tK_lt (t := t) (L := L) (s := tS t L a)
  obtain ⟨h1, nx, b1, b2, b3, b4⟩ := S_next (e := e) hL g1 hM hT hg
  have dg := M_isDigit (Y := Y) (N := N2) (m := m) (s := tS t L a) hM (N9 := MM N2 m h1 e)
  have n40 : nb t L (tS t L a) = nI 40 ↔ tK t L (tS t L a) = 4 := by
    rw [nb_eq hM (by omega)]
    exact (tK_sign (c := 40) (by omega)).symm
  have gd : f_X8_isGood Y m (MM N2 m h e) = nI 1 := hg.good
  have h115 : h1 15 = nI k := by rw [b3]; exact h15
  unfold b_X4_readsFactor b_X8_factor
  simp only [nI_lit, gd, nz10, ↓reduceIte]
  rw [nx, bd2_some, kd, bd_some]
  generalize hK : tK t L (tS t L a) = K at *
  by_cases q2 : K = 2
  · subst q2
    rw [if_pos (tK_num.mp hK)] at dg
    have e40 : (nb t L (tS t L a) = nI 40) = False := eq_false (fun z => by have := n40.mp z; omega)
    simp only [nI01, ↓reduceIte, e40]
    rw [dg, bd_some]
    simp only [nz10, ↓reduceIte]
    obtain ⟨g2, h2, v, m2', s2⟩ := S_number (N2 := N2) (c := c) (e := e) hR hT hL g1 hM b1 (x := 0) (y := nI 9999) (by omega) (by decide)
    rw [m2', bd2_some]
    rcases s2 with ⟨s2, d1, ⟨d2, -, d4⟩, -, d5, d6, d7⟩ | ⟨s2, d1⟩
    · have d4' : (nI 9999 : Int32).toInt = 9999 := by decide
      obtain ⟨l1, l2, l3⟩ := num_leaf (v := v) (by omega)
      obtain ⟨q1, q3⟩ := hQ.step ho (leaf_ok l1 l2 (show s < 16 by omega)) (by have := d1.1; omega) (by omega)
      rw [l3] at q1
      refine ⟨_, g2, h2, _, M_emits2 g9 k9 d1.2.2.1 m4 (by omega), Or.inl ⟨?_, a + 1, ops ++ [nI v], by omega, d1, q1, q3, ?_, by rw [d5]; exact hg6, by rw [d6]; exact h115, by rw [d7, b4]; exact h16⟩⟩
      · have st := KS_step (N := N) hR (c := c) (g := g2) (x := nI v) (show ops.length < 700 by have := d1.1; omega) hc4
        rw [s2, bd2_some]
        simp only [nz10, ↓reduceIte, r2, hY.g13, gi_KS, d2]
        rw [st, bd_some]
      · rw [List.length_append]
        show ops.length + 1 + a ≤ _
        omega
    · refine ⟨c, g2, h2, e, ?_, Or.inr ⟨?_, d1, _, m2, hc4⟩⟩
      · rw [M_emit_bad d1.1, bd_some, M_emit_bad d1.1, bd_some]
      · rw [s2, bd2_some]
        simp only [nI01, ↓reduceIte]
  · by_cases q4 : K = 4
    · subst q4
      have e40 : (nb t L (tS t L a) = nI 40) = True := eq_true (n40.mpr rfl)
      have e42 : (nI 4 = nI 2) = False := by decide
      obtain ⟨a9, tE9⟩ : tS t L a < L ∧ tE t L (tS t L a) = tS t L a + 1 := by
        have := (tK_sign (t := t) (L := L) (s := tS t L a) (c := 40) (by omega)).mp hK
        exact ⟨this.1, tE_sign (by omega) this.2⟩
      simp only [e40, e42, nI01, ↓reduceIte, eq_self]
      by_cases k4 : k < 4
      · have ek1 : (nI k < nI 4) = True := pLTt k4 (by omega)
        have ek2 : (h1 15 = nI 4) = False := by rw [h115]; exact pEQf (by omega) (by omega) (by omega)
        have h415 : upd h1 4 (nI (tS t L a + 1)) 15 = nI k := by rw [upd_n (by omega)]; exact h115
        simp only [ek1, gi_MM, ek2, ↓reduceIte, ↓lt_eq, gi_KS, h4, b2, nI_add, si_KS, si_MM, h415]
        have hg2 : RG T L t h0 (a + 1) (upd g 4 (nI (a + 1))) (upd (upd h1 4 (nI (tS t L a + 1))) 15 (nI (k + 1))) := by
          refine b1.next hT (by rw [hK]; omega) (upd_s _ _ _) ?_ ?_ ?_ ?_ ((b1.2.2.2.2.2.2.up (by omega) _).up (by omega) _)
          · rw [upd_n (by omega), upd_n (by omega)]
          · rw [upd_n (by omega), upd_s, tE9]
          · rw [upd_n (by omega), upd_n (by omega)]
          · rw [upd_n (by omega), upd_n (by omega)]
        obtain ⟨c3, g3, h3, e3, f1, f2⟩ := H k4 (a + 1) s ops _ _ e c hg2 hQ ho (by omega) (by omega) (by rw [upd_n (by omega)]; exact hg6) (upd_s _ _ _) (by rw [upd_n (by omega), upd_n (by omega), b4]; exact h16)
        rw [f1, bd_some]
        rcases f2 with ⟨f2, a', ops', i1, i2, i3, i4, i5, i6, i7, i8⟩ | ⟨f2, i1, i2⟩
        · rw [f2, bd2_some]
          obtain ⟨g4, h4', x1, x2⟩ := S_takes (N2 := N2) (c := c3) (e := e3) hR hT hL g1 hM i2 (b := 41) (by omega)
          have es : sgK 41 = 5 := rfl
          rw [es] at x2
          rw [x1, bd_some]
          rcases x2 with ⟨x2, x3, x4, x5, x6⟩ | ⟨x2, x3⟩
          · refine ⟨c3, g4, upd h4' 15 (nI k), e3, ?_, Or.inl ⟨?_, a' + 1, ops', by omega, ?_, i3, i4, by omega, by rw [x4]; exact i6, upd_s _ _ _, by rw [upd_n (by omega), x6]; exact i8⟩⟩
            · have e15 : h4' 15 = nI (k + 1) := by rw [x5]; exact i7
              simp only [lt_eq, gi_MM, e15, si_MM]
              rw [pre_n (by omega), Nat.add_sub_cancel]
            · simp only [nz10, ↓reduceIte]
              rw [x2, bd2_some]
              simp only [nz10, ↓reduceIte]
            · obtain ⟨j1, j2, j3, j4, j5, ⟨p, p1, p2, p3⟩, j7⟩ := x3
              exact ⟨j1, j2, by rw [upd_n (by omega)]; exact j3, by rw [upd_n (by omega)]; exact j4, by rw [upd_n (by omega)]; exact j5, ⟨p, p1, p2, by rw [upd_n (by omega)]; exact p3⟩, j7.up (by omega) _⟩
          · refine ⟨c3, g4, upd h4' 15 (h4' 15 - nI 1), e3, by simp only [gi_MM, si_MM], Or.inr ⟨?_, ⟨by rw [upd_n (by omega)]; exact x3.1, by rw [upd_n (by omega)]; exact x3.2.1, by rw [upd_n (by omega)]; exact x3.2.2.1, x3.2.2.2.up (by omega) _⟩, _, i3.1.C.2.1, i3.2.1.2.1.1.1⟩⟩
            simp only [nz10, ↓reduceIte]
            rw [x2, bd2_some]
            simp only [nI01, ↓reduceIte]
        · rw [f2, bd2_some, M_expect_bad i1.1, bd_some]
          refine ⟨c3, g3, upd h3 15 (h3 15 - nI 1), e3, by simp only [gi_MM, si_MM], Or.inr ⟨?_, ⟨by rw [upd_n (by omega)]; exact i1.1, by rw [upd_n (by omega)]; exact i1.2.1, by rw [upd_n (by omega)]; exact i1.2.2.1, i1.2.2.2.up (by omega) _⟩, i2⟩⟩
          simp only [nI01, ↓reduceIte]
      · have ek : k = 4 := by omega
        subst ek
        have ek1 : (nI 4 < nI 4) = False := pLTf (by omega) (by omega)
        have rp := b1.rep (Y := Y) (N := N2) (m := m) (e := e) (x := -nI 6) (y := nI (tS t L a))
        have b5 : ∀ u v : Int32, upd (upd (upd (upd h1 5 (-nI 6)) 6 (nI (tS t L a))) 4 u) 15 v 5 ≠ nI 0 := fun u v => by
          rw [upd_n (by omega), upd_n (by omega), upd_n (by omega), upd_s]; exact mc6
        obtain ⟨D3, rfl⟩ : ∃ z, D = z + 3 := ⟨D - 3, by omega⟩
        simp only [ek1, gi_MM, h115, nI01, ↓reduceIte, eq_self, b2]
        rw [rp, bd_some]
        simp only [lt_eq, si_MM, gi_MM]
        rw [(M_S_bad (b5 _ _)).2.2, bd_some, M_expect_bad (b5 _ _), bd_some, si_MM]
        refine ⟨c, upd (upd g 0 (-nI 6)) 1 (nI (tS t L a)), _, e, rfl, Or.inr ⟨by rw [kf, bd2_some]; simp only [xz0, ↓reduceIte], hg.fail mc6 (x := -nI 6) (y := nI (tS t L a)) (by rw [upd_n (by omega), upd_s]) (upd_s _ _ _) ?_ ?_ (((((b1.2.2.2.2.2.2.up (by omega) _).up (by omega) _).up (by omega) _).up (by omega) _).up (by omega) _), _, m2, hc4⟩⟩
        · rw [upd_n (by omega), upd_n (by omega), upd_n (by omega), upd_n (by omega), upd_s]
        · rw [upd_n (by omega), upd_n (by omega), upd_n (by omega), upd_s]
    · have e40 : (nb t L (tS t L a) = nI 40) = False := eq_false (fun z => q4 (n40.mp z))
      rw [if_neg (fun z => q2 (hK ▸ tK_num.mpr z))] at dg
      simp only [sk_eq lK q2 (by omega), sk_eq lK q4 (by omega), e40, ↓reduceIte]
      rw [dg, bd_some]
      simp only [nI01, ↓reduceIte]
      obtain ⟨u1, w1, v1, v2⟩ := S_word (Y := Y) (N2 := N2) (e := e) hL g1 hM hT b1 (i := 2) (by omega)
      rw [hK] at w1
      by_cases q12 : K = 12
      · rw [if_pos (by omega)] at w1
        subst q12
        rw [w1.1, bd2_some]
        simp only [nz10, nI01, ↓reduceIte]
        exact S_leafw E wl12.1 wl12.2.1 wl12.2.2 hQ ho (by omega) hl w1.2 h4 hg6 (by rw [v1]; exact h115) (by rw [v2, b4]; exact h16)
      · rw [if_neg (by omega)] at w1
        rw [w1.1, bd2_some]
        simp only [nI01, sk_eq lK q12 (by omega), ↓reduceIte]
        obtain ⟨u2, w2, v3, v4⟩ := S_word (Y := Y) (N2 := N2) (e := e) hL g1 hM hT w1.2.1 (i := 10) (by omega)
        rw [hK] at w2
        by_cases q20 : K = 20
        · rw [if_pos (by omega)] at w2
          subst q20
          rw [w2.1, bd2_some]
          simp only [nz10, nI01, ↓reduceIte]
          exact S_leafw E wl20.1 wl20.2.1 wl20.2.2 hQ ho (by omega) hl w2.2 h4 hg6 (by rw [v3, v1]; exact h115) (by rw [v4, v2, b4]; exact h16)
        · rw [if_neg (by omega)] at w2
          rw [w2.1, bd2_some]
          simp only [nI01, sk_eq lK q20 (by omega), ↓reduceIte]
          obtain ⟨u3, w3, v5, v6⟩ := S_word (Y := Y) (N2 := N2) (e := e) hL g1 hM hT w2.2.1 (i := 11) (by omega)
          rw [hK] at w3
          by_cases q21 : K = 21
          · rw [if_pos (by omega)] at w3
            subst q21
            rw [w3.1, bd2_some]
            simp only [nz10, nI01, ↓reduceIte]
            exact S_leafw E wl21.1 wl21.2.1 wl21.2.2 hQ ho (by omega) hl w3.2 h4 hg6 (by rw [v5, v3, v1]; exact h115) (by rw [v6, v4, v2, b4]; exact h16)
          · rw [if_neg (by omega)] at w3
            rw [w3.1, bd2_some]
            simp only [nI01, sk_eq lK q21 (by omega), ↓reduceIte]
            obtain ⟨u4, w4, v7, v8⟩ := S_word (Y := Y) (N2 := N2) (e := e) hL g1 hM hT w3.2.1 (i := 12) (by omega)
            rw [hK] at w4
            by_cases q22 : K = 22
            · rw [if_pos (by omega)] at w4
              subst q22
              rw [w4.1, bd2_some]
              simp only [nz10, nI01, ↓reduceIte]
              exact S_leafw E wl22.1 wl22.2.1 wl22.2.2 hQ ho (by omega) hl w4.2 h4 hg6 (by rw [v7, v5, v3, v1]; exact h115) (by rw [v8, v6, v4, v2, b4]; exact h16)
            · rw [if_neg (by omega)] at w4
              rw [w4.1, bd2_some]
              simp only [nI01, sk_eq lK q22 (by omega), ↓reduceIte]
              obtain ⟨j1, j2, j3, j6, j4, ⟨p, p1, p2, p3⟩, j5⟩ := w4.2.1
              have mn := M_number (Y := Y) (e := e) (b := nI 9999) g1 hM hL j4 j3 p3 p1 p2 (a := 0) (by omega)
              rw [hK, if_neg q2] at mn
              have x5 : upd (upd (upd u4 4 (nI (tS t L a))) 5 (-nI 2)) 6 (nI (tS t L a)) 5 ≠ nI 0 := by rw [upd_n (by omega), upd_s]; exact mc2
              rw [mn, bd2_some, M_emit_bad x5, bd_some, M_emit_bad x5, bd_some]
              refine ⟨c, upd (upd g 0 (-nI 2)) 1 (nI (tS t L a)), _, e, rfl, Or.inr ⟨by rw [kf, bd2_some]; simp only [xz0, ↓reduceIte], hg.fail mc2 (x := -nI 2) (y := nI (tS t L a)) (by rw [upd_n (by omega), upd_s]) (upd_s _ _ _) (by rw [upd_n (by omega), upd_s]) (upd_s _ _ _) (((j5.up (by omega) _).up (by omega) _).up (by omega) _), _, m2, hc4⟩⟩
end FB
