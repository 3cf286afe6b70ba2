/-! BOTH READ A WHOLE LINE -/
section LN8
variable {f : Bool} {Y : XY} {N N2 : XN} {B T L m a : Nat} {t : Nat → Nat} {c : Nat → Nat → Int32} {g h h0 e : XD} {P : Nat → Int32} {ops : List Int32}
theorem S_line (E : EN Y N N2 B T L m t) (hQ : QD P ops e c) (hn : NB f g h) (ha : a ≤ T) (h4 : g 4 = nI a) (hg : RG T L t h0 (a + 1) (upd g 4 (nI (a + 1))) h) : OUT f N N2 B T L m t h0 P (fun o => o = ops) a (f_X4_readsLine Y (B + 6) (KS N B c g)) (f_X8_readLine Y m (nI (tS t L a)) (MM N2 m h e)) := by
  obtain ⟨hR, hT, hL, ⟨g1, g9, k9⟩, hM⟩ := id E
  obtain ⟨r1, r2, r3, r4, r5, hY⟩ := id hR
  have hT7 := hT.2.2.1
  have hD := hQ.1
  have h8 := hD.L8
  have hc3 : c 0 3 = nI (nL e) := (hQ.2.1.1.1 3 2 (by unfold Wp; decide)).trans hD.L
  unfold f_X4_readsLine f_X8_readLine
  by_cases q : nL e < 8
  · have hq2 : (e 2 = nI 8) = False := by rw [hD.L]; exact pEQf (by omega) (by omega) (by omega)
    have hq3 : (nI (nL e) < nI 8) = True := pLTt q (by omega)
    simp only [nI_lit, r2, g9, gi_KSw0, hc3, gi_MMd, hq2, hq3, ↓reduceIte]
    simp only [↓lt_eq, gi_KS, h4, nI_add, si_KS]
    obtain ⟨g2, h2, v, m2, s2⟩ := S_number (N2 := N2) (c := c) (e := e) hR hT hL g1 hM hg (x := 0) (y := nI 99) (by omega) (by decide)
    rw [m2, bd2_some]
    rcases s2 with ⟨s2, b1, ⟨b2, -, -⟩, -, b5, b6, b7⟩ | ⟨s2, b1⟩
    · obtain ⟨g3, h3, u, m3, s3⟩ := S_number (N2 := N2) (c := c) (e := e) hR hT hL g1 hM b1 (x := 1) (y := nI 20) (by omega) (by decide)
      rw [m3, bd2_some]
      rcases s3 with ⟨s3, d1, ⟨d2, -, -⟩, -, d5, d6, d7⟩ | ⟨s3, d1⟩
      · obtain ⟨g4, h4', z, m4, s4⟩ := S_number (N2 := N2) (c := c) (e := e) hR hT hL g1 hM d1 (x := 0) (y := nI 9999) (by omega) (by decide)
        rw [m4, bd2_some]
        rcases s4 with ⟨s4, i1, ⟨i2, -, -⟩, -, i5, i6, i7⟩ | ⟨s4, i1⟩
        · obtain ⟨c', f1, f2⟩ := C_addLine (N := sd N (B + 6) g4) hY hQ q (x := nI v) (y := nI u) (z := nI z)
          rw [← KS_w, ← KS_w] at f1
          have hN4 : NB f g4 h4' := hn.keep (by rw [i5, d5, b5, upd_n (by omega)]) (by rw [i6, d6, b6]) (by rw [i7, d7, b7])
          have R := S_tenants (h0 := h0) (P := P) (ops := ops) E (l := nL e) (a0 := a) q (T - (a + 1 + 1 + 1 + 1)) (a + 1 + 1 + 1 + 1) 0 FU FU g4 h4' (upd (upd (upd e (48 + 7 * nL e) (nI v)) (49 + 7 * nL e) (nI u)) (50 + 7 * nL e) (nI z)) c' (Nat.le_refl _) (by unfold FU; omega) (by unfold FU; omega) (by omega) (by omega) f2 (by rw [upd_n (by omega), upd_n (by omega), upd_n (by omega)]; exact hD.L) hN4 i1
          have cl : (bd2 (f_X4_readsNumber Y (B + 6) (nI 0) (nI 99) (KS N B c (upd g 4 (nI (a + 1))))) fun r6 N7 => if r6 = nI 0 then some (nI 0, N7) else bd2 (f_X4_readsNumber Y (B + 6) (nI 1) (nI 20) N7) fun r10 N11 => if r10 = nI 0 then some (nI 0, N11) else bd2 (f_X4_readsNumber Y (B + 6) (nI 0) (nI 9999) N11) fun r14 N15 => if r14 = nI 0 then some (nI 0, N15) else if xb (gi N15 (B + 97) 3) 8 then bd (f_X6_addLine Y (B + 97) (gi N7 (B + 6) 5) (gi N11 (B + 6) 5) (gi N15 (B + 6) 5) N15) fun N26 => f_X4_readsLine_111 Y FU (B + 6) (gp Y (gp Y (B + 97) 2) (gi N15 (B + 97) 3).toNatClampNeg) (nI 1) (nI 0) N26 else none) = f_X4_readsLine_111 Y FU (B + 6) (B + 97 + (14 + 2 * nL e)) (nI 1) (nI 0) (KS N B c' g4) := by
            simp (disch := omega) only [s2, s3, s4, bd2_some, nz10, ↓reduceIte, gi_KSw0, hc3, xb_nI, hY.g2, nI_clamp, gi_KS, b2, d2, i2, f1, bd_some, hY.l]
          have ml : f_X8_isGood Y m (MM N2 m h4' e) = nI 1 := i1.good
          rw [cl]
          simp (disch := omega) only [ml, nz10, ↓reduceIte, gi_MMd, hD.L, pk_mul, nI_add, Nat.add_zero, k9, xb_nI, nI_clamp, si_MMd, upd_n, ↓lt_eq]
          rw [show 48 + 7 * nL e + 1 = 49 + 7 * nL e by omega, show 48 + 7 * nL e + 2 = 50 + 7 * nL e by omega]
          exact R
        · refine ⟨c, g4, h4', e, ?_, Or.inr ⟨?_, i1⟩⟩
          · rw [i1.bad]
            simp only [nI01, ↓reduceIte]
          · simp only [s2, bd2_some, nz10, ↓reduceIte, s3, s4, nI01]
      · refine ⟨c, g3, h3, e, ?_, Or.inr ⟨?_, d1⟩⟩
        · rw [M_number_bad d1.1, bd2_some, d1.bad]
          simp only [nI01, ↓reduceIte]
        · simp only [s2, bd2_some, nz10, ↓reduceIte, s3, nI01]
    · refine ⟨c, g2, h2, e, ?_, Or.inr ⟨?_, b1⟩⟩
      · rw [M_number_bad b1.1, bd2_some, M_number_bad b1.1, bd2_some, b1.bad]
        simp only [nI01, ↓reduceIte]
      · simp only [s2, bd2_some, nI01, ↓reduceIte]
  · have q6 : nL e = 8 := by omega
    have kf := K_fails (c := c) (g := g) hR hT ha h4 (x := -nI 5)
    have hf9 : HF h0 (upd (upd h 5 (-nI 5)) 6 (nI (tS t L a))) := (hg.2.2.2.2.2.2.up (by omega) _).up (by omega) _
    have hb : RB h0 (upd (upd g 0 (-nI 5)) 1 (nI (tS t L a))) (upd (upd h 5 (-nI 5)) 6 (nI (tS t L a))) := hg.fail mc5 (x := -nI 5) (y := nI (tS t L a)) (by rw [upd_n (by omega), upd_s]) (upd_s _ _ _) (by rw [upd_n (by omega), upd_s]) (upd_s _ _ _) hf9
    refine ⟨c, _, _, e, ?_, Or.inr ⟨?_, hb⟩⟩
    · have e6 : e 2 = nI 8 := by rw [hD.L, q6]
      simp only [nI_lit, g9, gi_MMd, e6, ↓reduceIte]
      rw [hg.rep, bd_some, M_number_bad hb.1, bd2_some, M_number_bad hb.1, bd2_some, M_number_bad hb.1, bd2_some, hb.bad]
      simp only [nI01, ↓reduceIte]
    · have hq3 : (nI (nL e) < nI 8) = False := by rw [q6]; exact pLTf (by omega) (by omega)
      simp only [nI_lit, r2, gi_KSw0, hc3, hq3, ↓reduceIte, kf, bd2_some, xz0]
end LN8
