/-! BOTH READ A HANDLER, A REQUEST, A RULE -/
def EN (Y : XY) (N N2 : XN) (B T L m : Nat) (t : Nat → Nat) : Prop := RD Y B ∧ TK9 N B T L t ∧ L ≤ 700 ∧ (gp Y m 1 = m + 1 ∧ gp Y m 9 = m + 3 ∧ kn Y (m + 3) = 1784) ∧ TM N2 m L t
/-- the statements seen once, on both sides; no bracket is open -/
def NB (f : Bool) (g h : XD) : Prop := (∃ x, x < 64 ∧ decide (x < 32) = f ∧ h 16 = nI x ∧ g 6 = nI (16384 * x)) ∧ h 15 = nI 0
/-- how a statement ends: both go on behind it, or both have the same fault -/
def OUT (f : Bool) (N N2 : XN) (B T L m : Nat) (t : Nat → Nat) (h0 : XD) (P : Nat → Int32) (Q : List Int32 → Prop) (a : Nat) (fc : Option (Int32 × XN)) (fm : Option XN) : Prop :=
  ∃ c' g' h' e', fm = some (MM N2 m h' e') ∧ ((fc = some (nI 1, KS N B c' g') ∧ (∃ a', a < a' ∧ RG T L t h0 a' g' h') ∧ (∃ ops, Q ops ∧ QD P ops e' c') ∧ NB f g' h') ∨ (fc = some (nI 0, KS N B c' g') ∧ RB h0 g' h'))
theorem nI01 : (nI 0 = nI 0) = True := eq_true rfl
theorem sub1_toInt {n : Nat} (h : n < 100) : (nI n - nI 1).toInt = (n : Int) - 1 := by
  rw [pk_sub_toInt (by omega) (by omega)]
  rfl
section SM
variable {f : Bool} {Y : XY} {N N2 : XN} {B T L m a : Nat} {t : Nat → Nat} {c : Nat → Nat → Int32} {g h h0 e : XD} {P : Nat → Int32} {ops : List Int32}
theorem gi_KSw {o : Nat} (k : Nat) (ho : o < 90) : gi (KS N B c g) (B + 97 + o) k = c o k := by rw [KS_w, gi_sw _ _ _ _ ho]
theorem gi_KSw0 (k : Nat) : gi (KS N B c g) (B + 97) k = c 0 k := by rw [KS_w, gi_sw0]
theorem si_KSw0 (k : Nat) (v : Int32) : si (KS N B c g) (B + 97) k v = KS N B (up2 c 0 k v) g := by rw [KS_w, si_sw0, ← KS_w]
theorem RG.good (hg : RG T L t h0 a g h) : f_X8_isGood Y m (MM N m h e) = nI 1 := by rw [M_isGood, if_pos hg.2.2.1]
theorem RB.bad (hb : RB h0 g h) : f_X8_isGood Y m (MM N m h e) = nI 0 := by rw [M_isGood, if_neg hb.1]
theorem NB.keep {g' h' : XD} (hn : NB f g h) (e6 : g' 6 = g 6) (e15 : h' 15 = h 15) (e16 : h' 16 = h 16) : NB f g' h' := by
  obtain ⟨⟨x, h1, h0, h2, h3⟩, h4⟩ := hn
  exact ⟨⟨x, h1, h0, by rw [e16]; exact h2, by rw [e6]; exact h3⟩, by rw [e15]; exact h4⟩
/-- a report of the model, where both stood well -/
theorem RG.rep (hg : RG T L t h0 a g h) {x y : Int32} : f_X8_report Y m x y (MM N m h e) = some (MM N m (upd (upd h 5 x) 6 y) e) := by rw [M_report, if_pos hg.2.2.1]
theorem S_handler (E : EN Y N N2 B T L m t) (hQ : QD P ops e c) (hn : NB f g h) (ha : a ≤ T) (h4 : g 4 = nI a) (hg : RG T L t h0 (a + 1) (upd g 4 (nI (a + 1))) h) : OUT f N N2 B T L m t h0 P (fun o => o = ops) a (f_X4_readsHandler Y (B + 6) (KS N B c g)) (f_X8_readHandler Y m (nI (tS t L a)) (MM N2 m h e)) := by
  obtain ⟨hR, hT, hL, ⟨g1, g9, k9⟩, hM⟩ := E
  obtain ⟨r1, r2, r3, r4, r5, hY⟩ := id hR
  have hD := hQ.1
  have h6 := hD.H6
  have hc1 : c 0 1 = nI (nH e) := (hQ.2.1.1.1 1 1 (by unfold Wp; decide)).trans hD.H
  unfold f_X4_readsHandler f_X8_readHandler
  by_cases q : nH e < 6
  · simp (disch := omega) only [↓lt_eq, nI_lit, r2, g9, gi_KSw0, hc1, gi_MMd, hD.H, ↓reduceIte, pLEt, pLEf, pLTt, pLTf, pEQf, pML, pMG, pMf, pMg, gi_KS, h4, nI_add, si_KS]
    obtain ⟨g2, h2, v, m2, s2⟩ := S_number (N2 := N2) (c := c) (e := e) hR hT hL g1 hM hg (x := 0) (y := nI 9999) (by omega) (by decide)
    rcases s2 with ⟨s2, b1, ⟨b2, -, -⟩, -, b5, b6, b7⟩ | ⟨s2, b1⟩
    · obtain ⟨g3, h3, u, m3, s3⟩ := S_number (N2 := N2) (c := c) (e := e) hR hT hL g1 hM b1 (x := 1) (y := nI 20) (by omega) (by decide)
      rcases s3 with ⟨s3, d1, ⟨d2, -, -⟩, -, d5, d6, d7⟩ | ⟨s3, d1⟩
      · obtain ⟨c', f1, f2⟩ := C_addHandler (N := sd N (B + 6) g3) hY hQ q (x := nI v) (y := nI u)
        rw [← KS_w, ← KS_w] at f1
        refine ⟨c', g3, h3, eHd e (nI v) (nI u), ?_, Or.inl ⟨?_, ⟨_, by omega, d1⟩, ⟨ops, rfl, f2⟩, ?_⟩⟩
        · have e13 : 12 + 6 * nH e + 1 = 13 + 6 * nH e := by omega
          simp (disch := omega) only [m2, bd2_some, m3, d1.good, nz10, if_false, g9, gi_MMd, hD.H, pk_mul, nI_add, Nat.add_zero, k9, xb_nI, nI_clamp, if_true, si_MMd, upd_n, ↓lt_eq, nI_lit]
          rw [e13]
          rfl
        · simp only [s2, bd2_some, nz10, if_false, s3, gi_KS, b2, d2, f1, bd_some]
        · exact hn.keep (by rw [d5, b5, upd_n (by omega)]) (by rw [d6, b6]) (by rw [d7, b7])
      · refine ⟨c, g3, h3, e, ?_, Or.inr ⟨?_, d1⟩⟩
        · simp only [m2, bd2_some, m3, d1.bad, nI01, if_true]
        · simp only [s2, bd2_some, nz10, if_false, s3, nI01, if_true]
    · refine ⟨c, g2, h2, e, ?_, Or.inr ⟨?_, b1⟩⟩
      · simp only [m2, bd2_some, M_number_bad b1.1, b1.bad, nI01, if_true]
      · simp only [s2, bd2_some, nI01, if_true]
  · have q6 : nH e = 6 := by omega
    have kf := K_fails (c := c) (g := g) hR hT ha h4 (x := -nI 5)
    have hf9 : HF h0 (upd (upd h 5 (-nI 5)) 6 (nI (tS t L a))) := (hg.2.2.2.2.2.2.up (by omega) _).up (by omega) _
    have hb : RB h0 (upd (upd g 0 (-nI 5)) 1 (nI (tS t L a))) (upd (upd h 5 (-nI 5)) 6 (nI (tS t L a))) := hg.fail mc5 (x := -nI 5) (y := nI (tS t L a)) (by rw [upd_n (by omega), upd_s]) (upd_s _ _ _) (by rw [upd_n (by omega), upd_s]) (upd_s _ _ _) hf9
    refine ⟨c, _, _, e, ?_, Or.inr ⟨?_, hb⟩⟩
    · have e6 : e 1 = nI 6 := by rw [hD.H, q6]
      simp only [nI_lit, g9, gi_MMd, e6, if_true, hg.rep, bd_some, M_number_bad hb.1, bd2_some, hb.bad]
    · simp (disch := omega) only [nI_lit, r2, gi_KSw0, hc1, ↓reduceIte, pLEt, pLEf, pLTt, pLTf, pEQf, pML, pMG, pMf, pMg, kf, bd2_some, xz0, if_true]
theorem S_raise (E : EN Y N N2 B T L m t) (hQ : QD P ops e c) (hn : NB f g h) (ha : a ≤ T) (h4 : g 4 = nI a) (hg : RG T L t h0 (a + 1) (upd g 4 (nI (a + 1))) h) : OUT f N N2 B T L m t h0 P (fun o => o = ops) a (f_X4_readsRaise Y (B + 6) (KS N B c g)) (f_X8_readRequest Y m (nI (tS t L a)) (MM N2 m h e)) := by
  obtain ⟨hR, hT, hL, ⟨g1, g9, k9⟩, hM⟩ := E
  obtain ⟨r1, r2, r3, r4, r5, hY⟩ := id hR
  have hD := hQ.1
  have h8 := hD.L8
  have h60 := hD.R60
  have hc5 : c 0 5 = nI (nR e) := (hQ.2.1.1.1 5 3 (by unfold Wp; decide)).trans hD.R
  have hc3 : c 0 3 = nI (nL e) := (hQ.2.1.1.1 3 2 (by unfold Wp; decide)).trans hD.L
  have yb : (nI (nL e) - nI 1).toInt = (nL e : Int) - 1 := sub1_toInt (by omega)
  unfold f_X4_readsRaise f_X8_readRequest
  by_cases q : nR e < 60
  · simp (disch := omega) only [↓lt_eq, nI_lit, r2, g9, gi_KSw0, hc5, hc3, gi_MMd, hD.R, hD.L, ↓reduceIte, pLEt, pLEf, pLTt, pLTf, pEQf, pML, pMG, pMf, pMg, gi_KS, h4, nI_add, si_KS]
    obtain ⟨g2, h2, v, m2, s2⟩ := S_number (N2 := N2) (c := c) (e := e) hR hT hL g1 hM hg (x := 0) (y := nI (nL e) - nI 1) (by omega) (by omega)
    rcases s2 with ⟨s2, b1, ⟨b2, -, b4⟩, -, b5, b6, b7⟩ | ⟨s2, b1⟩
    · obtain ⟨g3, h3, u, m3, s3⟩ := S_number (N2 := N2) (c := c) (e := e) hR hT hL g1 hM b1 (x := 0) (y := nI 999) (by omega) (by decide)
      rcases s3 with ⟨s3, d1, ⟨d2, -, -⟩, -, d5, d6, d7⟩ | ⟨s3, d1⟩
      · obtain ⟨g4, h4', k, m4, s4⟩ := S_number (N2 := N2) (c := c) (e := e) hR hT hL g1 hM d1 (x := 1) (y := nI 99) (by omega) (by decide)
        rcases s4 with ⟨s4, i1, ⟨i2, -, i4⟩, -, i5, i6, i7⟩ | ⟨s4, i1⟩
        · have i4' : (nI 99 : Int32).toInt = 99 := by decide
          obtain ⟨c', f1, f2⟩ := C_addReq (N := sd N (B + 6) g4) hY hQ (l := v) (k := k) (x := nI u) (by omega) (by omega) q
          rw [← KS_w, ← KS_w] at f1
          have mp := M_putRequest (Y := Y) (N := N2) (d := e) (a := m + 3) k9 hD.R q (l := nI v) (t := nI u) (k := nI k)
          refine ⟨c', g4, h4', sPut e (nI v) (nI u) (nI k), ?_, Or.inl ⟨?_, ⟨_, by omega, i1⟩, ⟨ops, rfl, f2⟩, ?_⟩⟩
          · have mp' : f_X8_putRequest Y (m + 3) (nI v) (nI u) (nI k) (MM N2 m h4' e) = some (MM N2 m h4' (sPut e (nI v) (nI u) (nI k))) := by
              have cm : ∀ f : XD, MM N2 m h4' f = sd (sd N2 m h4') (m + 3) f := fun f => by
                unfold MM
                exact sd_comm (by omega)
              rw [cm, cm]
              exact M_putRequest k9 hD.R q
            simp only [m2, bd2_some, m3, m4, i1.good, nz10, if_false, mp', bd_some]
          · simp only [s2, bd2_some, nz10, if_false, s3, s4, gi_KS, b2, d2, i2, f1, bd_some]
          · exact hn.keep (by rw [i5, d5, b5, upd_n (by omega)]) (by rw [i6, d6, b6]) (by rw [i7, d7, b7])
        · refine ⟨c, g4, h4', e, ?_, Or.inr ⟨?_, i1⟩⟩
          · simp only [m2, bd2_some, m3, m4, i1.bad, nI01, if_true]
          · simp only [s2, bd2_some, nz10, if_false, s3, s4, nI01, if_true]
      · refine ⟨c, g3, h3, e, ?_, Or.inr ⟨?_, d1⟩⟩
        · simp only [m2, bd2_some, m3, M_number_bad d1.1, d1.bad, nI01, if_true]
        · simp only [s2, bd2_some, nz10, if_false, s3, nI01, if_true]
    · refine ⟨c, g2, h2, e, ?_, Or.inr ⟨?_, b1⟩⟩
      · simp only [m2, bd2_some, M_number_bad b1.1, b1.bad, nI01, if_true]
      · simp only [s2, bd2_some, nI01, if_true]
  · have q6 : nR e = 60 := by omega
    have kf := K_fails (c := c) (g := g) hR hT ha h4 (x := -nI 5)
    have hf9 : HF h0 (upd (upd h 5 (-nI 5)) 6 (nI (tS t L a))) := (hg.2.2.2.2.2.2.up (by omega) _).up (by omega) _
    have hb : RB h0 (upd (upd g 0 (-nI 5)) 1 (nI (tS t L a))) (upd (upd h 5 (-nI 5)) 6 (nI (tS t L a))) := hg.fail mc5 (x := -nI 5) (y := nI (tS t L a)) (by rw [upd_n (by omega), upd_s]) (upd_s _ _ _) (by rw [upd_n (by omega), upd_s]) (upd_s _ _ _) hf9
    refine ⟨c, _, _, e, ?_, Or.inr ⟨?_, hb⟩⟩
    · have e6 : e 3 = nI 60 := by rw [hD.R, q6]
      simp only [nI_lit, g9, gi_MMd, e6, if_true, hg.rep, bd_some, M_number_bad hb.1, bd2_some, hb.bad]
    · simp (disch := omega) only [nI_lit, r2, gi_KSw0, hc5, ↓reduceIte, pLEt, pLEf, pLTt, pLTf, pEQf, pML, pMG, pMf, pMg, kf, bd2_some, xz0, if_true]
end SM
