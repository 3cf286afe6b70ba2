/-! BOTH READ A LINE AND ITS TENANTS -/
section LN9
variable {f : Bool} {Y : XY} {N N2 : XN} {B T L m a : Nat} {t : Nat → Nat} {c : Nat → Nat → Int32} {g h h0 e : XD} {P : Nat → Int32} {ops : List Int32}
theorem MM_cm : MM N m h e = sd (sd N m h) (m + 3) e := by
  unfold MM
  exact sd_comm (by omega)
theorem sTP_up2 {v x : Int32} {l : Nat} : sTP (upd e 2 v) l x = sTP e l x := by
  have et : nT (upd e 2 v) l = nT e l := nT_same (upd_n (by omega))
  have key : ∀ c k, sTPF (upd e 2 v) l x k c = sTPF e l x k c := by
    intro c
    induction c with
    | zero => intro k; rfl
    | succ c ih =>
      intro k
      rw [sTPF, sTPF, upd_n (by omega), ih (k + 1)]
  unfold sTP
  rw [et]
  exact key _ _
theorem QD.addT (hQ : QD P ops e c) {x l : Nat} (hx : x < nH e) (hl : l < nL e) (h3 : nT e l < 3) (hn : sTP e l (nI x) = none) : QD P ops (sAddT e x l) (up2 (up2 c (15 + 2 * l) (nT e l) (nI x)) (14 + 2 * l) 4 (nI (nT e l + 1))) := by
  obtain ⟨hD, hC, h0, z1, z2, z3⟩ := hQ
  have h6 := hD.H6
  have h8 := hD.L8
  obtain ⟨a1, a2, a3⟩ := sAddT_at (d := e) x l
  have e1 := a3 1 (by omega) (by omega)
  have e2 := a3 2 (by omega) (by omega)
  have e3 := a3 3 (by omega) (by omega)
  refine ⟨(hD.addT hx hl h3 hn).1, hC.addT hD hl h3, ?_, fun j b1 b2 => ?_, fun j b1 b2 => ?_, fun r hr => ?_⟩
  · rw [a3 _ (by omega) (by omega)]; exact h0
  · rw [nH_same e1] at b1
    rw [a3 _ (by omega) (by omega)]; exact z1 j b1 b2
  · rw [nL_same e2] at b1
    rw [a3 _ (by omega) (by omega)]; exact z2 j b1 b2
  · rw [nR_same e3] at hr
    rw [a3 _ (by omega) (by omega)]; exact z3 r hr
theorem sAddT_up2 {v : Int32} {x l : Nat} : sAddT (upd e 2 v) x l = upd (sAddT e x l) 2 v := by
  have et : nT (upd e 2 v) l = nT e l := nT_same (upd_n (by omega))
  unfold sAddT
  rw [et, upd_com e (i := 2) (by omega), upd_com _ (i := 2) (by omega)]
theorem K_line0 {D p q : Nat} {v : Int32} {M : XN} : f_X4_readsLine_111 Y (D + 1) p q (nI 0) v M = some (nI 0, M) := by
  rw [f_X4_readsLine_111]
  simp only [nI_lit, xz0, nI01, if_true]
  split <;> rfl
/-- the class reads a tenant, with its row's place in the world -/
theorem S_tenants (E : EN Y N N2 B T L m t) {l a0 : Nat} (hl : l < 8) : ∀ (n a v5 D9 D8 : Nat) (g h e : XD) (c : Nat → Nat → Int32), T - a ≤ n → n + 1 < D9 → n < D8 → v5 + 4 ≤ a → a0 < a → QD P ops (upd e 2 (nI (l + 1))) c → e 2 = nI l → NB f g h → RG T L t h0 a g h → OUT f N N2 B T L m t h0 P (fun o => o = ops) a0 (f_X4_readsLine_111 Y D9 (B + 6) (B + 97 + (14 + 2 * l)) (nI 1) (nI v5) (KS N B c g)) (f_X8_readLine_101 Y D8 m (nI l) (nI (48 + 7 * l)) (MM N2 m h e)) := by
  obtain ⟨hR, hT, hL, ⟨g1, g9, k9⟩, hM⟩ := id E
  obtain ⟨r1, r2, r3, r4, r5, hY⟩ := id hR
  have hT7 := hT.2.2.1
  intro n
  induction n with
  | zero =>
    intro a v5 D9 D8 g h e c hn hD9 hD8 hv ha0 hQ he2 hN hg
    obtain ⟨D9, rfl⟩ : ∃ z, D9 = z + 1 := ⟨D9 - 1, by omega⟩
    obtain ⟨D8, rfl⟩ : ∃ z, D8 = z + 1 := ⟨D8 - 1, by omega⟩
    have haT := hg.1
    have e9 : tS t L a = L := by rw [show a = T by omega]; exact hT.2.1
    have kd := S_kind (c := c) hR hT hg
    have k0 : tK t L (tS t L a) = 0 := tK_end.mpr (by omega)
    rw [k0] at kd
    obtain ⟨h1, nx, b1, b2, b3, b4⟩ := S_next (e := e) hL g1 hM hT hg
    have dg := M_isDigit (Y := Y) (N := N2) (m := m) (s := tS t L a) hM (N9 := MM N2 m h1 e)
    rw [if_neg (by omega)] at dg
    refine ⟨c, g, h1, upd e 2 (nI (l + 1)), ?_, Or.inl ⟨?_, ⟨a, ha0, b1⟩, ⟨ops, rfl, hQ⟩, hN.keep rfl b3 b4⟩⟩
    · rw [f_X8_readLine_101]
      simp only [nI_lit, hg.good, nz10, ↓reduceIte]
      rw [nx, bd2_some, dg, bd_some]
      simp only [nI01, ↓reduceIte, g9, lt_eq, gi_MMd, he2, nI_add, si_MMd]
    · rw [f_X4_readsLine_111]
      simp (disch := omega) only [nI_lit, ↓reduceIte, pLEt, pLEf, pLTt, pLTf, pEQf, pML, pMG, pMf, pMg, nz10, kd, bd_some, xz1]
  | succ n ih =>
    intro a v5 D9 D8 g h e c hn hD9 hD8 hv ha0 hQ he2 hN hg
    obtain ⟨D9, rfl⟩ : ∃ z, D9 = z + 1 := ⟨D9 - 1, by omega⟩
    obtain ⟨D8, rfl⟩ : ∃ z, D8 = z + 1 := ⟨D8 - 1, by omega⟩
    have haT := hg.1
    have hD := hQ.1
    have kd := S_kind (c := c) hR hT hg
    obtain ⟨h1, nx, b1, b2, b3, b4⟩ := S_next (e := e) hL g1 hM hT hg
    have dg := M_isDigit (Y := Y) (N := N2) (m := m) (s := tS t L a) hM (N9 := MM N2 m h1 e)
    by_cases q : tK t L (tS t L a) = 2
    · rw [q] at kd
      rw [if_pos (tK_num.mp q)] at dg
      have eL : nL (upd e 2 (nI (l + 1))) = l + 1 := by
        show (upd e 2 (nI (l + 1)) 2).toNatClampNeg = _
        rw [upd_s]; exact nI_clamp (by omega)
      have eH : nH (upd e 2 (nI (l + 1))) = nH e := nH_same (upd_n (by omega))
      have eT : nT (upd e 2 (nI (l + 1))) l = nT e l := nT_same (upd_n (by omega))
      have h6 := hD.H6
      have hH : e 1 = nI (nH e) := by have := hD.H; rw [eH, upd_n (by omega)] at this; exact this
      have hc1 : c 0 1 = nI (nH e) := by rw [hQ.2.1.1.1 1 1 (by unfold Wp; decide), upd_n (by omega)]; exact hH
      obtain ⟨t1, t2, -, -⟩ := hD.ln l (by omega)
      rw [eT, upd_n (by omega)] at t1
      rw [eT] at t2
      have hc4 : c (14 + 2 * l) 4 = nI (nT e l) := by
        have := hQ.2.1.1.2.2.1 l 4 51 (by omega) (by unfold Lp; decide)
        rw [this, upd_n (by omega)]; exact t1
      have yb : (nI (nH e) - nI 1).toInt = (nH e : Int) - 1 := sub1_toInt (by omega)
      obtain ⟨g2, h2, v, m2, s2⟩ := S_number (N2 := N2) (c := c) (e := e) hR hT hL g1 hM b1 (x := 0) (y := nI (nH e) - nI 1) (by omega) (by omega)
      rw [f_X8_readLine_101, f_X4_readsLine_111]
      simp (disch := omega) only [nI_lit, hg.good, nz10, ↓reduceIte, pLEt, pLEf, pLTt, pLTf, pEQf, pML, pMG, pMf, pMg, kd, bd_some, nI01]
      rw [nx, bd2_some, dg, bd_some]
      simp only [nz10, ↓reduceIte, g9]
      rw [gi_MMd, hH, m2, bd2_some]
      rcases s2 with ⟨s2, d1, ⟨d2, -, d4⟩, d8, d5, d6, d7⟩ | ⟨s2, d1⟩
      · have hv9 : v < nH e := by omega
        have cp := C_placeOf (N := sd N (B + 6) g2) hY hQ.2.1.1 (l := l) (h := nI v) (by omega) (by omega) (by rw [eT, upd_n (by omega)]; exact t1) (Nat.le_refl _) (by rw [eT]; exact t2)
        rw [← KS_w, sTP_up2] at cp
        have tp := M_tenantPlace (Y := Y) (N := sd N2 m h2) (d := e) (a := m + 3) (h := nI v) k9 hl t1 t2
        rw [← MM_cm] at tp
        obtain ⟨pi1, -, pi3⟩ := pI_neg (sTP e l (nI v)) (fun k => sTP_lt k)
        have kh : ∀ x : Int32, f_X4_fails Y (B + 6) x (KS N B c (upd g2 4 (nI a))) = some (nI 0, KS N B c (upd (upd (upd g2 4 (nI a)) 0 x) 1 (nI (tS t L a)))) := fun x => K_fails hR hT haT (upd_s _ _ _)
        have hb : ∀ x : Int32, x ≠ nI 0 → RB h0 (upd (upd (upd g2 4 (nI a)) 0 x) 1 (nI (tS t L a))) (upd (upd h2 5 x) 6 (nI (tS t L a))) := fun x hx => d1.fail hx (by rw [upd_n (by omega), upd_s]) (upd_s _ _ _) (by rw [upd_n (by omega), upd_s]) (upd_s _ _ _) ((d1.2.2.2.2.2.2.up (by omega) _).up (by omega) _)
        simp only [d1.good, nz10, ↓reduceIte]
        rw [tp, bd_some]
        by_cases q3 : sTP e l (nI v) = none
        · simp only [eq_true (pi3.mpr q3), ↓reduceIte]
          by_cases q4 : nT e l < 3
          · have IH := ih (a + 1) (v5 + 1) D9 D8 g2 h2 (sAddT e v l) _ (by omega) (by omega) (by omega) (by omega) (by omega) (by rw [← sAddT_up2]; exact hQ.addT (x := v) (l := l) (by rw [eH]; exact hv9) (by omega) (by rw [eT]; exact q4) (by rw [sTP_up2]; exact q3)) (by rw [(sAddT_at (d := e) v l).2.2 2 (by omega) (by omega)]; exact he2) (hN.keep d5 (by rw [d6, b3]) (by rw [d7, b4])) d1
            rw [eT] at IH
            have ck : f_X2_addTenant Y (B + 97 + (14 + 2 * l)) (nI v) (KS N B c g2) = some (KS N B (up2 (up2 c (15 + 2 * l) (nT e l) (nI v)) (14 + 2 * l) 4 (nI (nT e l + 1))) g2) := by
              unfold f_X2_addTenant
              rw [KS_w]
              simp (disch := omega) only [↓lt_eq, bd, bd2, Option.bind_some, nI_lit, nI_clamp, nI_add, xb_nI, if_true, gi_sw, gi_sw0, si_sw, si_sw0, hY.g0, hY.g2, hY.g4, hY.g13, hY.g14, hY.f0, hY.f2, hY.h, hY.l, hY.t, hY.r, ↓reduceIte, pLEt, pLEf, pLTt, pLTf, pEQf, pML, pMG, pMf, pMg, hc4, up2_n]
              rw [← KS_w]
            have ct : f_X4_readsTenant Y (B + 6) (B + 97 + (14 + 2 * l)) (KS N B c g) = some (nI 1, KS N B (up2 (up2 c (15 + 2 * l) (nT e l) (nI v)) (14 + 2 * l) 4 (nI (nT e l + 1))) g2) := by
              unfold f_X4_readsTenant
              simp (disch := omega) only [nI_lit, r2, gi_KSw0, hc1, s2, bd2_some, nz10, ↓reduceIte, gi_KS, d2, cp, bd_some, eq_true (pi1.mpr q3), gi_KSw, hc4, ↓reduceIte, pLEt, pLEf, pLTt, pLTf, pEQf, pML, pMG, pMf, pMg, ck]
            rw [ct, bd2_some]
            have e51 : 51 + 7 * l = 48 + 7 * l + 3 := by omega
            have mk : MM N2 m h2 (sAddT e v l) = MM N2 m h2 (upd (upd e (48 + 7 * l + 4 + nT e l) (nI v)) (48 + 7 * l + 3) (nI (nT e l + 1))) := by
              unfold sAddT
              rw [show 52 + 7 * l + nT e l = 48 + 7 * l + 4 + nT e l by omega, e51]
            rw [e51] at t1
            rw [mk] at IH
            simp (disch := omega) only [↓reduceIte, pLEt, pLEf, pLTt, pLTf, pEQf, pML, pMG, pMf, pMg, nI_add, xb_nI, nI_clamp, gi_MMd, t1, d1.good, nz10, lt_eq, si_MMd, upd_n]
            exact IH
          · have q5 : nT e l = 3 := by omega
            have t13 : e (48 + 7 * l + 3) = nI 3 := by rw [show 48 + 7 * l + 3 = 51 + 7 * l by omega, t1, q5]
            have rp := d1.rep (Y := Y) (N := N2) (m := m) (e := e) (x := -nI 5) (y := nI (tS t L a))
            obtain ⟨D7, rfl⟩ : ∃ z, D9 = z + 1 := ⟨D9 - 1, by omega⟩
            refine ⟨c, _, _, e, ?_, Or.inr ⟨?_, hb (-nI 5) mc5⟩⟩
            · simp (disch := omega) only [nI_add, xb_nI, ↓reduceIte, pLEt, pLEf, pLTt, pLTf, pEQf, pML, pMG, pMf, pMg, nI_clamp, gi_MMd, t13, gi_MM, d8, rp, bd_some, (hb (-nI 5) mc5).bad, nI01]
            · have ct : f_X4_readsTenant Y (B + 6) (B + 97 + (14 + 2 * l)) (KS N B c g) = some (nI 0, KS N B c (upd (upd (upd g2 4 (nI a)) 0 (-nI 5)) 1 (nI (tS t L a)))) := by
                unfold f_X4_readsTenant
                simp (disch := omega) only [nI_lit, r2, gi_KSw0, hc1, s2, bd2_some, nz10, ↓reduceIte, gi_KS, d2, cp, bd_some, eq_true (pi1.mpr q3), gi_KSw, hc4, ↓reduceIte, pLEt, pLEf, pLTt, pLTf, pEQf, pML, pMG, pMf, pMg, hg.2.1, si_KS, lt_eq, kh, xz0]
              rw [ct, bd2_some, K_line0]
        · have n1 := fun z => q3 (pi1.mp z)
          have n3 := fun z => q3 (pi3.mp z)
          have rp := d1.rep (Y := Y) (N := N2) (m := m) (e := e) (x := -nI 4) (y := nI (tS t L a))
          obtain ⟨D7, rfl⟩ : ∃ z, D9 = z + 1 := ⟨D9 - 1, by omega⟩
          simp only [eq_false n3, ↓reduceIte]
          refine ⟨c, _, _, e, ?_, Or.inr ⟨?_, hb (-nI 4) mc4⟩⟩
          · simp (disch := omega) only [gi_MM, d8, rp, bd_some, (hb (-nI 4) mc4).bad, nI01, ↓reduceIte]
          · have ct : f_X4_readsTenant Y (B + 6) (B + 97 + (14 + 2 * l)) (KS N B c g) = some (nI 0, KS N B c (upd (upd (upd g2 4 (nI a)) 0 (-nI 4)) 1 (nI (tS t L a)))) := by
              unfold f_X4_readsTenant
              simp (disch := omega) only [nI_lit, r2, gi_KSw0, hc1, s2, bd2_some, nz10, ↓reduceIte, gi_KS, d2, cp, bd_some, eq_false n1, hg.2.1, si_KS, lt_eq, kh, xz0]
            rw [ct, bd2_some, K_line0]
      · obtain ⟨D7, rfl⟩ : ∃ z, D9 = z + 1 := ⟨D9 - 1, by omega⟩
        refine ⟨c, g2, h2, e, ?_, Or.inr ⟨?_, d1⟩⟩
        · simp only [d1.bad, nI01, ↓reduceIte]
        · have ct : f_X4_readsTenant Y (B + 6) (B + 97 + (14 + 2 * l)) (KS N B c g) = some (nI 0, KS N B c g2) := by
            unfold f_X4_readsTenant
            simp only [nI_lit, r2, gi_KSw0, hc1, s2, bd2_some, nI01, ↓reduceIte]
          rw [ct, bd2_some, K_line0]
    · have kd2 : (nI (tK t L (tS t L a)) = nI 2) = False := eq_false (fun z => q ((nI_eq (by have := tK_lt (t := t) (L := L) (s := tS t L a); omega) (by omega)).mp z))
      rw [if_neg (fun z => q (tK_num.mpr z))] at dg
      refine ⟨c, g, h1, upd e 2 (nI (l + 1)), ?_, Or.inl ⟨?_, ⟨a, ha0, b1⟩, ⟨ops, rfl, hQ⟩, hN.keep rfl b3 b4⟩⟩
      · rw [f_X8_readLine_101]
        simp only [nI_lit, hg.good, nz10, ↓reduceIte]
        rw [nx, bd2_some, dg, bd_some]
        simp only [nI01, ↓reduceIte, g9, lt_eq, gi_MMd, he2, nI_add, si_MMd]
      · rw [f_X4_readsLine_111]
        simp (disch := omega) only [nI_lit, ↓reduceIte, pLEt, pLEf, pLTt, pLTf, pEQf, pML, pMG, pMf, pMg, nz10, kd, bd_some, kd2, xz1]
end LN9
