/-! A RANDOM LINE: its row -/
def MST (SS SV : Nat → Nat) (Y0 : XY) (N0 : XN) (Y : XY) (q : Nat) (N : XN) (B bf rnd q0 : Nat) (pl : Nat → Nat) (H L : Nat) (T : Nat → Nat) (e : XD) (bs : List Nat) (ops0 : List Int32) (d0 : XD) (k0 p0 : Nat) (hd0 : Nat → XD) : Prop := (MK Y q ∧ DY Y pl H (L + 1) L 0 T ∧ DN H (L + 1) L 0 T e (fun g k => gi N (pl g) k)) ∧ (nH e = H ∧ nL e = L + 1 ∧ nR e = 0 ∧ (∀ l, l < L → nT e l = T l) ∧ nT e L = 0) ∧ (H ≤ 4 ∧ L < 3) ∧ ((∀ g, us H (L + 1) L 0 g → q0 ≤ pl g) ∧ q0 ≤ q ∧ gr Y (pl 0) 7 = none) ∧ EV9 SS SV Y0 N0 Y N B bf rnd q0 ∧ TXT N B bf bs ∧ (∃ P c, QD P [] e c) ∧ IK B N ops0 d0 k0 p0 hd0
section LL
variable {SS SV : Nat → Nat} {Y0 Y Y' : XY} {N0 N N' : XN} {B bf rnd q q0 H L R k n b : Nat} {pl : Nat → Nat} {T : Nat → Nat} {e : XD} {bs : List Nat} {ts : List (Nat × Nat)} {ops0 : List Int32} {d0 : XD} {k0 p0 : Nat} {hd0 : Nat → XD}
theorem L_246 {K169 : XY → Nat → Nat → Nat → Nat → Nat → Int32 → Int32 → Nat → Nat → XN → Option (Nat × XY × Nat × XN)} (h : BST SS SV Y0 N0 Y q N B bf rnd q0 pl H L 0 T e bs ts b ops0 d0 k0 p0 hd0) (hL : L < 3) (hl : bs.length ≤ 600) {N1 : XN} (hN1 : ∀ c, c ≠ q → ∀ j, (c ≠ rnd ∨ j ≠ 0) → gi N1 c j = gi N c j) {x y s0 : Nat} (hx : gi N1 q 0 = nI x) (hx9 : x ≤ 9999) (hy : gi N1 q 1 = nI y) (hy9 : y ≤ 9999) (hs0 : 0 < s0 ∧ s0 ≤ 1000) (hk : k + 1 ≤ 400 ∧ n + 64 ≤ 40000) {v5 : Int32} :
    ∃ Y' N' pl' z m, f_L_randomDesk_246 SS SV K169 (yK Y q 1 3) (q + 1) B bf rnd (pl 0) (nI H) v5 (nI s0) rnd 2 q q (pl 85) (pl 0) k n N1 = f_L_randomDesk_300 SS SV K169 Y' (q + 2) B bf rnd (pl 0) (nI H) v5 (nI m) (k + 1) (n + 64) N' ∧ MST SS SV Y0 N0 Y' (q + 2) N' B bf rnd q0 pl' H L T (eLn e (nI x) (nI y) (nI z)) (bs ++ (wB 2 ++ nums [x, y, z])) ops0 d0 k0 p0 hd0 ∧ (m ≤ 3 ∧ m ≤ H ∧ z ≤ 9999) ∧ pl' 0 = pl 0 := by
  obtain ⟨hD, ⟨hq0, hqq, h70⟩, hE, ⟨hT, hX, hB, P, c, hQ⟩, hI⟩ := h
  have hm := hD.m
  have hY := hD.y
  have h6 := hY.H6
  have h8 := hY.L8
  have h4 := hD.h4
  have lt := fun g (hg : us H L L 0 g) => us_lt hm hY hg
  obtain ⟨⟨c1, c2, c3, c4⟩, ⟨b1, b2, b3, b4⟩, ⟨r1, r2, r3⟩, -, -⟩ := id hE
  have u0 : us H L L 0 0 := by unfold us; omega
  have u85 : us H L L 0 85 := by unfold us; omega
  have l0 := lt 0 u0
  have l85 := lt 85 u85
  have o0 := hq0 0 u0
  have m1 := hm.nx (c := 1) (m := 3)
  have y1 : ∀ c, c < q → (kc (yK Y q 1 3) c = kc Y c ∧ kn (yK Y q 1 3) c = kn Y c) ∧ ∀ j, gr (yK Y q 1 3) c j = gr Y c j := fun c hc => ⟨yK_ne (by omega) (by omega), fun j => yK_gr (by omega) j⟩
  have kr1 : kc (yK Y q 1 3) rnd = 20 := (y1 rnd (by omega)).1.1.trans r1
  have kq1 : kc (yK Y q 1 3) q = 1 ∧ kn (yK Y q 1 3) q = 3 := ⟨kcq rfl, knq rfl⟩
  obtain ⟨z, w, hz, e1⟩ := D_below (N := N1) kr1 (n := s0) hs0.1 (by omega)
  obtain ⟨N8, hN8⟩ : ∃ M, M = si (si N1 rnd 0 w) q 2 (nI z) := ⟨_, rfl⟩
  have a8 : ∀ c, c ≠ q → ∀ j, (c ≠ rnd ∨ j ≠ 0) → gi N8 c j = gi N c j := fun c hc j hj => by
    rw [hN8, gi_si_n (Or.inl hc), gi_si_n (by omega)]
    exact hN1 c hc j hj
  have q8 : gi N8 q 0 = nI x ∧ gi N8 q 1 = nI y ∧ gi N8 q 2 = nI z := by
    rw [hN8]
    refine ⟨?_, ?_, gi_si _ _ _ _⟩
    · rw [gi_si_n (Or.inr (by omega)), gi_si_n (Or.inl (by omega))]; exact hx
    · rw [gi_si_n (Or.inr (by omega)), gi_si_n (Or.inl (by omega))]; exact hy
  obtain ⟨Y12, w1, w2, w3, w4, w5, w6, w7⟩ := D_with9 (N := N8) (a := pl 85) (b := q) (n := L) (r := fun i => pl (8 + i)) m1 ((y1 _ l85).1.1.trans hY.k85) ((y1 _ l85).1.2.trans hY.n85) (kcq rfl) (by omega) (fun i hi => by
    have li := lt (8 + i) (by unfold us; omega)
    exact ⟨((y1 _ l85).2 i).trans (hY.gl hi), (y1 _ li).1.1.trans (hY.kl hi)⟩)
  have k12 : kc Y12 (pl 0) = 18 := ((w3 _ (by omega)).1.1).trans ((y1 _ l0).1.1.trans hY.k0)
  obtain ⟨Y16, hY16⟩ : ∃ M, M = sr Y12 (pl 0) 4 (some (q + 1)) := ⟨_, rfl⟩
  have gA : gr Y16 (pl 0) 4 = some (q + 1) := by rw [hY16]; exact gr_sr_s
  have pA := gp_of gA
  have gb : gr Y16 (q + 1) L = some q := by rw [hY16]; exact (gr_sr_ne (by omega) L).trans w6
  have pb := gp_of gb
  have m16 : MK Y16 (q + 2) := by rw [hY16]; exact w2
  have kk16 : ∀ c, kc Y16 c = kc Y12 c ∧ kn Y16 c = kn Y12 c := fun c => by rw [hY16]; exact ⟨rfl, rfl⟩
  have g16 : ∀ c j, (c ≠ pl 0 ∨ j ≠ 4) → gr Y16 c j = gr Y12 c j := fun c j hj => by
    rw [hY16]
    rcases hj with hj | hj
    · exact gr_sr_ne hj j
    · exact gr_sr_nf hj
  have low : ∀ c, c < q → (kc Y16 c = kc Y c ∧ kn Y16 c = kn Y c) ∧ ∀ j, (c ≠ pl 0 ∨ j ≠ 4) → gr Y16 c j = gr Y c j := fun c hc => ⟨⟨(kk16 c).1.trans ((w3 c (by omega)).1.1.trans (y1 c hc).1.1), (kk16 c).2.trans ((w3 c (by omega)).1.2.trans (y1 c hc).1.2)⟩, fun j hj => (g16 c j hj).trans (((w3 c (by omega)).2 j).trans ((y1 c hc).2 j))⟩
  have kq16 : kc Y16 q = 1 ∧ kn Y16 q = 3 := ⟨(kk16 q).1.trans ((w3 q (by omega)).1.1.trans (kcq rfl)), (kk16 q).2.trans ((w3 q (by omega)).1.2.trans (knq rfl))⟩
  have eL : nI (L + 1) - nI 1 = nI L := nI_sub (by omega)
  have a14 : ∀ c j, c ≠ q + 1 → gi (n0 N8 (q + 1)) c j = gi N8 c j := fun c j hc => n0_ne hc j
  have w16 : WT Y → WT Y16 := fun w => by
    rw [hY16]
    exact (w7 (w.nx hm (by omega))).sr8 (Or.inr (by omega))
  have rf : RF rnd q0 Y N Y16 (n0 N8 (q + 1)) := fun c hc => ⟨(low c (by omega)).1, fun j => (low c (by omega)).2 j (by omega), fun j hj => (a14 c j (by omega)).trans (a8 c (by omega) j hj)⟩
  have hE' := hE.rf rf w16
  have hT' := hT.rf rf ⟨b3, b4, fun z => by rw [z, r1] at b1; omega⟩ r2
  have hI' := hI.rf rf (by omega) r2
  have hW16 := hE'.1.2.2.2
  obtain ⟨N26, f1, f2, f3⟩ := T_numbers (SS := SS) (SV := SV) (a := q) (xs := [x, y, z]) hE'.1.2.1.1.1 ⟨hE'.2.1.1, hE'.2.1.2.1⟩ hE'.1.1 (by omega) kq16 (by omega) (fun j hj => by
    have hj3 : j < 3 := hj
    rcases (by omega : j = 0 ∨ j = 1 ∨ j = 2) with rfl | rfl | rfl
    · exact ⟨(a14 q 0 (by omega)).trans q8.1, hx9⟩
    · exact ⟨(a14 q 1 (by omega)).trans q8.2.1, hy9⟩
    · exact ⟨(a14 q 2 (by omega)).trans q8.2.2, show z ≤ 9999 by omega⟩) (show 3 ≤ 8 by omega) (show bs.length + 4 + 5 * 3 ≤ 655 by omega) hT' hE'.cz.2.1.2.2.2.2.1.1 hE'.cz.2.1.1.1
  have ftq : ∀ c j, q0 ≤ c → gi N26 c j = gi (n0 N8 (q + 1)) c j := fun c j hc => by unfold gi; rw [f3.1 c (by omega) (by omega) (by omega)]
  have hLe : nL e = L := hD.s.2.1
  obtain ⟨p1, p2, p3, p5, pf⟩ := eLn_at e (nI x) (nI y) (nI z)
  rw [hLe] at p1 p2 p3 p5 pf
  obtain ⟨c', -, hQ'⟩ := C_addLine (N := N) c2.2.2.2.1 hQ (by omega) (x := nI x) (y := nI y) (z := nI z)
  have pl9 : ∀ g, plG pl (8 + L) 85 q (q + 1) g = if g = 8 + L then q else if g = 85 then q + 1 else pl g := fun g => rfl
  have ms : MST SS SV Y0 N0 Y16 (q + 2) N26 B bf rnd q0 (plG pl (8 + L) 85 q (q + 1)) H L T (eLn e (nI x) (nI y) (nI z)) (bs ++ (wB 2 ++ nums [x, y, z])) ops0 d0 k0 p0 hd0 := by
    refine ⟨⟨m16, ?_, ?_⟩, ⟨(nH_same (pf 1 (by omega) (by omega) (by omega) (by omega))).trans hD.s.1, ?_, (nR_same (pf 3 (by omega) (by omega) (by omega) (by omega))).trans hD.s.2.2.1, fun l hl => (nT_same (pf _ (by omega) (by omega) (by omega) (by omega))).trans (hD.s.2.2.2 l hl), ?_⟩, ⟨h4, hL⟩, ⟨fun g hg => ?_, by omega, (by rw [show plG pl (8 + L) 85 q (q + 1) 0 = pl 0 from by unfold plG; rw [if_neg (by omega), if_neg (by omega)]]; exact ((low _ l0).2 7 (Or.inr (by omega))).trans h70)⟩, hE'.ft f3, f2, ⟨P, c', hQ'⟩, hI'.ft f3 b3⟩
    · refine hY.grow2 (b := q) (A := q + 1) (gn := 8 + L) (G := 85) ⟨h6, by omega, h8, by omega⟩ (fun g => by unfold us; omega) (by unfold us; omega) ⟨by unfold pg; (repeat' split) <;> omega, by omega, by omega, by omega, by unfold kg; (repeat' split) <;> omega⟩ (fun g hg hne => ?_) (fun g hg => ⟨by have := lt g hg; omega, by have := lt g hg; omega⟩) (by omega) (fun g hg _ => (low _ (lt g hg)).1) (fun g j hg hne hj => (low _ (lt g hg)).2 j ?_) ⟨kq16.1, kq16.2.trans ?_⟩ ⟨(kk16 _).1.trans w4.1, (kk16 _).2.trans (w4.2.trans ?_)⟩ gA (fun g hg h0 e => ?_) ?_
      · unfold ng
        unfold us at hg
        (repeat' split) <;> first | rfl | omega
      · rcases hj with hj | hj
        · exact Or.inl (fun e => hj (hY.P _ _ hg u0 e))
        · exact Or.inr hj
      · unfold ng
        (repeat' split) <;> omega
      · unfold ng
        (repeat' split) <;> omega
      · have e2 : 8 ≤ g ∧ g < 16 := by
          unfold us at hg
          unfold pg at e
          (repeat' split at e) <;> omega
        have e3 : og g = g - 8 := by unfold og; (repeat' split) <;> omega
        rw [e3, g16 _ _ (Or.inl (by omega)), w5 _ (by unfold us at hg; omega), show 8 + (g - 8) = g by omega]
      · have e3 : og (8 + L) = L := by unfold og; (repeat' split) <;> omega
        rw [e3]
        exact gb
    · refine hD.n.grow (gn := 8 + L) ⟨h6, by omega, h8, by omega, hD.n.1.2.2.2.2⟩ (fun g j hv => ?_) (fun g j hv hne => ⟨?_, ?_⟩) (fun j hv => ?_)
      · unfold vd at hv ⊢
        omega
      · have hg := vd_us hv
        have e : plG pl (8 + L) 85 q (q + 1) g = pl g := by
          rw [pl9, if_neg hne, if_neg (by unfold vd at hv; omega)]
        show gi N26 (plG pl (8 + L) 85 q (q + 1) g) j = gi N (pl g) j
        have lg := lt g hg
        have og := hq0 g hg
        rw [e, ftq _ j og, a14 _ j (by omega)]
        exact a8 _ (by omega) j (Or.inl (by omega))
      · have hv' := hv
        have t3 : g - 16 < L → T (g - 16) ≤ 3 := hD.n.1.2.2.2.2 (g - 16)
        unfold vd at hv'
        refine pf _ ?_ ?_ ?_ ?_ <;> (unfold ixg; (repeat' split) <;> omega)
      · have e : plG pl (8 + L) 85 q (q + 1) (8 + L) = q := if_pos rfl
        have hj6 : j < 3 := by unfold vd at hv; omega
        have ei : ixg (8 + L) j = 48 + 7 * L + j := by unfold ixg; (repeat' split) <;> omega
        show gi N26 (plG pl (8 + L) 85 q (q + 1) (8 + L)) j = _
        rw [e, ei, ftq _ j hqq, a14 _ j (by omega)]
        obtain ⟨v0, v1, v2⟩ := q8
        rcases (by omega : j = 0 ∨ j = 1 ∨ j = 2) with rfl | rfl | rfl
        · exact v0.trans p2.symm
        · rw [show 48 + 7 * L + 1 = 49 + 7 * L by omega]; exact v1.trans p3.symm
        · rw [show 48 + 7 * L + 2 = 50 + 7 * L by omega]; exact v2.trans p5.symm
    · unfold nL
      rw [p1]
      exact nI_clamp (by omega)
    · unfold nT
      rw [pf _ (by omega) (by omega) (by omega) (by omega), hQ.2.2.2.2.1 _ (by omega) (by omega)]
      exact nI_clamp (by omega)
    · rw [pl9]
      by_cases e9 : g = 8 + L
      · rw [if_pos e9]; exact hqq
      · rw [if_neg e9]
        by_cases e8 : g = 85
        · rw [if_pos e8]; omega
        · rw [if_neg e8]
          exact hq0 g (by unfold us at hg ⊢; omega)
  have p00 : plG pl (8 + L) 85 q (q + 1) 0 = pl 0 := by rw [pl9, if_neg (by omega), if_neg (by omega)]
  have bk1 : k ≤ 400 ∧ n ≤ 40000 := ⟨by omega, by omega⟩
  have bk2 : k + 1 ≤ 400 ∧ n + 64 ≤ 40000 := ⟨by omega, by omega⟩
  have k16 : kc Y16 (pl 0) = 18 := (kk16 _).1.trans k12
  have kA16 : kc Y16 (q + 1) = 8 := (kk16 _).1.trans w4.1
  have nA16 : kn Y16 (q + 1) = L + 1 := (kk16 _).2.trans w4.2
  have kr16 := hE'.2.2.1.1
  by_cases c0 : H = 0
  · refine ⟨Y16, N26, _, z, 0, ?_, ms, ⟨by omega, by omega, by omega⟩, p00⟩
    unfold f_L_randomDesk_246
    have cv : (nI H = nI 0) = True := eq_true (by rw [c0])
    simp (disch := omega) only [↓ck, ↓lt_eq, nI_lit, nI_clamp, nI_add, xb_nI, ofN, ↓reduceIte, pLEt, pLEf, pLTt, pLTf, pEQf, pML, pMG, pMf, pMg, ↓bd_ite, ↓bd2_ite, ↓bd3_ite, ↓bd4_ite, Option.isSome_some, Option.getD_some, kr1, eq_true bk1, e1, kq1.1, kq1.2, ← hN8, eq_true bk2, w1, k12, ← hY16, k16, gA, pA, kA16, nA16, eL, gb, pb, ↓ckW_t hW16, f1, cv]
  · have cv : (nI H = nI 0) = False := eq_false (fun q => c0 ((nI_eq (by omega) (by omega)).mp q))
    obtain ⟨mm, hmm, hm3⟩ : ∃ mm, f_J9_min_7cf53 Y16 (nI 3) (nI H) N26 = some (nI mm, N26) ∧ mm ≤ 3 ∧ mm ≤ H := by
      unfold f_J9_min_7cf53
      by_cases c3 : H < 3
      · exact ⟨H, by rw [if_pos (nI_lt c3 (by omega))], by omega, by omega⟩
      · exact ⟨3, by rw [if_neg (nI_nlt (by omega) (by omega))], by omega, by omega⟩
    obtain ⟨m, w', hm', e2⟩ := D_below (N := N26) kr16 (n := mm + 1) (by omega) (by omega)
    have rf2 : RF rnd q0 Y16 N26 Y16 (si N26 rnd 0 w') := fun c hc => ⟨⟨rfl, rfl⟩, fun _ => rfl, fun j hj => gi_si_n (by omega)⟩
    obtain ⟨⟨s1, s2, s3⟩, s4, s5, s6, s7, s8, s9, s10⟩ := ms
    refine ⟨Y16, si N26 rnd 0 w', _, z, m, ?_, ⟨⟨s1, s2, ⟨s3.1, fun g k hv => ?_⟩⟩, s4, s5, s6, s7.rf rf2 (fun w => w), s8.rf rf2 ⟨b3, b4, fun z => by rw [z, r1] at b1; omega⟩ r2, s9, s10.rf rf2 (by omega) r2⟩, ⟨by omega, by omega, by omega⟩, p00⟩
    · unfold f_L_randomDesk_246
      simp (disch := omega) only [↓ck, ↓lt_eq, nI_lit, nI_clamp, nI_add, xb_nI, ofN, ↓reduceIte, pLEt, pLEf, pLTt, pLTf, pEQf, pML, pMG, pMf, pMg, ↓bd_ite, ↓bd2_ite, ↓bd3_ite, ↓bd4_ite, Option.isSome_some, Option.getD_some, kr1, eq_true bk1, e1, kq1.1, kq1.2, ← hN8, eq_true bk2, w1, k12, ← hY16, k16, gA, pA, kA16, nA16, eL, gb, pb, ↓ckW_t hW16, f1, cv, hmm, kr16, e2]
    · have := s3.2 g k hv
      rw [← this]
      have og := s6.1 g (vd_us hv)
      exact gi_si_n (Or.inl (by omega))
end LL
