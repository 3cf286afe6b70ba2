/-! RANDOM REQUESTS -/
section RL
variable {SS SV : Nat → Nat} {Y0 Y Y' : XY} {N0 N N' : XN} {B bf rnd q q0 H L R k n b : Nat} {pl : Nat → Nat} {T : Nat → Nat} {e : XD} {bs : List Nat} {ts : List (Nat × Nat)} {ops0 : List Int32} {d0 : XD} {k0 p0 : Nat} {hd0 : Nat → XD}
theorem Q_473 {K406 : XY → Nat → Nat → Nat → Nat → Nat → Int32 → Nat → Nat → XN → Option (Nat × XY × Nat × XN)} (h : BST SS SV Y0 N0 Y q N B bf rnd q0 pl H L R T e bs ts 0 ops0 d0 k0 p0 hd0) (hR : R < 9) (hl : bs.length ≤ 600) {N1 : XN} (hN1 : ∀ c, c ≠ q → ∀ j, (c ≠ rnd ∨ j ≠ 0) → gi N1 c j = gi N c j) {l x s0 : Nat} (hx0 : gi N1 q 0 = nI l) (hl9 : l < L) (hx : gi N1 q 1 = nI x) (hx9 : x ≤ 999) (hs0 : 0 < s0 ∧ s0 ≤ 99) (hk : k + 2 ≤ 400 ∧ n + 67 ≤ 40000) {v4 : Int32} :
    ∃ Y' N' e' bs' ts' pl', f_L_randomDesk_473 SS SV K406 (yK Y q 1 8) (q + 1) B bf rnd (pl 0) v4 (nI s0) rnd 1 2 q q (pl 87) (pl 0) k n N1 = K406 Y' (q + 3) B bf rnd (pl 0) (v4 + -nI 1) (k + 2) (n + 67) N' ∧ BST SS SV Y0 N0 Y' (q + 3) N' B bf rnd q0 pl' H L (R + 1) T e' bs' ts' 0 ops0 d0 k0 p0 hd0 ∧ bs'.length ≤ bs.length + 21 ∧ pl' 0 = pl 0 := by
  obtain ⟨hD, ⟨hq0, hqq, h70⟩, hE, ⟨hT, hX, hB, P, c, hQ⟩, hI⟩ := h
  have hm := hD.m
  have hY := hD.y
  have h6 := hY.H6
  have l3 := hD.l3
  have lt := fun g (hg : us H L L R g) => us_lt hm hY hg
  obtain ⟨⟨c1, c2, c3, c4⟩, ⟨b1, b2, b3, b4⟩, ⟨r1, r2, r3⟩, -, -⟩ := id hE
  have u0 : us H L L R 0 := by unfold us; omega
  have u87 : us H L L R 87 := by unfold us; omega
  have l0 := lt 0 u0
  have l87 := lt 87 u87
  have o0 := hq0 0 u0
  have m1 := hm.nx (c := 1) (m := 8)
  have y1 : ∀ c, c < q → (kc (yK Y q 1 8) c = kc Y c ∧ kn (yK Y q 1 8) c = kn Y c) ∧ ∀ j, gr (yK Y q 1 8) c j = gr Y c j := fun c hc => ⟨yK_ne (by omega) (by omega), fun j => yK_gr (by omega) j⟩
  have kr1 : kc (yK Y q 1 8) rnd = 20 := (y1 rnd (by omega)).1.1.trans r1
  obtain ⟨u, w, hu, e1⟩ := D_below (N := N1) kr1 (n := s0) hs0.1 (by omega)
  obtain ⟨N17, hN17⟩ : ∃ M, M = si (si (si (si (si (si (si N1 rnd 0 w) q 2 (nI (1 + u))) q 3 (nI 0)) q 4 (-nI 1)) q 5 (nI 0)) q 6 (-nI 1)) q 7 (nI 0) := ⟨_, rfl⟩
  have a17 : ∀ c, c ≠ q → ∀ j, (c ≠ rnd ∨ j ≠ 0) → gi N17 c j = gi N c j := fun c hc j hj => by
    rw [hN17, gi_si_n (Or.inl hc), gi_si_n (Or.inl hc), gi_si_n (Or.inl hc), gi_si_n (Or.inl hc), gi_si_n (Or.inl hc), gi_si_n (Or.inl hc), gi_si_n (by omega)]
    exact hN1 c hc j hj
  have q17 : gi N17 q 0 = nI l ∧ gi N17 q 1 = nI x ∧ gi N17 q 2 = nI (1 + u) ∧ gi N17 q 3 = nI 0 ∧ gi N17 q 4 = -nI 1 ∧ gi N17 q 5 = nI 0 ∧ gi N17 q 6 = -nI 1 ∧ gi N17 q 7 = nI 0 := by
    rw [hN17]
    refine ⟨?_, ?_, ?_, ?_, ?_, ?_, ?_, gi_si _ _ _ _⟩
    · rw [gi_si_n (Or.inr (by omega)), gi_si_n (Or.inr (by omega)), gi_si_n (Or.inr (by omega)), gi_si_n (Or.inr (by omega)), gi_si_n (Or.inr (by omega)), gi_si_n (Or.inr (by omega)), gi_si_n (Or.inl (by omega))]
      exact hx0
    · rw [gi_si_n (Or.inr (by omega)), gi_si_n (Or.inr (by omega)), gi_si_n (Or.inr (by omega)), gi_si_n (Or.inr (by omega)), gi_si_n (Or.inr (by omega)), gi_si_n (Or.inr (by omega)), gi_si_n (Or.inl (by omega))]
      exact hx
    · rw [gi_si_n (Or.inr (by omega)), gi_si_n (Or.inr (by omega)), gi_si_n (Or.inr (by omega)), gi_si_n (Or.inr (by omega)), gi_si_n (Or.inr (by omega)), gi_si]
    · rw [gi_si_n (Or.inr (by omega)), gi_si_n (Or.inr (by omega)), gi_si_n (Or.inr (by omega)), gi_si_n (Or.inr (by omega)), gi_si]
    · rw [gi_si_n (Or.inr (by omega)), gi_si_n (Or.inr (by omega)), gi_si_n (Or.inr (by omega)), gi_si]
    · rw [gi_si_n (Or.inr (by omega)), gi_si_n (Or.inr (by omega)), gi_si]
    · rw [gi_si_n (Or.inr (by omega)), gi_si]
  obtain ⟨Y21, w1, w2, w3, w4, w5, w6, w7⟩ := D_with9 (N := N17) (a := pl 87) (b := q) (n := R) (r := fun i => pl (24 + i)) m1 ((y1 _ l87).1.1.trans hY.k87) ((y1 _ l87).1.2.trans hY.n87) (kcq rfl) (by omega) (fun i hi => by
    have li := lt (24 + i) (by unfold us; omega)
    exact ⟨((y1 _ l87).2 i).trans (hY.gr' hi), (y1 _ li).1.1.trans (hY.kr hi)⟩)
  have k25 : kc Y21 (pl 0) = 18 := ((w3 _ (by omega)).1.1).trans ((y1 _ l0).1.1.trans hY.k0)
  have gA : gr (sr Y21 (pl 0) 6 (some (q + 1))) (pl 0) 6 = some (q + 1) := gr_sr_s
  have pA := gp_of gA
  have gb : gr (sr Y21 (pl 0) 6 (some (q + 1))) (q + 1) R = some q := (gr_sr_ne (by omega) R).trans w6
  have pb := gp_of gb
  have m25 : MK (sr Y21 (pl 0) 6 (some (q + 1))) (q + 2) := w2
  have kq25 : kc (sr Y21 (pl 0) 6 (some (q + 1))) (q + 2) = 9 ∧ kc (sr Y21 (pl 0) 6 (some (q + 1))) (q + 2 + 1) = 0 := ⟨m25.1, m25.2 _ (Nat.lt_succ_self _)⟩
  have eH : nI (R + 1) - nI 1 = nI R := nI_sub (by omega)
  obtain ⟨Y35, hY35⟩ : ∃ M, M = yK (sr Y21 (pl 0) 6 (some (q + 1))) (q + 2) 1 3 := ⟨_, rfl⟩
  have m35 : MK Y35 (q + 3) := by rw [hY35]; exact m25.nx
  have y35 : ∀ c, c < q + 2 → kc Y35 c = kc Y21 c ∧ kn Y35 c = kn Y21 c := fun c hc => by rw [hY35]; exact yK_ne (by omega) (by omega)
  have g35 : ∀ c j, c < q + 2 → (c ≠ pl 0 ∨ j ≠ 6) → gr Y35 c j = gr Y21 c j := fun c j hc hj => by
    rw [hY35, yK_gr (by omega)]
    rcases hj with hj | hj
    · exact gr_sr_ne hj j
    · exact gr_sr_nf hj
  have kq35 : kc Y35 q = 1 ∧ kn Y35 q = 8 := ⟨(y35 q (by omega)).1.trans ((w3 q (by omega)).1.1.trans (kcq rfl)), (y35 q (by omega)).2.trans ((w3 q (by omega)).1.2.trans (knq rfl))⟩
  have ka35 : kc Y35 (q + 2) = 1 ∧ kn Y35 (q + 2) = 3 := by rw [hY35]; exact ⟨kcq rfl, knq rfl⟩
  have low : ∀ c, c < q → (kc Y35 c = kc Y c ∧ kn Y35 c = kn Y c) ∧ ∀ j, (c ≠ pl 0 ∨ j ≠ 6) → gr Y35 c j = gr Y c j := fun c hc => ⟨⟨(y35 c (by omega)).1.trans ((w3 c (by omega)).1.1.trans (y1 c hc).1.1), (y35 c (by omega)).2.trans ((w3 c (by omega)).1.2.trans (y1 c hc).1.2)⟩, fun j hj => (g35 c j (by omega) hj).trans (((w3 c (by omega)).2 j).trans ((y1 c hc).2 j))⟩
  obtain ⟨N44, hN44⟩ : ∃ M, M = si (si (si (n0 (n0 N17 (q + 1)) (q + 2)) (q + 2) 0 (nI l)) (q + 2) 1 (nI x)) (q + 2) 2 (nI (1 + u)) := ⟨_, rfl⟩
  have a44 : ∀ c j, c < q + 1 → gi N44 c j = gi N17 c j := fun c j hc => by
    rw [hN44, gi_si_n (Or.inl (by omega)), gi_si_n (Or.inl (by omega)), gi_si_n (Or.inl (by omega)), n0_ne (by omega), n0_ne (by omega)]
  have w35 : WT Y → WT Y35 := fun w => by
    rw [hY35]
    exact (((w7 (w.nx hm (by omega))).sr8 (Or.inr (by omega))).nx m25 (by omega))
  have rf : RF rnd q0 Y N Y35 N44 := fun c hc => ⟨(low c (by omega)).1, fun j => (low c (by omega)).2 j (by omega), fun j hj => (a44 c j (by omega)).trans (a17 c (by omega) j hj)⟩
  have hE' := hE.rf rf w35
  have hT' := hT.rf rf ⟨b3, b4, fun z => by rw [z, r1] at b1; omega⟩ r2
  have hI' := hI.rf rf (by omega) r2
  obtain ⟨N47, N50, f1, f2, f3, f4⟩ := W_row (xs := [l, x, 1 + u]) hE' hT' (hE'.cz.2.1.2.2.2.2.2.2.1) ka35 (by omega) (fun j hj => by
    have hj2 : j < 3 := hj
    rcases (by omega : j = 0 ∨ j = 1 ∨ j = 2) with rfl | rfl | rfl
    · refine ⟨?_, show l ≤ 9999 by omega⟩
      rw [hN44, gi_si_n (Or.inr (by omega)), gi_si_n (Or.inr (by omega)), gi_si]; rfl
    · refine ⟨?_, show x ≤ 9999 by omega⟩
      rw [hN44, gi_si_n (Or.inr (by omega)), gi_si]; rfl
    · refine ⟨?_, show 1 + u ≤ 9999 by omega⟩
      rw [hN44, gi_si]; rfl) (show 3 ≤ 8 by omega) (show bs.length + 5 + 5 * 3 ≤ 654 by omega)
  have hW35 := hE'.1.2.2.2
  have hLe : nL e = L := hD.s.2.1
  have hRe : nR e = R := hD.s.2.2.1
  obtain ⟨c', -, hQ'⟩ := C_addReq (N := N) c2.2.2.2.1 hQ (l := l) (k := 1 + u) (x := nI x) (by omega) (by omega) (by omega)
  have ftq : ∀ c j, q0 ≤ c → gi N50 c j = gi N44 c j := fun c j hc => by unfold gi; rw [f4.1 c (by omega) (by omega) (by omega)]
  obtain ⟨N9, hN9⟩ : ∃ N9 : XN, N9 = (fun a j => if a < q then N50.1 a j else N.1 a j, N.2) := ⟨_, rfl⟩
  have n9 : ∀ c, c < q → ∀ j, gi N50 c j = gi N9 c j := fun c hc j => by
    rw [hN9]
    exact (if_pos hc : (if c < q then N50.1 c j else N.1 c j) = _).symm
  have hD9 : DK Y q N9 pl H L R T [] e := hD.sameN (fun g hg j => by
    have lg := lt g hg
    have og := hq0 g hg
    rw [← n9 _ lg, ftq _ j og, a44 _ j (by omega)]
    exact a17 _ (by omega) j (Or.inl (by omega)))
  have hD' : DK Y35 (q + 3) N50 (plG pl (24 + R) 87 q (q + 1)) H L (R + 1) T [] (sPut e (nI l) (nI x) (nI (1 + u))) := (hD9.addR (b := q) (A := q + 1) m35 (by omega) (by omega) (by omega) (by omega) hl9 (by omega) (fun c hc => ⟨(low c hc).1, (low c hc).2, fun j => n9 c hc j⟩) kq35 ⟨(y35 _ (by omega)).1.trans w4.1, (y35 _ (by omega)).2.trans w4.2⟩ (by rw [hY35, yK_gr (by omega)]; exact gA) (fun i hi => (g35 _ i (by omega) (Or.inl (by omega))).trans (w5 i hi)) (by rw [hY35, yK_gr (by omega)]; exact gb) (by
    obtain ⟨z0, z1, z2, z3, z4, z5, z6, z7⟩ := q17
    exact ⟨(ftq q 0 hqq).trans ((a44 q 0 (by omega)).trans z0), (ftq q 1 hqq).trans ((a44 q 1 (by omega)).trans z1), (ftq q 2 hqq).trans ((a44 q 2 (by omega)).trans z2), (ftq q 3 hqq).trans ((a44 q 3 (by omega)).trans z3), (ftq q 4 hqq).trans ((a44 q 4 (by omega)).trans z4), (ftq q 5 hqq).trans ((a44 q 5 (by omega)).trans z5), (ftq q 6 hqq).trans ((a44 q 6 (by omega)).trans z6), (ftq q 7 hqq).trans ((a44 q 7 (by omega)).trans z7)⟩) w35).1
  refine ⟨Y35, N50, _, _, _, _, ?_, ⟨hD', ⟨fun g hg => ?_, by omega, (by rw [show plG pl (24 + R) 87 q (q + 1) 0 = pl 0 from by unfold plG; rw [if_neg (by omega), if_neg (by omega)]]; exact ((low _ l0).2 7 (Or.inr (by omega))).trans h70)⟩, hE'.ft f4, ⟨f3, LX_more hX (LX_stmt (i := 3) (by omega) (xs := [l, x, 1 + u]) (fun z hz => ?_)), hB.step (Or.inr (Or.inr (Or.inl ⟨l, x, 1 + u, rfl, by omega, by omega, hx9, by omega, rfl, rfl⟩))), P, c', hQ'⟩, hI'.ft f4 b3⟩, ?_, ?_⟩
  · unfold f_L_randomDesk_473
    have kq1 : kc (yK Y q 1 8) q = 1 ∧ kn (yK Y q 1 8) q = 8 := ⟨kcq rfl, knq rfl⟩
    have bk1 : k ≤ 400 ∧ n ≤ 40000 := ⟨by omega, by omega⟩
    have bk2 : k + 1 ≤ 400 ∧ n + 64 ≤ 40000 := ⟨by omega, by omega⟩
    have bk3 : k + 1 + 1 ≤ 400 ∧ n + 64 + 3 ≤ 40000 := ⟨by omega, by omega⟩
    have k25' : kc (sr Y21 (pl 0) 6 (some (q + 1))) (pl 0) = 18 := k25
    have kA25 : kc (sr Y21 (pl 0) 6 (some (q + 1))) (q + 1) = 8 := w4.1
    have nA25 : kn (sr Y21 (pl 0) 6 (some (q + 1))) (q + 1) = R + 1 := w4.2
    have g36 : gi (n0 (n0 N17 (q + 1)) (q + 2)) q 0 = nI l := by rw [n0_ne (by omega), n0_ne (by omega)]; exact q17.1
    have g41 : gi (si (n0 (n0 N17 (q + 1)) (q + 2)) (q + 2) 0 (nI l)) q 1 = nI x := by rw [gi_si_n (Or.inl (by omega)), n0_ne (by omega), n0_ne (by omega)]; exact q17.2.1
    have g42 : gi (si (si (n0 (n0 N17 (q + 1)) (q + 2)) (q + 2) 0 (nI l)) (q + 2) 1 (nI x)) q 2 = nI (1 + u) := by rw [gi_si_n (Or.inl (by omega)), gi_si_n (Or.inl (by omega)), n0_ne (by omega), n0_ne (by omega)]; exact q17.2.2.1
    simp (disch := omega) only [↓ck, ↓lt_eq, nI_lit, nI_clamp, nI_add, xb_nI, ofN, ↓reduceIte, pLEt, pLEf, pLTt, pLTf, pEQf, pML, pMG, pMf, pMg, ↓bd_ite, ↓bd2_ite, ↓bd3_ite, ↓bd4_ite, Option.isSome_some, Option.getD_some, kr1, eq_true bk1, e1, kq1.1, kq1.2, ← hN17, eq_true bk2, w1, k25, k25', gA, pA, kA25, nA25, eH, gb, pb, eq_true kq25, eq_true bk3, ← hY35, kq35.1, kq35.2, ka35.1, ka35.2, g36, g41, g42, ← hN44, ↓ckW_t hW35, f1, f2]
  · by_cases e9 : g = 24 + R
    · rw [show plG pl (24 + R) 87 q (q + 1) g = q from by unfold plG; rw [if_pos e9]]; exact hqq
    · by_cases e8 : g = 87
      · rw [show plG pl (24 + R) 87 q (q + 1) g = q + 1 from by unfold plG; rw [if_neg e9, if_pos e8]]; omega
      · rw [show plG pl (24 + R) 87 q (q + 1) g = pl g from by unfold plG; rw [if_neg e9, if_neg e8]]
        exact hq0 g (by unfold us at hg ⊢; omega)
  · simp only [List.mem_cons, List.not_mem_nil, or_false] at hz
    omega
  · have nl := nums_len [l, x, 1 + u]
    have e5 : [l, x, 1 + u].length = 3 := rfl
    have e7 : (wB 3).length = 5 := rfl
    rw [List.length_append, List.length_append, List.length_append]
    rw [e5] at nl
    show bs.length + ((wB 3).length + ((nums [l, x, 1 + u]).length + 1)) ≤ bs.length + 21
    omega
  · unfold plG
    rw [if_neg (by omega), if_neg (by omega)]
theorem Q_450 {K406 : XY → Nat → Nat → Nat → Nat → Nat → Int32 → Nat → Nat → XN → Option (Nat × XY × Nat × XN)} (h : BST SS SV Y0 N0 Y q N B bf rnd q0 pl H L R T e bs ts 0 ops0 d0 k0 p0 hd0) (hR : R < 9) (hl : bs.length ≤ 600) {N1 : XN} (hN1 : ∀ c, c ≠ q → ∀ j, (c ≠ rnd ∨ j ≠ 0) → gi N1 c j = gi N c j) {l s0 : Nat} (hx0 : gi N1 q 0 = nI l) (hl9 : l < L) (hs0 : 0 < s0 ∧ s0 ≤ 60) (hk : k + 2 ≤ 400 ∧ n + 67 ≤ 40000) {v4 : Int32} :
    ∃ Y' N' e' bs' ts' pl', f_L_randomDesk_450 SS SV K406 (yK Y q 1 8) (q + 1) B bf rnd (pl 0) v4 (nI s0) rnd 1 q q (pl 87) (pl 0) k n N1 = K406 Y' (q + 3) B bf rnd (pl 0) (v4 + -nI 1) (k + 2) (n + 67) N' ∧ BST SS SV Y0 N0 Y' (q + 3) N' B bf rnd q0 pl' H L (R + 1) T e' bs' ts' 0 ops0 d0 k0 p0 hd0 ∧ bs'.length ≤ bs.length + 21 ∧ pl' 0 = pl 0 := by
  have hm := h.1.m
  have hE := h.2.2.1
  have hqq := h.2.1.2
  obtain ⟨r1, r2, r3⟩ := hE.2.2.1
  have kr1 : kc (yK Y q 1 8) rnd = 20 := (yK_ne (by omega) (by omega)).1.trans r1
  have kq1 : kc (yK Y q 1 8) q = 1 ∧ kn (yK Y q 1 8) q = 8 := ⟨kcq rfl, knq rfl⟩
  obtain ⟨x, w, hx, e1⟩ := D_below (N := N1) kr1 (n := s0) hs0.1 (by omega)
  obtain ⟨y, w', hy, e2⟩ := D_below (N := si (si N1 rnd 0 w) q 1 (nI x)) kr1 (n := 3) (by omega) (by omega)
  have bk1 : k ≤ 400 ∧ n ≤ 40000 := ⟨by omega, by omega⟩
  have go := fun (t : Nat) (ht : 0 < t ∧ t ≤ 99) => Q_473 (K406 := K406) (v4 := v4) (k := k) (n := n) h hR hl (N1 := si (si (si N1 rnd 0 w) q 1 (nI x)) rnd 0 w') (fun c hc j hj => by
      rw [gi_si_n (by omega), gi_si_n (Or.inl hc), gi_si_n (by omega)]
      exact hN1 c hc j hj) (l := l) (x := x) (by rw [gi_si_n (Or.inl (by omega)), gi_si_n (Or.inr (by omega)), gi_si_n (Or.inl (by omega))]; exact hx0) hl9 (by rw [gi_si_n (Or.inl (by omega)), gi_si]) (by omega) (s0 := t) ht hk
  by_cases cv : nI y = nI 0
  · obtain ⟨Y', N', e', bs', ts', pl', g1, g2⟩ := go 99 (by omega)
    refine ⟨Y', N', e', bs', ts', pl', ?_, g2⟩
    unfold f_L_randomDesk_450
    simp (disch := omega) only [↓ck, ↓lt_eq, nI_lit, nI_clamp, xb_nI, ↓reduceIte, pLEt, pLEf, pLTt, pLTf, pEQf, pML, pMG, pMf, pMg, ↓bd_ite, ↓bd2_ite, ↓bd3_ite, ↓bd4_ite, Option.isSome_some, Option.getD_some, kr1, eq_true bk1, e1, kq1.1, kq1.2, e2, eq_true cv]
    exact g1
  · obtain ⟨Y', N', e', bs', ts', pl', g1, g2⟩ := go 20 (by omega)
    refine ⟨Y', N', e', bs', ts', pl', ?_, g2⟩
    unfold f_L_randomDesk_450
    simp (disch := omega) only [↓ck, ↓lt_eq, nI_lit, nI_clamp, xb_nI, ↓reduceIte, pLEt, pLEf, pLTt, pLTf, pEQf, pML, pMG, pMf, pMg, ↓bd_ite, ↓bd2_ite, ↓bd3_ite, ↓bd4_ite, Option.isSome_some, Option.getD_some, kr1, eq_true bk1, e1, kq1.1, kq1.2, e2, eq_false cv]
    exact g1
/-- the requests' loop, up to its end -/
theorem Q_406 : ∀ (z D9 : Nat) {Y : XY} {q : Nat} {N : XN} {pl : Nat → Nat} {R : Nat} {e : XD} {bs : List Nat} {ts : List (Nat × Nat)} {k n : Nat}, BST SS SV Y0 N0 Y q N B bf rnd q0 pl H L R T e bs ts 0 ops0 d0 k0 p0 hd0 → R + z ≤ 9 → (L = 0 → z = 0) → z < D9 → bs.length + 21 * z ≤ 600 → k + 3 * z ≤ 400 → n + 75 * z ≤ 40000 →
    ∃ Y' q' N' R' e' bs' ts' pl' D8, f_L_randomDesk_406 SS SV D9 Y q B bf rnd (pl 0) (nI z) k n N = f_L_randomDesk_406 SS SV (D8 + 1) Y' q' B bf rnd (pl 0) (nI 0) (k + 3 * z) (n + 75 * z) N' ∧ BST SS SV Y0 N0 Y' q' N' B bf rnd q0 pl' H L R' T e' bs' ts' 0 ops0 d0 k0 p0 hd0 ∧ bs'.length ≤ bs.length + 21 * z ∧ pl' 0 = pl 0 ∧ R' ≤ 9 := by
  intro z
  induction z with
  | zero =>
    intro D9 Y q N pl R e bs ts k n h hR hL hD hb hk hn
    obtain ⟨D8, rfl⟩ : ∃ z, D9 = z + 1 := ⟨D9 - 1, by omega⟩
    exact ⟨Y, q, N, R, e, bs, ts, pl, D8, rfl, h, by omega, rfl, by omega⟩
  | succ z ih =>
    intro D9 Y q N pl R e bs ts k n h hR hL hD hb hk hn
    obtain ⟨D8, rfl⟩ : ∃ z, D9 = z + 1 := ⟨D9 - 1, by omega⟩
    have hm := h.1.m
    have hY := h.1.y
    have hE := h.2.2.1
    have hqq := h.2.1.2
    have l3 := h.1.l3
    obtain ⟨r1, r2, r3⟩ := id hE.2.2.1
    have l0 := us_lt hm hY (show us H L L R 0 by unfold us; omega)
    have l85 := us_lt hm hY (show us H L L R 85 by unfold us; omega)
    have kq : kc Y q = 9 ∧ kc Y (q + 1) = 0 := ⟨hm.1, hm.2 _ (Nat.lt_succ_self _)⟩
    have kr1 : kc (yK Y q 1 8) rnd = 20 := (yK_ne (by omega) (by omega)).1.trans r1
    have g4 : gr (yK Y q 1 8) (pl 0) 4 = some (pl 85) := (yK_gr (by omega) 4).trans hY.g4
    have p4 := gp_of g4
    have k85 : kc (yK Y q 1 8) (pl 85) = 8 := (yK_ne (by omega) (by omega)).1.trans hY.k85
    have n85 : kn (yK Y q 1 8) (pl 85) = L := (yK_ne (by omega) (by omega)).2.trans hY.n85
    have kq1 : kc (yK Y q 1 8) q = 1 ∧ kn (yK Y q 1 8) q = 8 := ⟨kcq rfl, knq rfl⟩
    obtain ⟨l, w, hl, e1⟩ := D_below (N := n0 N q) kr1 (n := L) (by omega) (by omega)
    obtain ⟨u, w', hu, e2⟩ := D_below (N := si (si (n0 N q) rnd 0 w) q 0 (nI l)) kr1 (n := 4) (by omega) (by omega)
    have bk1 : k + 1 ≤ 400 ∧ n + 8 ≤ 40000 := ⟨by omega, by omega⟩
    have ev : nI (z + 1) + -nI 1 = nI z := i32_addneg (by omega)
    have go : ∀ t, 0 < t ∧ t ≤ 60 → ∃ Y' q' N' R' e' bs' ts' pl' D7, f_L_randomDesk_450 SS SV (f_L_randomDesk_406 SS SV D8) (yK Y q 1 8) (q + 1) B bf rnd (pl 0) (nI (z + 1)) (nI t) rnd 1 q q (pl 87) (pl 0) (k + 1) (n + 8) (si (si (si (n0 N q) rnd 0 w) q 0 (nI l)) rnd 0 w') = f_L_randomDesk_406 SS SV (D7 + 1) Y' q' B bf rnd (pl 0) (nI 0) (k + 3 * (z + 1)) (n + 75 * (z + 1)) N' ∧ BST SS SV Y0 N0 Y' q' N' B bf rnd q0 pl' H L R' T e' bs' ts' 0 ops0 d0 k0 p0 hd0 ∧ bs'.length ≤ bs.length + 21 * (z + 1) ∧ pl' 0 = pl 0 ∧ R' ≤ 9 := fun t ht => by
      obtain ⟨Y1, N1, e1', bs1, ts1, pl1, f1, f2, f3, f4⟩ := Q_450 (K406 := f_L_randomDesk_406 SS SV D8) (v4 := nI (z + 1)) (k := k + 1) (n := n + 8) h (by omega) (by omega) (N1 := si (si (si (n0 N q) rnd 0 w) q 0 (nI l)) rnd 0 w') (fun c hc j hj => by
        rw [gi_si_n (by omega), gi_si_n (Or.inl hc), gi_si_n (by omega)]
        exact n0_ne hc j) (l := l) (by rw [gi_si_n (Or.inl (by omega)), gi_si]) hl ht ⟨by omega, by omega⟩
      rw [ev] at f1
      obtain ⟨Y', q', N', R', e', bs', ts', pl', D7, g1, g2, g3, g4, g5⟩ := ih D8 f2 (by omega) (by omega) (by omega) (by omega) (k := k + 1 + 2) (n := n + 8 + 67) (by omega) (by omega)
      rw [f4, show k + 1 + 2 + 3 * z = k + 3 * (z + 1) by omega, show n + 8 + 67 + 75 * z = n + 75 * (z + 1) by omega] at g1
      exact ⟨Y', q', N', R', e', bs', ts', pl', D7, f1.trans g1, g2, by omega, g4.trans f4, g5⟩
    by_cases cv : nI u = nI 0
    · obtain ⟨Y', q', N', R', e', bs', ts', pl', D7, g1, g2⟩ := go 60 (by omega)
      refine ⟨Y', q', N', R', e', bs', ts', pl', D7, ?_, g2⟩
      rw [f_L_randomDesk_406]
      simp (disch := omega) only [↓ck, ↓lt_eq, bd_some, bd2_some, ofN, nI_lit, nI_clamp, nI_add, xb_nI, hY.k0, hY.g2, hY.g3, hY.g4, hY.g5, hY.g6, hY.p2, hY.p3, hY.p4, hY.p5, hY.p6, hY.k1, hY.n1, hY.k84, hY.n84, hY.k85, hY.n85, hY.k86, hY.n86, hY.k87, hY.n87, hY.gh, hY.ph, hY.kh, hY.nh, hY.gl, hY.pl', hY.kl, hY.nl, hY.gt, hY.pt, hY.kt, hY.nt, hY.gr', hY.pr, hY.kr, hY.nr, ↓reduceIte, pLEt, pLEf, pLTt, pLTf, pEQf, pML, pMG, pMf, pMg, ↓bd_ite, ↓bd2_ite, ↓bd3_ite, ↓bd4_ite, Option.isSome_some, Option.getD_some, eq_true kq, eq_true bk1, g4, p4, k85, n85, kr1, e1, kq1.1, kq1.2, e2, eq_true cv]
      exact g1
    · obtain ⟨Y', q', N', R', e', bs', ts', pl', D7, g1, g2⟩ := go 8 (by omega)
      refine ⟨Y', q', N', R', e', bs', ts', pl', D7, ?_, g2⟩
      rw [f_L_randomDesk_406]
      simp (disch := omega) only [↓ck, ↓lt_eq, bd_some, bd2_some, ofN, nI_lit, nI_clamp, nI_add, xb_nI, hY.k0, hY.g2, hY.g3, hY.g4, hY.g5, hY.g6, hY.p2, hY.p3, hY.p4, hY.p5, hY.p6, hY.k1, hY.n1, hY.k84, hY.n84, hY.k85, hY.n85, hY.k86, hY.n86, hY.k87, hY.n87, hY.gh, hY.ph, hY.kh, hY.nh, hY.gl, hY.pl', hY.kl, hY.nl, hY.gt, hY.pt, hY.kt, hY.nt, hY.gr', hY.pr, hY.kr, hY.nr, ↓reduceIte, pLEt, pLEf, pLTt, pLTf, pEQf, pML, pMG, pMf, pMg, ↓bd_ite, ↓bd2_ite, ↓bd3_ite, ↓bd4_ite, Option.isSome_some, Option.getD_some, eq_true kq, eq_true bk1, g4, p4, k85, n85, kr1, e1, kq1.1, kq1.2, e2, eq_false cv]
      exact g1
end RL
