/-! RANDOM HANDLERS -/
theorem WT.w2 {Z Y' : XY} {a : Nat} (h : WT Z) (e2 : Y'.2 = Z.2) (eg : ∀ c j, c ≠ a → gr Y' c j = gr Z c j) (ka : kc Z a = 8) : WT Y' :=
  h.keep (fun b hb => ⟨(kc_2 e2 b).symm, (kn_2 e2 b).symm, fun j => eg b j (fun e => by rw [kc_2 e2 b, e, ka] at hb; omega)⟩) (fun b _ => ⟨kc_2 e2 b, kn_2 e2 b⟩)
theorem D_with9 {Y : XY} {N : XN} {a b q n : Nat} {r : Nat → Nat} (hm : MK Y q) (ka : kc Y a = 8) (na : kn Y a = n) (kb : kc Y b = 1) (hn : n ≤ 62) (hr : ∀ i, i < n → gr Y a i = some (r i) ∧ kc Y (r i) = 1) : ∃ Y', f_L_with Y q a b N = some (q, Y', q + 1, n0 N q) ∧ MK Y' (q + 1) ∧ (∀ c, c < q → (kc Y' c = kc Y c ∧ kn Y' c = kn Y c) ∧ ∀ j, gr Y' c j = gr Y c j) ∧ (kc Y' q = 8 ∧ kn Y' q = n + 1) ∧ (∀ j, j < n → gr Y' q j = some (r j)) ∧ gr Y' q n = some b ∧ (WT Y → WT Y') := by
  obtain ⟨Y', e1, e2, e3, e4, e5⟩ := D_with (N := N) hm ka na kb hn hr
  have m1 := hm.nx (c := 8) (m := n + 1)
  refine ⟨Y', e1, ⟨(kc_2 e2 _).trans m1.1, fun a ha => (kc_2 e2 _).trans (m1.2 a ha)⟩, fun c hc => ⟨⟨(kc_2 e2 _).trans (yK_ne (by omega) (by omega)).1, (kn_2 e2 _).trans (yK_ne (by omega) (by omega)).2⟩, fun j => e3 c j (by omega)⟩, ⟨(kc_2 e2 _).trans (kcq rfl), (kn_2 e2 _).trans (knq rfl)⟩, e4, e5, fun w => (w.nx hm (c := 8) (m := n + 1) (by omega)).w2 (a := q) e2 (fun c j hc => (e3 c j hc).trans (yK_gr hc j).symm) (kcq rfl)⟩
section HL
variable {SS SV : Nat → Nat} {Y0 Y Y' : XY} {N0 N N' : XN} {B bf rnd q q0 H L R k n b : Nat} {pl : Nat → Nat} {T : Nat → Nat} {e : XD} {bs : List Nat} {ts : List (Nat × Nat)} {ops0 : List Int32} {d0 : XD} {k0 p0 : Nat} {hd0 : Nat → XD}
/-- a row of numbers, written -/
theorem W_row (h : EV9 SS SV Y0 N0 Y N B bf rnd q0) (hT : TXT N B bf bs) {s a : Nat} {ws xs : List Nat} (hs : CT Y N B s ws) (ha : kc Y a = 1 ∧ kn Y a = xs.length) (haq : q0 ≤ a) (hx : ∀ j, j < xs.length → gi N a j = nI (gd xs j) ∧ gd xs j ≤ 9999) (hlx : xs.length ≤ 8) (hl : bs.length + ws.length + 5 * xs.length ≤ 654) : ∃ N2 N3, f_L_writeNumbers SS SV Y B bf s a N = some N2 ∧ f_L_write Y B bf (SS 16) N2 = some N3 ∧ TXT N3 B bf (bs ++ (ws ++ (nums xs ++ [59]))) ∧ FT B bf N N3 := by
  obtain ⟨⟨c1, c2, c3, c4⟩, ⟨b1, b2, b3, b4⟩, -, -, -⟩ := id h
  obtain ⟨N2, f1, f2, f3⟩ := T_numbers (SS := SS) (SV := SV) c2.1.1 ⟨b1, b2⟩ c1 (by omega) ha (by omega) hx hlx (by omega) hT hs.1 h.cz.2.1.1.1
  have nl := nums_len xs
  obtain ⟨N3, g1, g2, g3⟩ := T_write c2.1.1 ⟨b1, b2⟩ c1 (by omega) (by rw [List.length_append, List.length_append]; show bs.length + (ws.length + (nums xs).length) + 1 ≤ 660; omega) f2 (h.ft f3).cz.2.1.2.2.2.1.1
  rw [List.append_assoc, List.append_assoc] at g2
  exact ⟨N2, N3, f1, g1, g2, f3.trans g3⟩
/-- the desk so far, the text so far -/
def BST (SS SV : Nat → Nat) (Y0 : XY) (N0 : XN) (Y : XY) (q : Nat) (N : XN) (B bf rnd q0 : Nat) (pl : Nat → Nat) (H L R : Nat) (T : Nat → Nat) (e : XD) (bs : List Nat) (ts : List (Nat × Nat)) (b : Nat) (ops0 : List Int32) (d0 : XD) (k0 p0 : Nat) (hd0 : Nat → XD) : Prop := DK Y q N pl H L R T [] e ∧ ((∀ g, us H L L R g → q0 ≤ pl g) ∧ q0 ≤ q ∧ gr Y (pl 0) 7 = none) ∧ EV9 SS SV Y0 N0 Y N B bf rnd q0 ∧ (TXT N B bf bs ∧ LXR bs ((10, 0) :: (3, 0) :: ts) ∧ BLD ts e b ∧ ∃ P c, QD P [] e c) ∧ IK B N ops0 d0 k0 p0 hd0
theorem LX_more {us : List (Nat × Nat)} {cs : List Nat} (h : LXR bs ((10, 0) :: (3, 0) :: ts)) (h2 : LXR cs us) : LXR (bs ++ cs) ((10, 0) :: (3, 0) :: (ts ++ us)) := h.app h2
theorem H_77 {K22 : XY → Nat → Nat → Nat → Nat → Nat → Int32 → Nat → Nat → XN → Option (Nat × XY × Nat × XN)} (h : BST SS SV Y0 N0 Y q N B bf rnd q0 pl H 0 0 T e bs ts 0 ops0 d0 k0 p0 hd0) (hH : H < 4) (hl : bs.length ≤ 600) {N1 : XN} (hN1 : ∀ c, c ≠ q → ∀ j, (c ≠ rnd ∨ j ≠ 0) → gi N1 c j = gi N c j) {x s0 : Nat} (hx : gi N1 q 0 = nI x) (hx9 : x ≤ 9999) (hs0 : 0 < s0 ∧ s0 ≤ 20) (hk : k + 2 ≤ 400 ∧ n + 66 ≤ 40000) {v4 : Int32} :
    ∃ Y' N' e' bs' ts' pl', f_L_randomDesk_77 SS SV K22 (yK Y q 1 6) (q + 1) B bf rnd (pl 0) v4 (nI s0) rnd 1 1 q q (pl 84) (pl 0) k n N1 = K22 Y' (q + 3) B bf rnd (pl 0) (v4 + -nI 1) (k + 2) (n + 66) N' ∧ BST SS SV Y0 N0 Y' (q + 3) N' B bf rnd q0 pl' (H + 1) 0 0 T e' bs' ts' 0 ops0 d0 k0 p0 hd0 ∧ bs'.length ≤ bs.length + 18 ∧ pl' 0 = pl 0 := by
  obtain ⟨hD, ⟨hq0, hqq, h70⟩, hE, ⟨hT, hX, hB, P, c, hQ⟩, hI⟩ := h
  have hm := hD.m
  have hY := hD.y
  have lt := fun g (hg : us H 0 0 0 g) => us_lt hm hY hg
  obtain ⟨⟨c1, c2, c3, c4⟩, ⟨b1, b2, b3, b4⟩, ⟨r1, r2, r3⟩, -, -⟩ := id hE
  have u0 : us H 0 0 0 0 := by unfold us; omega
  have u84 : us H 0 0 0 84 := by unfold us; omega
  have l0 := lt 0 u0
  have l84 := lt 84 u84
  have o0 := hq0 0 u0
  have m1 := hm.nx (c := 1) (m := 6)
  have y1 : ∀ c, c < q → (kc (yK Y q 1 6) c = kc Y c ∧ kn (yK Y q 1 6) c = kn Y c) ∧ ∀ j, gr (yK Y q 1 6) c j = gr Y c j := fun c hc => ⟨yK_ne (by omega) (by omega), fun j => yK_gr (by omega) j⟩
  have kr1 : kc (yK Y q 1 6) rnd = 20 := (y1 rnd (by omega)).1.1.trans r1
  obtain ⟨u, w, hu, e1⟩ := D_below (N := N1) kr1 (n := s0) hs0.1 (by omega)
  obtain ⟨N17, hN17⟩ : ∃ M, M = si (si (si (si (si (si N1 rnd 0 w) q 1 (nI (1 + u))) q 2 (nI 0)) q 3 (nI 0)) q 4 (nI 0)) q 5 (nI 0) := ⟨_, rfl⟩
  have a17 : ∀ c, c ≠ q → ∀ j, (c ≠ rnd ∨ j ≠ 0) → gi N17 c j = gi N c j := fun c hc j hj => by
    rw [hN17, gi_si_n (Or.inl hc), gi_si_n (Or.inl hc), gi_si_n (Or.inl hc), gi_si_n (Or.inl hc), gi_si_n (Or.inl hc), gi_si_n (by omega)]
    exact hN1 c hc j hj
  have q17 : gi N17 q 0 = nI x ∧ gi N17 q 1 = nI (1 + u) ∧ gi N17 q 2 = nI 0 ∧ gi N17 q 3 = nI 0 ∧ gi N17 q 4 = nI 0 ∧ gi N17 q 5 = nI 0 := by
    rw [hN17]
    refine ⟨?_, ?_, ?_, ?_, ?_, gi_si _ _ _ _⟩
    · rw [gi_si_n (Or.inr (by omega)), gi_si_n (Or.inr (by omega)), gi_si_n (Or.inr (by omega)), gi_si_n (Or.inr (by omega)), gi_si_n (Or.inr (by omega)), gi_si_n (Or.inl (by omega))]
      exact hx
    · rw [gi_si_n (Or.inr (by omega)), gi_si_n (Or.inr (by omega)), gi_si_n (Or.inr (by omega)), gi_si_n (Or.inr (by omega)), gi_si]
    · rw [gi_si_n (Or.inr (by omega)), gi_si_n (Or.inr (by omega)), gi_si_n (Or.inr (by omega)), gi_si]
    · rw [gi_si_n (Or.inr (by omega)), gi_si_n (Or.inr (by omega)), gi_si]
    · rw [gi_si_n (Or.inr (by omega)), gi_si]
  obtain ⟨Y21, w1, w2, w3, w4, w5, w6, w7⟩ := D_with9 (N := N17) (a := pl 84) (b := q) (n := H) (r := fun i => pl (2 + i)) m1 ((y1 _ l84).1.1.trans hY.k84) ((y1 _ l84).1.2.trans hY.n84) (kcq rfl) (by omega) (fun i hi => by
    have li := lt (2 + i) (by unfold us; omega)
    exact ⟨((y1 _ l84).2 i).trans (hY.gh hi), (y1 _ li).1.1.trans (hY.kh hi)⟩)
  have k25 : kc Y21 (pl 0) = 18 := ((w3 _ (by omega)).1.1).trans ((y1 _ l0).1.1.trans hY.k0)
  have gA : gr (sr Y21 (pl 0) 3 (some (q + 1))) (pl 0) 3 = some (q + 1) := gr_sr_s
  have pA := gp_of gA
  have gb : gr (sr Y21 (pl 0) 3 (some (q + 1))) (q + 1) H = some q := (gr_sr_ne (by omega) H).trans w6
  have pb := gp_of gb
  have m25 : MK (sr Y21 (pl 0) 3 (some (q + 1))) (q + 2) := w2
  have kq25 : kc (sr Y21 (pl 0) 3 (some (q + 1))) (q + 2) = 9 ∧ kc (sr Y21 (pl 0) 3 (some (q + 1))) (q + 2 + 1) = 0 := ⟨m25.1, m25.2 _ (Nat.lt_succ_self _)⟩
  have eH : nI (H + 1) - nI 1 = nI H := nI_sub (by omega)
  obtain ⟨Y35, hY35⟩ : ∃ M, M = yK (sr Y21 (pl 0) 3 (some (q + 1))) (q + 2) 1 2 := ⟨_, rfl⟩
  have m35 : MK Y35 (q + 3) := by rw [hY35]; exact m25.nx
  have y35 : ∀ c, c < q + 2 → kc Y35 c = kc Y21 c ∧ kn Y35 c = kn Y21 c := fun c hc => by rw [hY35]; exact yK_ne (by omega) (by omega)
  have g35 : ∀ c j, c < q + 2 → (c ≠ pl 0 ∨ j ≠ 3) → gr Y35 c j = gr Y21 c j := fun c j hc hj => by
    rw [hY35, yK_gr (by omega)]
    rcases hj with hj | hj
    · exact gr_sr_ne hj j
    · exact gr_sr_nf hj
  have kq35 : kc Y35 q = 1 ∧ kn Y35 q = 6 := ⟨(y35 q (by omega)).1.trans ((w3 q (by omega)).1.1.trans (kcq rfl)), (y35 q (by omega)).2.trans ((w3 q (by omega)).1.2.trans (knq rfl))⟩
  have ka35 : kc Y35 (q + 2) = 1 ∧ kn Y35 (q + 2) = 2 := by rw [hY35]; exact ⟨kcq rfl, knq rfl⟩
  have low : ∀ c, c < q → (kc Y35 c = kc Y c ∧ kn Y35 c = kn Y c) ∧ ∀ j, (c ≠ pl 0 ∨ j ≠ 3) → gr Y35 c j = gr Y c j := fun c hc => ⟨⟨(y35 c (by omega)).1.trans ((w3 c (by omega)).1.1.trans (y1 c hc).1.1), (y35 c (by omega)).2.trans ((w3 c (by omega)).1.2.trans (y1 c hc).1.2)⟩, fun j hj => (g35 c j (by omega) hj).trans (((w3 c (by omega)).2 j).trans ((y1 c hc).2 j))⟩
  obtain ⟨N44, hN44⟩ : ∃ M, M = si (si (n0 (n0 N17 (q + 1)) (q + 2)) (q + 2) 0 (nI x)) (q + 2) 1 (nI (1 + u)) := ⟨_, rfl⟩
  have a44 : ∀ c j, c < q + 1 → gi N44 c j = gi N17 c j := fun c j hc => by
    rw [hN44, gi_si_n (Or.inl (by omega)), gi_si_n (Or.inl (by omega)), n0_ne (by omega), n0_ne (by omega)]
  have w35 : WT Y → WT Y35 := fun w => by
    rw [hY35]
    exact (((w7 (w.nx hm (by omega))).sr8 (Or.inr (by omega))).nx m25 (by omega))
  have rf : RF rnd q0 Y N Y35 N44 := fun c hc => ⟨(low c (by omega)).1, fun j => (low c (by omega)).2 j (by omega), fun j hj => (a44 c j (by omega)).trans (a17 c (by omega) j hj)⟩
  have hE' := hE.rf rf w35
  have hT' := hT.rf rf ⟨b3, b4, fun z => by rw [z, r1] at b1; omega⟩ r2
  have hI' := hI.rf rf (by omega) r2
  obtain ⟨N47, N50, f1, f2, f3, f4⟩ := W_row (xs := [x, 1 + u]) hE' hT' (hE'.cz.2.1.2.2.1) ka35 (by omega) (fun j hj => by
    have hj2 : j < 2 := hj
    rcases (by omega : j = 0 ∨ j = 1) with rfl | rfl
    · refine ⟨?_, hx9⟩
      rw [hN44, gi_si_n (Or.inr (by omega)), gi_si]; rfl
    · refine ⟨?_, show 1 + u ≤ 9999 by omega⟩
      rw [hN44, gi_si]; rfl) (show 2 ≤ 8 by omega) (show bs.length + 7 + 5 * 2 ≤ 654 by omega)
  have hW35 := hE'.1.2.2.2
  obtain ⟨c', -, hQ'⟩ := C_addHandler (N := N) c2.2.2.2.1 hQ (by rw [hD.s.1]; omega) (x := nI x) (y := nI (1 + u))
  have ftq : ∀ c j, q0 ≤ c → gi N50 c j = gi N44 c j := fun c j hc => by unfold gi; rw [f4.1 c (by omega) (by omega) (by omega)]
  have hD' : DK Y35 (q + 3) N50 (plG pl (2 + H) 84 q (q + 1)) (H + 1) 0 0 T [] (eHd e (nI x) (nI (1 + u))) := hD.addH m35 (by omega) (by omega) (by omega) hH low (fun g hg j => by
    have lg := lt g hg
    have og := hq0 g hg
    rw [ftq _ j og, a44 _ j (by omega)]
    exact a17 _ (by omega) j (Or.inl (by omega))) kq35 ⟨(y35 _ (by omega)).1.trans w4.1, (y35 _ (by omega)).2.trans w4.2⟩ (by rw [hY35, yK_gr (by omega)]; exact gA) (fun i hi => (g35 _ i (by omega) (Or.inl (by omega))).trans (w5 i hi)) (by rw [hY35, yK_gr (by omega)]; exact gb) (by
    obtain ⟨z0, z1, z2, z3, z4, z5⟩ := q17
    exact ⟨(ftq q 0 hqq).trans ((a44 q 0 (by omega)).trans z0), (ftq q 1 hqq).trans ((a44 q 1 (by omega)).trans z1), (ftq q 2 hqq).trans ((a44 q 2 (by omega)).trans z2), (ftq q 3 hqq).trans ((a44 q 3 (by omega)).trans z3), (ftq q 4 hqq).trans ((a44 q 4 (by omega)).trans z4), (ftq q 5 hqq).trans ((a44 q 5 (by omega)).trans z5)⟩) hQ.2.2.2.1 hQ'.1
  refine ⟨Y35, N50, _, _, _, _, ?_, ⟨hD', ⟨fun g hg => ?_, by omega, (by rw [show plG pl (2 + H) 84 q (q + 1) 0 = pl 0 from by unfold plG; rw [if_neg (by omega), if_neg (by omega)]]; exact ((low _ l0).2 7 (Or.inr (by omega))).trans h70)⟩, hE'.ft f4, ⟨f3, LX_more hX (LX_stmt (i := 1) (by omega) (xs := [x, 1 + u]) (fun z hz => ?_)), hB.step (Or.inl ⟨x, 1 + u, rfl, by rw [hD.s.1]; omega, hx9, by omega, rfl, rfl⟩), P, c', hQ'⟩, hI'.ft f4 b3⟩, ?_, ?_⟩
  · unfold f_L_randomDesk_77
    have kq1 : kc (yK Y q 1 6) q = 1 ∧ kn (yK Y q 1 6) q = 6 := ⟨kcq rfl, knq rfl⟩
    have bk1 : k ≤ 400 ∧ n ≤ 40000 := ⟨by omega, by omega⟩
    have bk2 : k + 1 ≤ 400 ∧ n + 64 ≤ 40000 := ⟨by omega, by omega⟩
    have bk3 : k + 1 + 1 ≤ 400 ∧ n + 64 + 2 ≤ 40000 := ⟨by omega, by omega⟩
    have k25' : kc (sr Y21 (pl 0) 3 (some (q + 1))) (pl 0) = 18 := k25
    have kA25 : kc (sr Y21 (pl 0) 3 (some (q + 1))) (q + 1) = 8 := w4.1
    have nA25 : kn (sr Y21 (pl 0) 3 (some (q + 1))) (q + 1) = H + 1 := w4.2
    have g36 : gi (n0 (n0 N17 (q + 1)) (q + 2)) q 0 = nI x := by rw [n0_ne (by omega), n0_ne (by omega)]; exact q17.1
    have g41 : gi (si (n0 (n0 N17 (q + 1)) (q + 2)) (q + 2) 0 (nI x)) q 1 = nI (1 + u) := by rw [gi_si_n (Or.inl (by omega)), n0_ne (by omega), n0_ne (by omega)]; exact q17.2.1
    simp (disch := omega) only [↓ck, ↓lt_eq, nI_lit, nI_clamp, nI_add, xb_nI, ofN, ↓reduceIte, pLEt, pLEf, pLTt, pLTf, pEQf, pML, pMG, pMf, pMg, ↓bd_ite, ↓bd2_ite, ↓bd3_ite, ↓bd4_ite, Option.isSome_some, Option.getD_some, kr1, eq_true bk1, e1, kq1.1, kq1.2, ← hN17, eq_true bk2, w1, k25, k25', gA, pA, kA25, nA25, eH, gb, pb, eq_true kq25, eq_true bk3, ← hY35, kq35.1, kq35.2, ka35.1, ka35.2, g36, g41, ← hN44, ↓ckW_t hW35, f1, f2]
  · by_cases e9 : g = 2 + H
    · rw [show plG pl (2 + H) 84 q (q + 1) g = q from by unfold plG; rw [if_pos e9]]; exact hqq
    · by_cases e8 : g = 84
      · rw [show plG pl (2 + H) 84 q (q + 1) g = q + 1 from by unfold plG; rw [if_neg e9, if_pos e8]]; omega
      · rw [show plG pl (2 + H) 84 q (q + 1) g = pl g from by unfold plG; rw [if_neg e9, if_neg e8]]
        exact hq0 g (by unfold us at hg ⊢; omega)
  · simp only [List.mem_cons, List.not_mem_nil, or_false] at hz
    omega
  · have nl := nums_len [x, 1 + u]
    have e5 : [x, 1 + u].length = 2 := rfl
    have e7 : (wB 1).length = 7 := rfl
    rw [List.length_append, List.length_append, List.length_append]
    rw [e5] at nl
    show bs.length + ((wB 1).length + ((nums [x, 1 + u]).length + 1)) ≤ bs.length + 18
    omega
  · unfold plG
    rw [if_neg (by omega), if_neg (by omega)]
end HL
