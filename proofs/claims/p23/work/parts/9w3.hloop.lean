/-! RANDOM HANDLERS: the loop -/
section HL2
variable {SS SV : Nat → Nat} {Y0 Y Y' : XY} {N0 N N' : XN} {B bf rnd q q0 H L R k n b : Nat} {pl : Nat → Nat} {T : Nat → Nat} {e : XD} {bs : List Nat} {ts : List (Nat × Nat)} {ops0 : List Int32} {d0 : XD} {k0 p0 : Nat} {hd0 : Nat → XD}
theorem H_55 {K22 : XY → Nat → Nat → Nat → Nat → Nat → Int32 → Nat → Nat → XN → Option (Nat × XY × Nat × XN)} (h : BST SS SV Y0 N0 Y q N B bf rnd q0 pl H 0 0 T e bs ts 0 ops0 d0 k0 p0 hd0) (hH : H < 4) (hl : bs.length ≤ 600) {N1 : XN} (hN1 : ∀ c, c ≠ q → ∀ j, (c ≠ rnd ∨ j ≠ 0) → gi N1 c j = gi N c j) {s0 : Nat} (hs0 : 0 < s0 ∧ s0 ≤ 1000) (hk : k + 2 ≤ 400 ∧ n + 66 ≤ 40000) {v4 : Int32} :
    ∃ Y' N' e' bs' ts' pl', f_L_randomDesk_55 SS SV K22 (yK Y q 1 6) (q + 1) B bf rnd (pl 0) v4 (nI s0) rnd 0 q q (pl 84) (pl 0) k n N1 = K22 Y' (q + 3) B bf rnd (pl 0) (v4 + -nI 1) (k + 2) (n + 66) N' ∧ BST SS SV Y0 N0 Y' (q + 3) N' B bf rnd q0 pl' (H + 1) 0 0 T e' bs' ts' 0 ops0 d0 k0 p0 hd0 ∧ bs'.length ≤ bs.length + 18 ∧ pl' 0 = pl 0 := by
  have hm := h.1.m
  have hE := h.2.2.1
  have hqq := h.2.1.2
  obtain ⟨r1, r2, r3⟩ := hE.2.2.1
  have kr1 : kc (yK Y q 1 6) rnd = 20 := (yK_ne (by omega) (by omega)).1.trans r1
  have kq1 : kc (yK Y q 1 6) q = 1 ∧ kn (yK Y q 1 6) q = 6 := ⟨kcq rfl, knq rfl⟩
  obtain ⟨x, w, hx, e1⟩ := D_below (N := N1) kr1 (n := s0) hs0.1 (by omega)
  obtain ⟨y, w', hy, e2⟩ := D_below (N := si (si N1 rnd 0 w) q 0 (nI x)) kr1 (n := 3) (by omega) (by omega)
  have bk1 : k ≤ 400 ∧ n ≤ 40000 := ⟨by omega, by omega⟩
  have go : ∀ t, 0 < t ∧ t ≤ 20 → ∃ Y' N' e' bs' ts' pl', f_L_randomDesk_77 SS SV K22 (yK Y q 1 6) (q + 1) B bf rnd (pl 0) v4 (nI t) rnd 1 1 q q (pl 84) (pl 0) k n (si (si (si N1 rnd 0 w) q 0 (nI x)) rnd 0 w') = K22 Y' (q + 3) B bf rnd (pl 0) (v4 + -nI 1) (k + 2) (n + 66) N' ∧ BST SS SV Y0 N0 Y' (q + 3) N' B bf rnd q0 pl' (H + 1) 0 0 T e' bs' ts' 0 ops0 d0 k0 p0 hd0 ∧ bs'.length ≤ bs.length + 18 ∧ pl' 0 = pl 0 := fun t ht =>
    H_77 h hH hl (fun c hc j hj => by
      rw [gi_si_n (by omega), gi_si_n (Or.inl hc), gi_si_n (by omega)]
      exact hN1 c hc j hj) (x := x) (by rw [gi_si_n (Or.inl (by omega)), gi_si]) (by omega) ht hk
  by_cases cv : nI y = nI 0
  · obtain ⟨Y', N', e', bs', ts', pl', g1, g2⟩ := go 20 (by omega)
    refine ⟨Y', N', e', bs', ts', pl', ?_, g2⟩
    unfold f_L_randomDesk_55
    simp (disch := omega) only [↓ck, ↓lt_eq, nI_lit, nI_clamp, xb_nI, ↓reduceIte, pLEt, pLEf, pLTt, pLTf, pEQf, pML, pMG, pMf, pMg, ↓bd_ite, ↓bd2_ite, ↓bd3_ite, ↓bd4_ite, Option.isSome_some, Option.getD_some, kr1, eq_true bk1, e1, kq1.1, kq1.2, e2, eq_true cv]
    exact g1
  · obtain ⟨Y', N', e', bs', ts', pl', g1, g2⟩ := go 4 (by omega)
    refine ⟨Y', N', e', bs', ts', pl', ?_, g2⟩
    unfold f_L_randomDesk_55
    simp (disch := omega) only [↓ck, ↓lt_eq, nI_lit, nI_clamp, xb_nI, ↓reduceIte, pLEt, pLEf, pLTt, pLTf, pEQf, pML, pMG, pMf, pMg, ↓bd_ite, ↓bd2_ite, ↓bd3_ite, ↓bd4_ite, Option.isSome_some, Option.getD_some, kr1, eq_true bk1, e1, kq1.1, kq1.2, e2, eq_false cv]
    exact g1
theorem H_22 : ∀ (z D9 : Nat) {Y : XY} {q : Nat} {N : XN} {pl : Nat → Nat} {H : Nat} {e : XD} {bs : List Nat} {ts : List (Nat × Nat)} {k n : Nat}, BST SS SV Y0 N0 Y q N B bf rnd q0 pl H 0 0 T e bs ts 0 ops0 d0 k0 p0 hd0 → H + z ≤ 4 → z < D9 → bs.length + 18 * z ≤ 600 → k + 3 * z ≤ 400 → n + 72 * z ≤ 40000 →
    ∃ Y' q' N' H' e' bs' ts' pl' u, f_L_randomDesk_22 SS SV D9 Y q B bf rnd (pl 0) (nI z) k n N = f_L_randomDesk_169 SS SV FU Y' q' B bf rnd (pl 0) (nI H') (nI u) (k + 3 * z) (n + 72 * z) N' ∧ BST SS SV Y0 N0 Y' q' N' B bf rnd q0 pl' H' 0 0 T e' bs' ts' 0 ops0 d0 k0 p0 hd0 ∧ bs'.length ≤ bs.length + 18 * z ∧ pl' 0 = pl 0 ∧ u < 4 ∧ H' ≤ 4 := by
  intro z
  induction z with
  | zero =>
    intro D9 Y q N pl H e bs ts k n h hH hD hb hk hn
    obtain ⟨D8, rfl⟩ : ∃ z, D9 = z + 1 := ⟨D9 - 1, by omega⟩
    have hY := h.1.y
    have hE := h.2.2.1
    obtain ⟨r1, r2, r3⟩ := id hE.2.2.1
    obtain ⟨u, w, hu, e1⟩ := D_below (N := N) r1 (n := 4) (by omega) (by omega)
    have bk1 : k ≤ 400 ∧ n ≤ 40000 := ⟨by omega, by omega⟩
    have rf : RF rnd q0 Y N Y (si N rnd 0 w) := fun c hc => ⟨⟨rfl, rfl⟩, fun _ => rfl, fun j hj => gi_si_n (by omega)⟩
    obtain ⟨hD, ⟨hq0, hqq⟩, -, ⟨hT, hX, hB⟩, hI⟩ := id h
    have b14 := hE.2.1
    refine ⟨Y, q, si N rnd 0 w, H, e, bs, ts, pl, u, ?_, ⟨hD.sameN (fun g hg j => gi_si_n (Or.inl (by have := hq0 g hg; omega))), ⟨hq0, hqq⟩, hE.rf rf (fun w => w), ⟨hT.rf rf ⟨b14.2.2.1, b14.2.2.2, fun z => by have := b14.1; rw [z, r1] at this; omega⟩ r2, hX, hB⟩, hI.rf rf (by omega) r2⟩, by omega, rfl, hu, by omega⟩
    rw [f_L_randomDesk_22]
    simp (disch := omega) only [↓ck, ↓lt_eq, bd_some, bd2_some, ofN, nI_lit, nI_clamp, nI_add, xb_nI, hY.k0, hY.g2, hY.g3, hY.g4, hY.g5, hY.g6, hY.p2, hY.p3, hY.p4, hY.p5, hY.p6, hY.k1, hY.n1, hY.k84, hY.n84, hY.k85, hY.n85, hY.k86, hY.n86, hY.k87, hY.n87, hY.gh, hY.ph, hY.kh, hY.nh, hY.gl, hY.pl', hY.kl, hY.nl, hY.gt, hY.pt, hY.kt, hY.nt, hY.gr', hY.pr, hY.kr, hY.nr, ↓reduceIte, pLEt, pLEf, pLTt, pLTf, pEQf, pML, pMG, pMf, pMg, ↓bd_ite, ↓bd2_ite, ↓bd3_ite, ↓bd4_ite, Option.isSome_some, Option.getD_some, r1, eq_true bk1, e1, Nat.mul_zero, Nat.add_zero]
  | succ z ih =>
    intro D9 Y q N pl H e bs ts k n h hH hD hb hk hn
    obtain ⟨D8, rfl⟩ : ∃ z, D9 = z + 1 := ⟨D9 - 1, by omega⟩
    have hm := h.1.m
    have hY := h.1.y
    have hE := h.2.2.1
    have hqq := h.2.1.2
    obtain ⟨r1, r2, r3⟩ := id hE.2.2.1
    have kq : kc Y q = 9 ∧ kc Y (q + 1) = 0 := ⟨hm.1, hm.2 _ (Nat.lt_succ_self _)⟩
    have kr1 : kc (yK Y q 1 6) rnd = 20 := (yK_ne (by omega) (by omega)).1.trans r1
    obtain ⟨u, w, hu, e1⟩ := D_below (N := n0 N q) kr1 (n := 3) (by omega) (by omega)
    have bk1 : k + 1 ≤ 400 ∧ n + 6 ≤ 40000 := ⟨by omega, by omega⟩
    have ev : nI (z + 1) + -nI 1 = nI z := i32_addneg (by omega)
    have go : ∀ t, 0 < t ∧ t ≤ 1000 → ∃ Y' q' N' H' e' bs' ts' pl' u, f_L_randomDesk_55 SS SV (f_L_randomDesk_22 SS SV D8) (yK Y q 1 6) (q + 1) B bf rnd (pl 0) (nI (z + 1)) (nI t) rnd 0 q q (pl 84) (pl 0) (k + 1) (n + 6) (si (n0 N q) rnd 0 w) = f_L_randomDesk_169 SS SV FU Y' q' B bf rnd (pl 0) (nI H') (nI u) (k + 3 * (z + 1)) (n + 72 * (z + 1)) N' ∧ BST SS SV Y0 N0 Y' q' N' B bf rnd q0 pl' H' 0 0 T e' bs' ts' 0 ops0 d0 k0 p0 hd0 ∧ bs'.length ≤ bs.length + 18 * (z + 1) ∧ pl' 0 = pl 0 ∧ u < 4 ∧ H' ≤ 4 := fun t ht => by
      obtain ⟨Y1, N1, e1', bs1, ts1, pl1, f1, f2, f3, f4⟩ := H_55 (K22 := f_L_randomDesk_22 SS SV D8) (v4 := nI (z + 1)) (k := k + 1) (n := n + 6) h (by omega) (by omega) (N1 := si (n0 N q) rnd 0 w) (fun c hc j hj => (gi_si_n (by omega)).trans (n0_ne hc j)) ht ⟨by omega, by omega⟩
      rw [ev] at f1
      obtain ⟨Y', q', N', H', e', bs', ts', pl', u, g1, g2, g3, g4, g5, g6⟩ := ih D8 f2 (by omega) (by omega) (by omega) (k := k + 1 + 2) (n := n + 6 + 66) (by omega) (by omega)
      rw [f4, show k + 1 + 2 + 3 * z = k + 3 * (z + 1) by omega, show n + 6 + 66 + 72 * z = n + 72 * (z + 1) by omega] at g1
      exact ⟨Y', q', N', H', e', bs', ts', pl', u, f1.trans g1, g2, by omega, g4.trans f4, g5, g6⟩
    by_cases cv : nI u = nI 0
    · obtain ⟨Y', q', N', H', e', bs', ts', pl', u', g1, g2⟩ := go 1000 (by omega)
      refine ⟨Y', q', N', H', e', bs', ts', pl', u', ?_, g2⟩
      rw [f_L_randomDesk_22]
      simp (disch := omega) only [↓ck, ↓lt_eq, bd_some, bd2_some, ofN, nI_lit, nI_clamp, nI_add, xb_nI, hY.k0, hY.g2, hY.g3, hY.g4, hY.g5, hY.g6, hY.p2, hY.p3, hY.p4, hY.p5, hY.p6, hY.k1, hY.n1, hY.k84, hY.n84, hY.k85, hY.n85, hY.k86, hY.n86, hY.k87, hY.n87, hY.gh, hY.ph, hY.kh, hY.nh, hY.gl, hY.pl', hY.kl, hY.nl, hY.gt, hY.pt, hY.kt, hY.nt, hY.gr', hY.pr, hY.kr, hY.nr, ↓reduceIte, pLEt, pLEf, pLTt, pLTf, pEQf, pML, pMG, pMf, pMg, ↓bd_ite, ↓bd2_ite, ↓bd3_ite, ↓bd4_ite, Option.isSome_some, Option.getD_some, eq_true kq, eq_true bk1, kr1, e1, eq_true cv]
      exact g1
    · obtain ⟨Y', q', N', H', e', bs', ts', pl', u', g1, g2⟩ := go 30 (by omega)
      refine ⟨Y', q', N', H', e', bs', ts', pl', u', ?_, g2⟩
      rw [f_L_randomDesk_22]
      simp (disch := omega) only [↓ck, ↓lt_eq, bd_some, bd2_some, ofN, nI_lit, nI_clamp, nI_add, xb_nI, hY.k0, hY.g2, hY.g3, hY.g4, hY.g5, hY.g6, hY.p2, hY.p3, hY.p4, hY.p5, hY.p6, hY.k1, hY.n1, hY.k84, hY.n84, hY.k85, hY.n85, hY.k86, hY.n86, hY.k87, hY.n87, hY.gh, hY.ph, hY.kh, hY.nh, hY.gl, hY.pl', hY.kl, hY.nl, hY.gt, hY.pt, hY.kt, hY.nt, hY.gr', hY.pr, hY.kr, hY.nr, ↓reduceIte, pLEt, pLEf, pLTt, pLTf, pEQf, pML, pMG, pMf, pMg, ↓bd_ite, ↓bd2_ite, ↓bd3_ite, ↓bd4_ite, Option.isSome_some, Option.getD_some, eq_true kq, eq_true bk1, kr1, e1, eq_false cv]
      exact g1
end HL2
