/-! RANDOM LINES: the loop -/
section LM
variable {SS SV : Nat → Nat} {Y0 Y Y' : XY} {N0 N N' : XN} {B bf rnd q q0 H L R k n b : Nat} {pl : Nat → Nat} {T : Nat → Nat} {e : XD} {bs : List Nat} {ts : List (Nat × Nat)} {ops0 : List Int32} {d0 : XD} {k0 p0 : Nat} {hd0 : Nat → XD}
/-- a line more was made and written -/
def LNX (SS SV : Nat → Nat) (Y0 : XY) (N0 : XN) (B bf rnd q0 : Nat) (pl : Nat → Nat) (H L : Nat) (bs : List Nat) (ops0 : List Int32) (d0 : XD) (k0 p0 : Nat) (hd0 : Nat → XD) (n : Nat) (Y' : XY) (q' : Nat) (N' : XN) (n' : Nat) : Prop := ∃ pl' T' e' bs' ts', BST SS SV Y0 N0 Y' q' N' B bf rnd q0 pl' H (L + 1) 0 T' e' bs' ts' 0 ops0 d0 k0 p0 hd0 ∧ n' ≤ n + 131 ∧ bs'.length ≤ bs.length + 35 ∧ pl' 0 = pl 0
theorem L_246b {K169 : XY → Nat → Nat → Nat → Nat → Nat → Int32 → Int32 → Nat → Nat → XN → Option (Nat × XY × Nat × XN)} (h : BST SS SV Y0 N0 Y q N B bf rnd q0 pl H L 0 T e bs ts 0 ops0 d0 k0 p0 hd0) (hL : L < 3) (hl : bs.length ≤ 590) {N1 : XN} (hN1 : ∀ c, c ≠ q → ∀ j, (c ≠ rnd ∨ j ≠ 0) → gi N1 c j = gi N c j) {x y s0 : Nat} (hx : gi N1 q 0 = nI x) (hx9 : x ≤ 99) (hy : gi N1 q 1 = nI y) (hy9 : 1 ≤ y ∧ y ≤ 20) (hs0 : 0 < s0 ∧ s0 ≤ 1000) (hk : k + 3 ≤ 400 ∧ n + 131 ≤ 40000) {v5 : Int32} :
    ∃ Y' q' N' n', f_L_randomDesk_246 SS SV K169 (yK Y q 1 3) (q + 1) B bf rnd (pl 0) (nI H) v5 (nI s0) rnd 2 q q (pl 85) (pl 0) k n N1 = K169 Y' q' B bf rnd (pl 0) (nI H) (v5 + -nI 1) (k + 3) n' N' ∧ LNX SS SV Y0 N0 B bf rnd q0 pl H L bs ops0 d0 k0 p0 hd0 n Y' q' N' n' := by
  obtain ⟨Y1, N2, pl1, z, m, e1, hM, ⟨hm3, hmH, hz9⟩, p1⟩ := L_246 (K169 := K169) (v5 := v5) h hL (by omega) hN1 hx (by omega) hy (by omega) hs0 (k := k) (n := n) ⟨by omega, by omega⟩
  have hMK := hM.1.1
  have hLe : nL e = L := h.1.s.2.1
  have hE := hM.2.2.2.2.1
  obtain ⟨r1, r2, r3⟩ := id hE.2.2.1
  have hqq := hM.2.2.2.1.2
  have h4 := hM.2.2.1.1
  have kq : kc Y1 (q + 2) = 9 ∧ kc Y1 (q + 2 + 1) = 0 := ⟨hMK.1, hMK.2 _ (Nat.lt_succ_self _)⟩
  have kr4 : kc (yK Y1 (q + 2) 1 m) rnd = 20 := (yK_ne (by omega) (by omega)).1.trans r1
  have bk : k + 1 + 1 ≤ 400 ∧ n + 64 + m ≤ 40000 := ⟨by omega, by omega⟩
  have cm : ¬ nI m < nI 0 ∧ m ≤ 65536 := ⟨nI_nlt (Nat.zero_le _) (by omega), by omega⟩
  have lw : (bs ++ (wB 2 ++ nums [x, y, z])).length ≤ bs.length + 19 := by
    have nl := nums_len [x, y, z]
    have e5 : [x, y, z].length = 3 := rfl
    have e7 : (wB 2).length = 4 := rfl
    rw [List.length_append, List.length_append]
    omega
  -- what the last part gives
  have fin : ∀ (f : Nat) (M : XN), (∀ c, c ≠ q + 2 → ∀ j, (c ≠ rnd ∨ j ≠ 0) → gi M c j = gi N2 c j) → f < 5 → (m = 0 ∨ 0 < H) → ∃ Y' q' N' n', f_L_randomDesk_324 SS SV K169 FU (yK Y1 (q + 2) 1 m) (q + 2 + 1) B bf rnd (pl 0) (nI H) v5 (q + 2) (nI f) (nI 0) (k + 1 + 1) (n + 64 + m) M = K169 Y' q' B bf rnd (pl 0) (nI H) (v5 + -nI 1) (k + 3) n' N' ∧ LNX SS SV Y0 N0 B bf rnd q0 pl H L bs ops0 d0 k0 p0 hd0 n Y' q' N' n' := fun f M hM1 hf hH => by
    obtain ⟨Y', N', pl', xs, f1, f2, f3, f4, f5, f6, f7, ⟨f8, f9, f10⟩, f11, f12⟩ := L_324 (K169 := K169) (v5 := v5) (k := k + 1 + 1) (n := n + 64 + m) hM (by omega) hM1 ⟨hm3, hmH⟩ hf hH ⟨by omega, by omega⟩
    rw [p1] at f1
    have ew : bs ++ (wB 2 ++ nums [x, y, z]) ++ (nums xs ++ [59]) = bs ++ (wB 2 ++ (nums ([x, y, z] ++ xs) ++ [59])) := by
      rw [nums_app [x, y, z] xs, List.append_assoc, List.append_assoc, List.append_assoc]
    rw [ew] at f5
    refine ⟨Y', q + 2 + 2, N', n + 64 + m + 64, f1, pl', _, _, _, _, ⟨f2, ⟨f3, by omega, by rw [f11]; exact f12⟩, f4, ⟨f5, LX_more h.2.2.2.1.2.1 (LX_stmt (i := 2) (by omega) (xs := [x, y, z] ++ xs) (fun w hw => ?_)), h.2.2.2.1.2.2.1.step (Or.inr (Or.inl ⟨x, y, z, xs, rfl, by omega, hx9, hy9, hz9, f9, by rw [hLe]; exact f8, by rw [hLe], rfl⟩)), f6⟩, f7⟩, by omega, ?_, f11.trans p1⟩
    · rcases List.mem_append.mp hw with hw | hw
      · simp only [List.mem_cons, List.not_mem_nil, or_false] at hw
        omega
      · exact f10 w hw
    · have nl := nums_len ([x, y, z] ++ xs)
      have e5 : ([x, y, z] ++ xs).length = 3 + xs.length := by
        rw [List.length_append]; rfl
      have e7 : (wB 2).length = 4 := rfl
      rw [List.length_append, List.length_append, List.length_append]
      show bs.length + ((wB 2).length + ((nums ([x, y, z] ++ xs)).length + 1)) ≤ bs.length + 35
      omega
  rw [e1]
  unfold f_L_randomDesk_300
  by_cases c0 : H = 0
  · obtain ⟨Y', q', N', n', g1, g2⟩ := fin 0 (n0 N2 (q + 2)) (fun c hc j _ => n0_ne hc j) (by omega) (Or.inl (by omega))
    refine ⟨Y', q', N', n', ?_, g2⟩
    have cv : (nI H = nI 0) = True := eq_true (by rw [c0])
    simp (disch := omega) only [↓ck, ↓lt_eq, nI_lit, nI_clamp, ↓reduceIte, pLEt, pLEf, pLTt, pLTf, pEQf, pML, pMG, pMf, pMg, eq_true cm.2, not_false_eq_true, and_self, eq_true kq, eq_true bk, cv]
    exact g1
  · have cv : (nI H = nI 0) = False := eq_false (fun q => c0 ((nI_eq (by omega) (by omega)).mp q))
    obtain ⟨f, w, hf, e2⟩ := D_below (N := n0 N2 (q + 2)) kr4 (n := H) (by omega) (by omega)
    obtain ⟨Y', q', N', n', g1, g2⟩ := fin f (si (n0 N2 (q + 2)) rnd 0 w) (fun c hc j hj => (gi_si_n (by omega)).trans (n0_ne hc j)) (by omega) (Or.inr (by omega))
    refine ⟨Y', q', N', n', ?_, g2⟩
    simp (disch := omega) only [↓ck, ↓lt_eq, nI_lit, nI_clamp, ↓reduceIte, pLEt, pLEf, pLTt, pLTf, pEQf, pML, pMG, pMf, pMg, ↓bd_ite, ↓bd2_ite, ↓bd3_ite, ↓bd4_ite, Option.isSome_some, Option.getD_some, eq_true cm.2, not_false_eq_true, and_self, eq_true kq, eq_true bk, cv, kr4, e2]
    exact g1
theorem L_222 {K169 : XY → Nat → Nat → Nat → Nat → Nat → Int32 → Int32 → Nat → Nat → XN → Option (Nat × XY × Nat × XN)} (h : BST SS SV Y0 N0 Y q N B bf rnd q0 pl H L 0 T e bs ts 0 ops0 d0 k0 p0 hd0) (hL : L < 3) (hl : bs.length ≤ 590) {N1 : XN} (hN1 : ∀ c, c ≠ q → ∀ j, (c ≠ rnd ∨ j ≠ 0) → gi N1 c j = gi N c j) {x s0 : Nat} (hx : gi N1 q 0 = nI x) (hx9 : x ≤ 99) (hs0 : 0 < s0 ∧ s0 ≤ 20) (hk : k + 3 ≤ 400 ∧ n + 131 ≤ 40000) {v5 : Int32} :
    ∃ Y' q' N' n', f_L_randomDesk_222 SS SV K169 (yK Y q 1 3) (q + 1) B bf rnd (pl 0) (nI H) v5 (nI s0) rnd 1 1 q q (pl 85) (pl 0) k n N1 = K169 Y' q' B bf rnd (pl 0) (nI H) (v5 + -nI 1) (k + 3) n' N' ∧ LNX SS SV Y0 N0 B bf rnd q0 pl H L bs ops0 d0 k0 p0 hd0 n Y' q' N' n' := by
  have hE := h.2.2.1
  have hqq := h.2.1.2
  obtain ⟨r1, r2, r3⟩ := hE.2.2.1
  have kr1 : kc (yK Y q 1 3) rnd = 20 := (yK_ne (by omega) (by omega)).1.trans r1
  have kq1 : kc (yK Y q 1 3) q = 1 ∧ kn (yK Y q 1 3) q = 3 := ⟨kcq rfl, knq rfl⟩
  obtain ⟨y, w, hy, e1⟩ := D_below (N := N1) kr1 (n := s0) hs0.1 (by omega)
  obtain ⟨v, w', hv, e2⟩ := D_below (N := si (si N1 rnd 0 w) q 1 (nI (1 + y))) kr1 (n := 2) (by omega) (by omega)
  have bk1 : k ≤ 400 ∧ n ≤ 40000 := ⟨by omega, by omega⟩
  have go := fun (t : Nat) (ht : 0 < t ∧ t ≤ 1000) => L_246b (K169 := K169) (v5 := v5) (k := k) (n := n) h hL hl (N1 := si (si (si N1 rnd 0 w) q 1 (nI (1 + y))) rnd 0 w') (fun c hc j hj => by
      rw [gi_si_n (by omega), gi_si_n (Or.inl hc), gi_si_n (by omega)]
      exact hN1 c hc j hj) (x := x) (by rw [gi_si_n (Or.inl (by omega)), gi_si_n (Or.inr (by omega)), gi_si_n (Or.inl (by omega))]; exact hx) hx9 (y := 1 + y) (by rw [gi_si_n (Or.inl (by omega)), gi_si]) (by omega) (s0 := t) ht hk
  by_cases cv : nI v = nI 0
  · obtain ⟨Y', q', N', n', g1, g2⟩ := go 1000 (by omega)
    refine ⟨Y', q', N', n', ?_, g2⟩
    unfold f_L_randomDesk_222
    simp (disch := omega) only [↓ck, ↓lt_eq, nI_lit, nI_clamp, nI_add, xb_nI, ↓reduceIte, pLEt, pLEf, pLTt, pLTf, pEQf, pML, pMG, pMf, pMg, ↓bd_ite, ↓bd2_ite, ↓bd3_ite, ↓bd4_ite, Option.isSome_some, Option.getD_some, kr1, eq_true bk1, e1, kq1.1, kq1.2, e2, eq_true cv]
    exact g1
  · obtain ⟨Y', q', N', n', g1, g2⟩ := go 30 (by omega)
    refine ⟨Y', q', N', n', ?_, g2⟩
    unfold f_L_randomDesk_222
    simp (disch := omega) only [↓ck, ↓lt_eq, nI_lit, nI_clamp, nI_add, xb_nI, ↓reduceIte, pLEt, pLEf, pLTt, pLTf, pEQf, pML, pMG, pMf, pMg, ↓bd_ite, ↓bd2_ite, ↓bd3_ite, ↓bd4_ite, Option.isSome_some, Option.getD_some, kr1, eq_true bk1, e1, kq1.1, kq1.2, e2, eq_false cv]
    exact g1
theorem L_200 {K169 : XY → Nat → Nat → Nat → Nat → Nat → Int32 → Int32 → Nat → Nat → XN → Option (Nat × XY × Nat × XN)} (h : BST SS SV Y0 N0 Y q N B bf rnd q0 pl H L 0 T e bs ts 0 ops0 d0 k0 p0 hd0) (hL : L < 3) (hl : bs.length ≤ 590) {N1 : XN} (hN1 : ∀ c, c ≠ q → ∀ j, (c ≠ rnd ∨ j ≠ 0) → gi N1 c j = gi N c j) {s0 : Nat} (hs0 : 0 < s0 ∧ s0 ≤ 100) (hk : k + 3 ≤ 400 ∧ n + 131 ≤ 40000) {v5 : Int32} :
    ∃ Y' q' N' n', f_L_randomDesk_200 SS SV K169 (yK Y q 1 3) (q + 1) B bf rnd (pl 0) (nI H) v5 (nI s0) rnd 0 q q (pl 85) (pl 0) k n N1 = K169 Y' q' B bf rnd (pl 0) (nI H) (v5 + -nI 1) (k + 3) n' N' ∧ LNX SS SV Y0 N0 B bf rnd q0 pl H L bs ops0 d0 k0 p0 hd0 n Y' q' N' n' := by
  have hE := h.2.2.1
  have hqq := h.2.1.2
  obtain ⟨r1, r2, r3⟩ := hE.2.2.1
  have kr1 : kc (yK Y q 1 3) rnd = 20 := (yK_ne (by omega) (by omega)).1.trans r1
  have kq1 : kc (yK Y q 1 3) q = 1 ∧ kn (yK Y q 1 3) q = 3 := ⟨kcq rfl, knq rfl⟩
  obtain ⟨x, w, hx, e1⟩ := D_below (N := N1) kr1 (n := s0) hs0.1 (by omega)
  obtain ⟨v, w', hv, e2⟩ := D_below (N := si (si N1 rnd 0 w) q 0 (nI x)) kr1 (n := 2) (by omega) (by omega)
  have bk1 : k ≤ 400 ∧ n ≤ 40000 := ⟨by omega, by omega⟩
  have go := fun (t : Nat) (ht : 0 < t ∧ t ≤ 20) => L_222 (K169 := K169) (v5 := v5) (k := k) (n := n) h hL hl (N1 := si (si (si N1 rnd 0 w) q 0 (nI x)) rnd 0 w') (fun c hc j hj => by
      rw [gi_si_n (by omega), gi_si_n (Or.inl hc), gi_si_n (by omega)]
      exact hN1 c hc j hj) (x := x) (by rw [gi_si_n (Or.inl (by omega)), gi_si]) (by omega) (s0 := t) ht hk
  by_cases cv : nI v = nI 0
  · obtain ⟨Y', q', N', n', g1, g2⟩ := go 20 (by omega)
    refine ⟨Y', q', N', n', ?_, g2⟩
    unfold f_L_randomDesk_200
    simp (disch := omega) only [↓ck, ↓lt_eq, nI_lit, nI_clamp, nI_add, xb_nI, ↓reduceIte, pLEt, pLEf, pLTt, pLTf, pEQf, pML, pMG, pMf, pMg, ↓bd_ite, ↓bd2_ite, ↓bd3_ite, ↓bd4_ite, Option.isSome_some, Option.getD_some, kr1, eq_true bk1, e1, kq1.1, kq1.2, e2, eq_true cv]
    exact g1
  · obtain ⟨Y', q', N', n', g1, g2⟩ := go 3 (by omega)
    refine ⟨Y', q', N', n', ?_, g2⟩
    unfold f_L_randomDesk_200
    simp (disch := omega) only [↓ck, ↓lt_eq, nI_lit, nI_clamp, nI_add, xb_nI, ↓reduceIte, pLEt, pLEf, pLTt, pLTf, pEQf, pML, pMG, pMf, pMg, ↓bd_ite, ↓bd2_ite, ↓bd3_ite, ↓bd4_ite, Option.isSome_some, Option.getD_some, kr1, eq_true bk1, e1, kq1.1, kq1.2, e2, eq_false cv]
    exact g1
theorem L_169 : ∀ (z D9 : Nat) {Y : XY} {q : Nat} {N : XN} {pl : Nat → Nat} {L : Nat} {T : Nat → Nat} {e : XD} {bs : List Nat} {ts : List (Nat × Nat)} {k n : Nat}, BST SS SV Y0 N0 Y q N B bf rnd q0 pl H L 0 T e bs ts 0 ops0 d0 k0 p0 hd0 → L + z ≤ 3 → z < D9 → bs.length + 35 * z ≤ 590 → k + 4 * z ≤ 400 → n + 134 * z ≤ 40000 →
    ∃ Y' q' N' L' T' e' bs' ts' pl' u n', f_L_randomDesk_169 SS SV D9 Y q B bf rnd (pl 0) (nI H) (nI z) k n N = f_L_randomDesk_406 SS SV FU Y' q' B bf rnd (pl 0) (nI u) (k + 4 * z) n' N' ∧ BST SS SV Y0 N0 Y' q' N' B bf rnd q0 pl' H L' 0 T' e' bs' ts' 0 ops0 d0 k0 p0 hd0 ∧ n' ≤ n + 134 * z ∧ bs'.length ≤ bs.length + 35 * z ∧ pl' 0 = pl 0 ∧ (u < 10 ∧ (L' = 0 → u = 0)) ∧ L' ≤ 3 := by
  intro z
  induction z with
  | zero =>
    intro D9 Y q N pl L T e bs ts k n h hL hD hb hk hn
    obtain ⟨D8, rfl⟩ : ∃ z, D9 = z + 1 := ⟨D9 - 1, by omega⟩
    have hY := h.1.y
    have hE := h.2.2.1
    obtain ⟨r1, r2, r3⟩ := id hE.2.2.1
    have bk1 : k ≤ 400 ∧ n ≤ 40000 := ⟨by omega, by omega⟩
    by_cases c0 : L = 0
    · refine ⟨Y, q, N, L, T, e, bs, ts, pl, 0, n, ?_, h, by omega, by omega, rfl, ⟨by omega, fun _ => rfl⟩, by omega⟩
      have cv : (nI L = nI 0) = True := eq_true (by rw [c0])
      rw [f_L_randomDesk_169]
      simp (disch := omega) only [↓ck, ↓lt_eq, bd_some, bd2_some, ofN, nI_lit, nI_clamp, nI_add, xb_nI, hY.k0, hY.g2, hY.g3, hY.g4, hY.g5, hY.g6, hY.p2, hY.p3, hY.p4, hY.p5, hY.p6, hY.k1, hY.n1, hY.k84, hY.n84, hY.k85, hY.n85, hY.k86, hY.n86, hY.k87, hY.n87, hY.gh, hY.ph, hY.kh, hY.nh, hY.gl, hY.pl', hY.kl, hY.nl, hY.gt, hY.pt, hY.kt, hY.nt, hY.gr', hY.pr, hY.kr, hY.nr, ↓reduceIte, pLEt, pLEf, pLTt, pLTf, pEQf, pML, pMG, pMf, pMg, cv, Nat.mul_zero, Nat.add_zero]
    · have cv : (nI L = nI 0) = False := eq_false (fun q => c0 ((nI_eq (by omega) (by omega)).mp q))
      obtain ⟨u, w, hu, e1⟩ := D_below (N := N) r1 (n := 10) (by omega) (by omega)
      have rf : RF rnd q0 Y N Y (si N rnd 0 w) := fun c hc => ⟨⟨rfl, rfl⟩, fun _ => rfl, fun j hj => gi_si_n (by omega)⟩
      obtain ⟨hD, ⟨hq0, hqq⟩, -, ⟨hT, hX, hB⟩, hI⟩ := id h
      have b14 := hE.2.1
      refine ⟨Y, q, si N rnd 0 w, L, T, e, bs, ts, pl, u, n, ?_, ⟨hD.sameN (fun g hg j => gi_si_n (Or.inl (by have := hq0 g hg; omega))), ⟨hq0, hqq⟩, hE.rf rf (fun w => w), ⟨hT.rf rf ⟨b14.2.2.1, b14.2.2.2, fun z => by have := b14.1; rw [z, r1] at this; omega⟩ r2, hX, hB⟩, hI.rf rf (by omega) r2⟩, by omega, by omega, rfl, ⟨hu, fun z => absurd z c0⟩, by omega⟩
      rw [f_L_randomDesk_169]
      simp (disch := omega) only [↓ck, ↓lt_eq, bd_some, bd2_some, ofN, nI_lit, nI_clamp, nI_add, xb_nI, hY.k0, hY.g2, hY.g3, hY.g4, hY.g5, hY.g6, hY.p2, hY.p3, hY.p4, hY.p5, hY.p6, hY.k1, hY.n1, hY.k84, hY.n84, hY.k85, hY.n85, hY.k86, hY.n86, hY.k87, hY.n87, hY.gh, hY.ph, hY.kh, hY.nh, hY.gl, hY.pl', hY.kl, hY.nl, hY.gt, hY.pt, hY.kt, hY.nt, hY.gr', hY.pr, hY.kr, hY.nr, ↓reduceIte, pLEt, pLEf, pLTt, pLTf, pEQf, pML, pMG, pMf, pMg, ↓bd_ite, ↓bd2_ite, ↓bd3_ite, ↓bd4_ite, Option.isSome_some, Option.getD_some, cv, r1, eq_true bk1, e1, Nat.mul_zero, Nat.add_zero]
  | succ z ih =>
    intro D9 Y q N pl L T e bs ts k n h hL hD hb hk hn
    obtain ⟨D8, rfl⟩ : ∃ z, D9 = z + 1 := ⟨D9 - 1, by omega⟩
    have hm := h.1.m
    have hY := h.1.y
    have hE := h.2.2.1
    have hqq := h.2.1.2
    obtain ⟨r1, r2, r3⟩ := id hE.2.2.1
    have kq : kc Y q = 9 ∧ kc Y (q + 1) = 0 := ⟨hm.1, hm.2 _ (Nat.lt_succ_self _)⟩
    have kr1 : kc (yK Y q 1 3) rnd = 20 := (yK_ne (by omega) (by omega)).1.trans r1
    obtain ⟨u, w, hu, e1⟩ := D_below (N := n0 N q) kr1 (n := 3) (by omega) (by omega)
    have bk1 : k + 1 ≤ 400 ∧ n + 3 ≤ 40000 := ⟨by omega, by omega⟩
    have ev : nI (z + 1) + -nI 1 = nI z := i32_addneg (by omega)
    have go : ∀ t, 0 < t ∧ t ≤ 100 → ∃ Y' q' N' L' T' e' bs' ts' pl' u n', f_L_randomDesk_200 SS SV (f_L_randomDesk_169 SS SV D8) (yK Y q 1 3) (q + 1) B bf rnd (pl 0) (nI H) (nI (z + 1)) (nI t) rnd 0 q q (pl 85) (pl 0) (k + 1) (n + 3) (si (n0 N q) rnd 0 w) = f_L_randomDesk_406 SS SV FU Y' q' B bf rnd (pl 0) (nI u) (k + 4 * (z + 1)) n' N' ∧ BST SS SV Y0 N0 Y' q' N' B bf rnd q0 pl' H L' 0 T' e' bs' ts' 0 ops0 d0 k0 p0 hd0 ∧ n' ≤ n + 134 * (z + 1) ∧ bs'.length ≤ bs.length + 35 * (z + 1) ∧ pl' 0 = pl 0 ∧ (u < 10 ∧ (L' = 0 → u = 0)) ∧ L' ≤ 3 := fun t ht => by
      obtain ⟨Y1, q1, N1, n1, f1, pl1, T1, e1', bs1, ts1, f2, f3, f4, f5⟩ := L_200 (K169 := f_L_randomDesk_169 SS SV D8) (v5 := nI (z + 1)) (k := k + 1) (n := n + 3) h (by omega) (by omega) (N1 := si (n0 N q) rnd 0 w) (fun c hc j hj => (gi_si_n (by omega)).trans (n0_ne hc j)) ht ⟨by omega, by omega⟩
      rw [ev] at f1
      obtain ⟨Y', q', N', L', T', e', bs', ts', pl', u, n', g1, g2, g3, g4, g5, g6, g7⟩ := ih D8 f2 (by omega) (by omega) (by omega) (k := k + 1 + 3) (n := n1) (by omega) (by omega)
      rw [f5, show k + 1 + 3 + 4 * z = k + 4 * (z + 1) by omega] at g1
      exact ⟨Y', q', N', L', T', e', bs', ts', pl', u, n', f1.trans g1, g2, by omega, by omega, g5.trans f5, g6, g7⟩
    by_cases cv : nI u = nI 0
    · obtain ⟨Y', q', N', L', T', e', bs', ts', pl', u', n', g1, g2⟩ := go 100 (by omega)
      refine ⟨Y', q', N', L', T', e', bs', ts', pl', u', n', ?_, g2⟩
      rw [f_L_randomDesk_169]
      simp (disch := omega) only [↓ck, ↓lt_eq, bd_some, bd2_some, ofN, nI_lit, nI_clamp, nI_add, xb_nI, hY.k0, hY.g2, hY.g3, hY.g4, hY.g5, hY.g6, hY.p2, hY.p3, hY.p4, hY.p5, hY.p6, hY.k1, hY.n1, hY.k84, hY.n84, hY.k85, hY.n85, hY.k86, hY.n86, hY.k87, hY.n87, hY.gh, hY.ph, hY.kh, hY.nh, hY.gl, hY.pl', hY.kl, hY.nl, hY.gt, hY.pt, hY.kt, hY.nt, hY.gr', hY.pr, hY.kr, hY.nr, ↓reduceIte, pLEt, pLEf, pLTt, pLTf, pEQf, pML, pMG, pMf, pMg, ↓bd_ite, ↓bd2_ite, ↓bd3_ite, ↓bd4_ite, Option.isSome_some, Option.getD_some, eq_true kq, eq_true bk1, kr1, e1, eq_true cv]
      exact g1
    · obtain ⟨Y', q', N', L', T', e', bs', ts', pl', u', n', g1, g2⟩ := go 12 (by omega)
      refine ⟨Y', q', N', L', T', e', bs', ts', pl', u', n', ?_, g2⟩
      rw [f_L_randomDesk_169]
      simp (disch := omega) only [↓ck, ↓lt_eq, bd_some, bd2_some, ofN, nI_lit, nI_clamp, nI_add, xb_nI, hY.k0, hY.g2, hY.g3, hY.g4, hY.g5, hY.g6, hY.p2, hY.p3, hY.p4, hY.p5, hY.p6, hY.k1, hY.n1, hY.k84, hY.n84, hY.k85, hY.n85, hY.k86, hY.n86, hY.k87, hY.n87, hY.gh, hY.ph, hY.kh, hY.nh, hY.gl, hY.pl', hY.kl, hY.nl, hY.gt, hY.pt, hY.kt, hY.nt, hY.gr', hY.pr, hY.kr, hY.nr, ↓reduceIte, pLEt, pLEf, pLTt, pLTf, pEQf, pML, pMG, pMf, pMg, ↓bd_ite, ↓bd2_ite, ↓bd3_ite, ↓bd4_ite, Option.isSome_some, Option.getD_some, eq_true kq, eq_true bk1, kr1, e1, eq_false cv]
      exact g1
end LM
