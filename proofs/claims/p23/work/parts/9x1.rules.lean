/-! RANDOM NUMBERS OF A DESK: its rules -/
section RUL
variable {SS SV : Nat → Nat} {Y0 Y Y' : XY} {N0 N N' : XN} {B bf rnd q q0 H L R k n b : Nat} {pl : Nat → Nat} {T : Nat → Nat} {e : XD} {bs : List Nat} {ts : List (Nat × Nat)} {ops0 : List Int32} {d0 : XD} {k0 p0 : Nat} {hd0 : Nat → XD}
theorem U_636 {K597 : XY → Nat → Nat → Nat → Nat → Nat → Int32 → Nat → Nat → XN → Option (Nat × XY × Nat × XN)} (h : BST SS SV Y0 N0 Y q N B bf rnd q0 pl H L R T e bs ts b ops0 d0 k0 p0 hd0) {v : Nat} (hv : v < 5) (hbv : b ≤ v) (hl : bs.length ≤ 600) {N1 : XN} (hN1 : ∀ c j, (c ≠ rnd ∨ j ≠ 0) → gi N1 c j = gi N c j) {s0 : Nat} (hs0 : 0 < s0 ∧ s0 ≤ 20) (hk : k + 1 ≤ 400 ∧ n + 1 ≤ 40000) :
    ∃ Y' N' e' bs' ts', f_L_randomDesk_636 SS SV K597 Y q B bf rnd (pl 0) (nI v) (nI s0) rnd 1 (nI v) (pl 1) k n N1 = K597 Y' (q + 1) B bf rnd (pl 0) (nI (v + 1)) (k + 1) (n + 1) N' ∧ BST SS SV Y0 N0 Y' (q + 1) N' B bf rnd q0 pl H L R T e' bs' ts' (v + 1) ops0 d0 k0 p0 hd0 ∧ bs'.length ≤ bs.length + 14 := by
  obtain ⟨hD, ⟨hq0, hqq, h70⟩, hE, ⟨hT, hX, hB, P, c, hQ⟩, hI⟩ := h
  have hm := hD.m
  have hY := hD.y
  have h6 := hY.H6
  have h8 := hY.L8
  have lt := fun g (hg : us H L L R g) => us_lt hm hY hg
  obtain ⟨⟨c1, c2, c3, c4⟩, ⟨b1, b2, b3, b4⟩, ⟨r1, r2, r3⟩, -, -⟩ := id hE
  have u0 : us H L L R 0 := by unfold us; omega
  have u1 : us H L L R 1 := by unfold us; omega
  have l0 := lt 0 u0
  have l1 := lt 1 u1
  have o0 := hq0 0 u0
  have o1 := hq0 1 u1
  have m1 := hm.nx (c := 1) (m := 1)
  have kq : kc Y q = 9 ∧ kc Y (q + 1) = 0 := ⟨hm.1, hm.2 _ (Nat.lt_succ_self _)⟩
  obtain ⟨u, w, hu, e1⟩ := D_below (N := N1) r1 (n := s0) hs0.1 (by omega)
  obtain ⟨N8, hN8⟩ : ∃ M, M = si (si N1 rnd 0 w) (pl 1) v (nI (1 + u)) := ⟨_, rfl⟩
  have a8 : ∀ c j, c ≠ pl 1 → (c ≠ rnd ∨ j ≠ 0) → gi N8 c j = gi N c j := fun c j hc hj => by
    rw [hN8, gi_si_n (Or.inl hc), gi_si_n (by omega)]
    exact hN1 c j hj
  have p8 : ∀ j, gi N8 (pl 1) j = if j = v then nI (1 + u) else gi N (pl 1) j := fun j => by
    rw [hN8]
    by_cases z : j = v
    · rw [if_pos z, z, gi_si]
    · rw [if_neg z, gi_si_n (Or.inr z), gi_si_n (Or.inl (by omega))]
      exact hN1 _ j (Or.inl (by omega))
  have hc := hE.cz.2.2
  obtain ⟨s, s1, s2⟩ := hc.2.2 v hv
  have gs := gp_of s1
  obtain ⟨Y15, hY15⟩ : ∃ M, M = yK Y q 1 1 := ⟨_, rfl⟩
  have m15 : MK Y15 (q + 1) := by rw [hY15]; exact m1
  have low : ∀ c, c < q → (kc Y15 c = kc Y c ∧ kn Y15 c = kn Y c) ∧ ∀ j, gr Y15 c j = gr Y c j := fun c hc => by
    rw [hY15]
    exact ⟨yK_ne (by omega) (by omega), fun j => yK_gr (by omega) j⟩
  have kq15 : kc Y15 q = 1 ∧ kn Y15 q = 1 := by rw [hY15]; exact ⟨kcq rfl, knq rfl⟩
  have k15 : kc Y15 (pl 0) = 18 := (low _ l0).1.1.trans hY.k0
  have g15 : gr Y15 (pl 0) 2 = some (pl 1) := ((low _ l0).2 2).trans hY.g2
  have gp15 := gp_of g15
  have k115 : kc Y15 (pl 1) = 1 ∧ kn Y15 (pl 1) = 5 := ⟨(low _ l1).1.1.trans hY.k1, (low _ l1).1.2.trans hY.n1⟩
  have g16 : gi (n0 N8 q) (pl 1) v = nI (1 + u) := by rw [n0_ne (by omega), p8, if_pos rfl]
  obtain ⟨N24, hN24⟩ : ∃ M, M = si (n0 N8 q) q 0 (nI (1 + u)) := ⟨_, rfl⟩
  have a24 : ∀ c j, c ≠ q → gi N24 c j = gi N8 c j := fun c j hc => by rw [hN24, gi_si_n (Or.inl hc), n0_ne hc]
  have w15 : WT Y → WT Y15 := fun w => by rw [hY15]; exact w.nx hm (by omega)
  have rf : RF rnd q0 Y N Y15 N24 := fun c hc => ⟨(low c (by omega)).1, (low c (by omega)).2, fun j hj => (a24 c j (by omega)).trans (a8 c j (by omega) hj)⟩
  have hE' := hE.rf rf w15
  have hT' := hT.rf rf ⟨b3, b4, fun z => by rw [z, r1] at b1; omega⟩ r2
  have hI' := hI.rf rf (by omega) r2
  have sE := hE'.cz.2.2.2.2 v hv
  obtain ⟨s', s1', s2'⟩ := sE
  have hss : s' = s := by
    have ls := hm.inn (a := SV 103) (by rw [hc.1]; omega) (by rw [hc.1]; omega)
    have := (low _ ls).2 v
    rw [s1', s1] at this
    exact Option.some.inj this
  rw [hss] at s2'
  have wl : (wB (4 + v)).length ≤ 8 := by
    rcases (by omega : v = 0 ∨ v = 1 ∨ v = 2 ∨ v = 3 ∨ v = 4) with rfl | rfl | rfl | rfl | rfl <;> decide
  obtain ⟨N27, N30, f1, f2, f3, f4⟩ := W_row (a := q) (xs := [1 + u]) hE' hT' s2' kq15 hqq (fun j hj => by
    have hj1 : j < 1 := hj
    obtain rfl : j = 0 := by omega
    exact ⟨by rw [hN24, gi_si]; rfl, show 1 + u ≤ 9999 by omega⟩) (show 1 ≤ 8 by omega) (show bs.length + (wB (4 + v)).length + 5 * 1 ≤ 654 by omega)
  have hW15 := hE'.1.2.2.2
  have ftq : ∀ c j, q0 ≤ c → gi N30 c j = gi N24 c j := fun c j hc => by unfold gi; rw [f4.1 c (by omega) (by omega) (by omega)]
  have hQ' := hQ.rule (k := 8 + v) (j := 5 + v) (v := 1 + u) (by unfold Wp; omega) (by omega) (fun _ => by omega)
  have up : ∀ j, j ≠ 5 + v → upd e (5 + v) (nI (1 + u)) j = e j := fun j hj => upd_n hj
  have hD15 := (hD.ext (N' := N) m15 (by omega) w15 (fun a ha => ⟨(low a ha).1, (low a ha).2, fun _ => rfl⟩)).1
  have hD' : DK Y15 (q + 1) N30 pl H L R T [] (upd e (5 + v) (nI (1 + u))) := by
    refine ⟨m15, hD15.y, ⟨hD.n.1, fun g j hvd => ?_⟩, ⟨(nH_same (up 1 (by omega))).trans hD.s.1, (nL_same (up 2 (by omega))).trans hD.s.2.1, (nR_same (up 3 (by omega))).trans hD.s.2.2.1, fun j hj => (nT_same (up _ (by omega))).trans (hD.s.2.2.2 j hj)⟩, hQ'.1, hD.h4, hD.l3⟩
    have hg := vd_us hvd
    have og := hq0 g hg
    have lg := lt g hg
    have hbase := hD.n.2 g j hvd
    show gi N30 (pl g) j = _
    rw [ftq _ j og, a24 _ j (by omega)]
    by_cases e1' : g = 1
    · subst e1'
      have ei : ixg 1 j = 5 + j := rfl
      rw [p8 j, ei]
      by_cases z : j = v
      · rw [if_pos z, z, upd_s]
      · rw [if_neg z, up _ (by omega)]
        exact hbase
    · rw [a8 _ j (fun z => e1' (hY.P _ _ hg u1 z)) (Or.inl (by omega)), up _ ?_]
      · exact hbase
      · have hv' := hvd
        unfold vd at hv'
        unfold ixg
        (repeat' split) <;> omega
  refine ⟨Y15, N30, _, _, _, ?_, ⟨hD', ⟨hq0, by omega, ((low _ l0).2 7).trans h70⟩, hE'.ft f4, ⟨f3, LX_more hX (LX_stmt (i := 4 + v) (by omega) (xs := [1 + u]) (fun z hz => ?_)), hB.step (Or.inr (Or.inr (Or.inr ⟨v, 1 + u, by rw [show 10 + (4 + v) = 14 + v by omega]; rfl, hbv, hv, by omega, rfl, rfl⟩))), P, _, hQ'⟩, hI'.ft f4 b3⟩, ?_⟩
  · have bk1 : k ≤ 400 ∧ n ≤ 40000 := ⟨by omega, by omega⟩
    have ev : nI v + nI 1 = nI (v + 1) := nI_add _ _
    unfold f_L_randomDesk_636
    simp (disch := omega) only [↓ck, ↓lt_eq, nI_lit, nI_clamp, nI_add, xb_nI, ↓reduceIte, pLEt, pLEf, pLTt, pLTf, pEQf, pML, pMG, pMf, pMg, ↓bd_ite, ↓bd2_ite, ↓bd3_ite, ↓bd4_ite, Option.isSome_some, Option.getD_some, r1, eq_true bk1, e1, hY.k1, hY.n1, ← hN8, hc.1, hc.2.1, s1, gs, eq_true kq, eq_true hk, ← hY15, k15, g15, gp15, k115.1, k115.2, kq15.1, kq15.2, g16, ← hN24, ↓ckW_t hW15, f1, f2]
  · simp only [List.mem_cons, List.not_mem_nil, or_false] at hz
    omega
  · have nl := nums_len [1 + u]
    have e5 : [1 + u].length = 1 := rfl
    rw [List.length_append, List.length_append, List.length_append]
    rw [e5] at nl
    show bs.length + ((wB (4 + v)).length + ((nums [1 + u]).length + 1)) ≤ bs.length + 14
    omega
end RUL
