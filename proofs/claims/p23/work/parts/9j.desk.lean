/-! THE DESK LEASES AND RELEASES -/
section DLE
variable {Y : XY} {q : Nat} {N : XN} {pl : Nat → Nat} {H L R : Nat} {T : Nat → Nat} {ops : List Int32} {d : XD} {l x i : Nat}
theorem BK.leave (hb : BK d) (hD : DJ ops d) (hl : l < nL d) {y : Int32} : BK (sLeave d y l) := by
  have hn := hD.ln l hl
  have h8 := hD.L8
  have far := fun j hj => sLeave_far hn y (j := j) hj
  have h6 := hD.H6
  refine ⟨hb.1.same (far 1 (by omega)) (far 2 (by omega)) (fun i hi => Or.inl (far _ (by omega))) (fun l' k hl' hk => leave_sub hD.ln hl' hl hD.L8 hk), hb.2.same (far 1 (by omega)) (far 3 (by omega)) (fun i hi => Or.inl (far _ (by omega))) (fun r hr => Or.inl ⟨far _ (by omega), far _ (by omega)⟩) hD.H6⟩
theorem BK.addT (hb : BK d) (hD : DJ ops d) (hx : x < nH d) (hl : l < nL d) (h3 : nT d l < 3) (hf : d (14 + 6 * x) = nI 0) : BK (sAddT d x l) := by
  have h8 := hD.L8
  have h6 := hD.H6
  obtain ⟨a1, a2, a3⟩ := sAddT_at (d := d) x l
  have far : ∀ j, j < 51 + 7 * l ∨ 55 + 7 * l ≤ j → sAddT d x l j = d j := fun j hj => a3 j (by omega) (by omega)
  refine ⟨fun l' hl' k hk y hy ey => ?_, hb.2.same (far 1 (by omega)) (far 3 (by omega)) (fun i hi => Or.inl (far _ (by omega))) (fun r hr => Or.inl ⟨far _ (by omega), far _ (by omega)⟩) hD.H6⟩
  rw [nL_same (far 2 (by omega))] at hl'
  rw [nH_same (far 1 (by omega))] at hy
  rw [far (14 + 6 * y) (by omega)]
  have t3 := hD.t3 l' hl'
  by_cases e : l' = l
  · subst e
    have en : nT (sAddT d x l') l' = nT d l' + 1 := by
      unfold nT
      rw [a1]
      exact nI_clamp (by unfold nT at h3; omega)
    rw [en] at hk
    by_cases e2 : k = nT d l'
    · subst e2
      rw [a2] at ey
      have := (nI_eq (by omega) (by omega)).mp ey
      subst this
      exact hf
    · rw [a3 _ (by omega) (by omega)] at ey
      exact hb.1 l' hl' k (by omega) y hy ey
  · have en : nT (sAddT d x l) l' = nT d l' := nT_same (a3 _ (by omega) (by omega))
    rw [en] at hk
    rw [a3 _ (by omega) (by omega)] at ey
    exact hb.1 l' hl' k hk y hy ey
theorem K_70 (hl : l < L) : ∀ (z i D9 : Nat) (N : XN) (s : Nat × XD), i + z = R → z < D9 → DK Y q N pl H L R T ops s.2 → BK s.2 →
    ∃ N', f_X8_lease_70 D9 Y q (pl 0) (nI l) (nI s.1) (pl 87) (nI R) (nI i) 1 4 N = some (nI (fo (sThoseF (nI l) (-nI 1)) i z s).1, Y, q, N') ∧ DK Y q N' pl H L R T ops (fo (sThoseF (nI l) (-nI 1)) i z s).2 ∧ BK (fo (sThoseF (nI l) (-nI 1)) i z s).2 ∧ GO Y q N pl H L R Y q N' pl R := by
  intro z
  induction z with
  | zero =>
    intro i D9 N s hi hD9 h hb
    have hY := h.y
    have h60 := hY.R60
    obtain ⟨D8, rfl⟩ : ∃ z, D9 = z + 1 := ⟨D9 - 1, by omega⟩
    refine ⟨N, ?_, h, hb, GO.rfl'⟩
    have hk : 1 ≤ 1 ∧ 4 ≤ 4 := ⟨by omega, by omega⟩
    rw [f_X8_lease_70, fo]
    simp (disch := omega) only [↓ck, ↓lt_eq, bd_some, bd2_some, ofN, nI_lit, nI_clamp, nI_add, xb_nI, hY.k0, hY.g2, hY.g3, hY.g4, hY.g5, hY.g6, hY.p2, hY.p3, hY.p4, hY.p5, hY.p6, hY.k1, hY.n1, hY.k84, hY.n84, hY.k85, hY.n85, hY.k86, hY.n86, hY.k87, hY.n87, hY.gh, hY.ph, hY.kh, hY.nh, hY.gl, hY.pl', hY.kl, hY.nl, hY.gt, hY.pt, hY.kt, hY.nt, hY.gr', hY.pr, hY.kr, hY.nr, ↓reduceIte, pLEt, pLEf, pLTt, pLTf, pEQf, pML, pMG, pMf, pMg, eq_true hk]
  | succ z ih =>
    intro i D9 N s hi hD9 h hb
    obtain ⟨a, d⟩ := s
    change DK Y q N pl H L R T ops d at h
    change BK d at hb
    have hY := h.y
    have h60 := hY.R60
    have h6 := hY.H6
    have h3 := h.l3
    obtain ⟨D8, rfl⟩ : ∃ z, D9 = z + 1 := ⟨D9 - 1, by omega⟩
    have hi' : i < nR d := by rw [h.s.2.2.1]; omega
    have r0 : gi N (pl (24 + i)) 0 = d (104 + 8 * i) := h.n.r0 (by omega)
    have r3 : gi N (pl (24 + i)) 3 = d (107 + 8 * i) := h.n.r3 (by omega)
    have r4 : gi N (pl (24 + i)) 4 = d (108 + 8 * i) := h.n.r4 (by omega)
    have hk : 1 ≤ 1 ∧ 4 ≤ 4 := ⟨by omega, by omega⟩
    have no : sFreeP d (nI l) (-nI 1) i = false → sThoseF (nI l) (-nI 1) i (a, d) = (a, d) := fun e => by
      unfold sThoseF
      rw [if_neg (by rw [e]; exact Bool.false_ne_true)]
    have skip : sFreeP d (nI l) (-nI 1) i = false → ∃ N', f_X8_lease_70 D8 Y q (pl 0) (nI l) (nI a) (pl 87) (nI R) (nI (i + 1)) 1 4 N = some (nI (fo (sThoseF (nI l) (-nI 1)) i (z + 1) (a, d)).1, Y, q, N') ∧ DK Y q N' pl H L R T ops (fo (sThoseF (nI l) (-nI 1)) i (z + 1) (a, d)).2 ∧ BK (fo (sThoseF (nI l) (-nI 1)) i (z + 1) (a, d)).2 ∧ GO Y q N pl H L R Y q N' pl R := fun e => by
      rw [fo, no e]
      exact ih (i + 1) D8 N (a, d) (by omega) (by omega) h hb
    by_cases p1 : d (107 + 8 * i) = nI 1
    · by_cases p2 : d (104 + 8 * i) = nI l
      · rcases (h.j.opens hi' p1).1 with p3 | ⟨x, x1, x2⟩
        · obtain ⟨N1, a1, a2, a3⟩ := K_assign h (r := i) (by omega) p1
          obtain ⟨N', b1, b2, b3, b4⟩ := ih (i + 1) D8 N1 (a + 1, sAssign d i) (by omega) (by omega) a2 (hb.assign h.j hi' p1)
          have e : sThoseF (nI l) (-nI 1) i (a, d) = (a + 1, sAssign d i) := by
            unfold sThoseF
            rw [if_pos (sFreeP_t p1 p2 p3)]
          rw [fo, e]
          refine ⟨N', ?_, b2, b3, a3.trans b4⟩
          rw [f_X8_lease_70]
          simp (disch := omega) only [↓ck, ↓lt_eq, bd_some, bd2_some, ofN, nI_lit, nI_clamp, nI_add, xb_nI, hY.k0, hY.g2, hY.g3, hY.g4, hY.g5, hY.g6, hY.p2, hY.p3, hY.p4, hY.p5, hY.p6, hY.k1, hY.n1, hY.k84, hY.n84, hY.k85, hY.n85, hY.k86, hY.n86, hY.k87, hY.n87, hY.gh, hY.ph, hY.kh, hY.nh, hY.gl, hY.pl', hY.kl, hY.nl, hY.gt, hY.pt, hY.kt, hY.nt, hY.gr', hY.pr, hY.kr, hY.nr, ↓reduceIte, pLEt, pLEf, pLTt, pLTf, pEQf, pML, pMG, pMf, pMg, ↓bd_ite, ↓bd2_ite, ↓bd3_ite, ↓bd4_ite, Option.isSome_some, Option.getD_some, r0, r3, r4, eq_true p1, eq_true p2, p3, eq_true hk, a1]
          exact b1
        · have e : sFreeP d (nI l) (-nI 1) i = false := by
            have hx : x < 6 := by rw [h.s.1] at x1; omega
            unfold sFreeP
            rw [x2, decide_eq_false (nI_neg1 (by omega) : ¬ nI x = -nI 1), Bool.and_false, Bool.and_false]
          have hx : x < 6 := by rw [h.s.1] at x1; omega
          obtain ⟨N', b1, b2, b3, b4⟩ := skip e
          refine ⟨N', ?_, b2, b3, b4⟩
          rw [f_X8_lease_70]
          simp (disch := omega) only [↓ck, ↓lt_eq, bd_some, bd2_some, ofN, nI_lit, nI_clamp, nI_add, xb_nI, hY.k0, hY.g2, hY.g3, hY.g4, hY.g5, hY.g6, hY.p2, hY.p3, hY.p4, hY.p5, hY.p6, hY.k1, hY.n1, hY.k84, hY.n84, hY.k85, hY.n85, hY.k86, hY.n86, hY.k87, hY.n87, hY.gh, hY.ph, hY.kh, hY.nh, hY.gl, hY.pl', hY.kl, hY.nl, hY.gt, hY.pt, hY.kt, hY.nt, hY.gr', hY.pr, hY.kr, hY.nr, ↓reduceIte, pLEt, pLEf, pLTt, pLTf, pEQf, pML, pMG, pMf, pMg, r0, r3, r4, eq_true p1, eq_true p2, x2]
          exact b1
      · obtain ⟨N', b1, b2, b3, b4⟩ := skip (by unfold sFreeP; rw [decide_eq_false p2, Bool.false_and, Bool.and_false])
        refine ⟨N', ?_, b2, b3, b4⟩
        rw [f_X8_lease_70]
        simp (disch := omega) only [↓ck, ↓lt_eq, bd_some, bd2_some, ofN, nI_lit, nI_clamp, nI_add, xb_nI, hY.k0, hY.g2, hY.g3, hY.g4, hY.g5, hY.g6, hY.p2, hY.p3, hY.p4, hY.p5, hY.p6, hY.k1, hY.n1, hY.k84, hY.n84, hY.k85, hY.n85, hY.k86, hY.n86, hY.k87, hY.n87, hY.gh, hY.ph, hY.kh, hY.nh, hY.gl, hY.pl', hY.kl, hY.nl, hY.gt, hY.pt, hY.kt, hY.nt, hY.gr', hY.pr, hY.kr, hY.nr, ↓reduceIte, pLEt, pLEf, pLTt, pLTf, pEQf, pML, pMG, pMf, pMg, r0, r3, eq_true p1, eq_false p2]
        exact b1
    · obtain ⟨N', b1, b2, b3, b4⟩ := skip (by unfold sFreeP sOpen; rw [decide_eq_false p1, Bool.false_and])
      refine ⟨N', ?_, b2, b3, b4⟩
      rw [f_X8_lease_70]
      simp (disch := omega) only [↓ck, ↓lt_eq, bd_some, bd2_some, ofN, nI_lit, nI_clamp, nI_add, xb_nI, hY.k0, hY.g2, hY.g3, hY.g4, hY.g5, hY.g6, hY.p2, hY.p3, hY.p4, hY.p5, hY.p6, hY.k1, hY.n1, hY.k84, hY.n84, hY.k85, hY.n85, hY.k86, hY.n86, hY.k87, hY.n87, hY.gh, hY.ph, hY.kh, hY.nh, hY.gl, hY.pl', hY.kl, hY.nl, hY.gt, hY.pt, hY.kt, hY.nt, hY.gr', hY.pr, hY.kr, hY.nr, ↓reduceIte, pLEt, pLEf, pLTt, pLTf, pEQf, pML, pMG, pMf, pMg, r3, eq_false p1]
      exact b1
theorem K_50 (hl : l < L) : ∀ (z i D9 : Nat) (N : XN) (s : Nat × XD), i + z = R → z < D9 → DK Y q N pl H L R T ops s.2 → BK s.2 →
    ∃ N', f_X8_release_50 D9 Y q (pl 0) (nI x) (nI l) (nI s.1) (pl 87) (nI R) (nI i) 1 4 N = some (nI (fo (sThoseF (nI l) (nI x)) i z s).1, Y, q, N') ∧ DK Y q N' pl H L R T ops (fo (sThoseF (nI l) (nI x)) i z s).2 ∧ BK (fo (sThoseF (nI l) (nI x)) i z s).2 ∧ GO Y q N pl H L R Y q N' pl R := by
  intro z
  induction z with
  | zero =>
    intro i D9 N s hi hD9 h hb
    have hY := h.y
    have h60 := hY.R60
    obtain ⟨D8, rfl⟩ : ∃ z, D9 = z + 1 := ⟨D9 - 1, by omega⟩
    refine ⟨N, ?_, h, hb, GO.rfl'⟩
    have hk : 1 ≤ 1 ∧ 4 ≤ 4 := ⟨by omega, by omega⟩
    rw [f_X8_release_50, fo]
    simp (disch := omega) only [↓ck, ↓lt_eq, bd_some, bd2_some, ofN, nI_lit, nI_clamp, nI_add, xb_nI, hY.k0, hY.g2, hY.g3, hY.g4, hY.g5, hY.g6, hY.p2, hY.p3, hY.p4, hY.p5, hY.p6, hY.k1, hY.n1, hY.k84, hY.n84, hY.k85, hY.n85, hY.k86, hY.n86, hY.k87, hY.n87, hY.gh, hY.ph, hY.kh, hY.nh, hY.gl, hY.pl', hY.kl, hY.nl, hY.gt, hY.pt, hY.kt, hY.nt, hY.gr', hY.pr, hY.kr, hY.nr, ↓reduceIte, pLEt, pLEf, pLTt, pLTf, pEQf, pML, pMG, pMf, pMg, eq_true hk]
  | succ z ih =>
    intro i D9 N s hi hD9 h hb
    obtain ⟨a, d⟩ := s
    change DK Y q N pl H L R T ops d at h
    change BK d at hb
    have hY := h.y
    have h60 := hY.R60
    have h3 := h.l3
    obtain ⟨D8, rfl⟩ : ∃ z, D9 = z + 1 := ⟨D9 - 1, by omega⟩
    have hi' : i < nR d := by rw [h.s.2.2.1]; omega
    have r0 : gi N (pl (24 + i)) 0 = d (104 + 8 * i) := h.n.r0 (by omega)
    have r3 : gi N (pl (24 + i)) 3 = d (107 + 8 * i) := h.n.r3 (by omega)
    have r4 : gi N (pl (24 + i)) 4 = d (108 + 8 * i) := h.n.r4 (by omega)
    have hk : 1 ≤ 1 ∧ 4 ≤ 4 := ⟨by omega, by omega⟩
    have no : sFreeP d (nI l) (nI x) i = false → sThoseF (nI l) (nI x) i (a, d) = (a, d) := fun e => by
      unfold sThoseF
      rw [if_neg (by rw [e]; exact Bool.false_ne_true)]
    have skip : sFreeP d (nI l) (nI x) i = false → ∃ N', f_X8_release_50 D8 Y q (pl 0) (nI x) (nI l) (nI a) (pl 87) (nI R) (nI (i + 1)) 1 4 N = some (nI (fo (sThoseF (nI l) (nI x)) i (z + 1) (a, d)).1, Y, q, N') ∧ DK Y q N' pl H L R T ops (fo (sThoseF (nI l) (nI x)) i (z + 1) (a, d)).2 ∧ BK (fo (sThoseF (nI l) (nI x)) i (z + 1) (a, d)).2 ∧ GO Y q N pl H L R Y q N' pl R := fun e => by
      rw [fo, no e]
      exact ih (i + 1) D8 N (a, d) (by omega) (by omega) h hb
    by_cases p1 : d (107 + 8 * i) = nI 1
    · by_cases p2 : d (104 + 8 * i) = nI l
      · by_cases p3 : d (108 + 8 * i) = nI x
        · obtain ⟨N1, a1, a2, a3⟩ := K_assign h (r := i) (by omega) p1
          obtain ⟨N', b1, b2, b3, b4⟩ := ih (i + 1) D8 N1 (a + 1, sAssign d i) (by omega) (by omega) a2 (hb.assign h.j hi' p1)
          have e : sThoseF (nI l) (nI x) i (a, d) = (a + 1, sAssign d i) := by
            unfold sThoseF
            rw [if_pos (sFreeP_t p1 p2 p3)]
          rw [fo, e]
          refine ⟨N', ?_, b2, b3, a3.trans b4⟩
          rw [f_X8_release_50]
          simp (disch := omega) only [↓ck, ↓lt_eq, bd_some, bd2_some, ofN, nI_lit, nI_clamp, nI_add, xb_nI, hY.k0, hY.g2, hY.g3, hY.g4, hY.g5, hY.g6, hY.p2, hY.p3, hY.p4, hY.p5, hY.p6, hY.k1, hY.n1, hY.k84, hY.n84, hY.k85, hY.n85, hY.k86, hY.n86, hY.k87, hY.n87, hY.gh, hY.ph, hY.kh, hY.nh, hY.gl, hY.pl', hY.kl, hY.nl, hY.gt, hY.pt, hY.kt, hY.nt, hY.gr', hY.pr, hY.kr, hY.nr, ↓reduceIte, pLEt, pLEf, pLTt, pLTf, pEQf, pML, pMG, pMf, pMg, ↓bd_ite, ↓bd2_ite, ↓bd3_ite, ↓bd4_ite, Option.isSome_some, Option.getD_some, r0, r3, r4, eq_true p1, eq_true p2, eq_true p3, eq_true hk, a1]
          exact b1
        · obtain ⟨N', b1, b2, b3, b4⟩ := skip (by unfold sFreeP; rw [decide_eq_false p3, Bool.and_false, Bool.and_false])
          refine ⟨N', ?_, b2, b3, b4⟩
          rw [f_X8_release_50]
          simp (disch := omega) only [↓ck, ↓lt_eq, bd_some, bd2_some, ofN, nI_lit, nI_clamp, nI_add, xb_nI, hY.k0, hY.g2, hY.g3, hY.g4, hY.g5, hY.g6, hY.p2, hY.p3, hY.p4, hY.p5, hY.p6, hY.k1, hY.n1, hY.k84, hY.n84, hY.k85, hY.n85, hY.k86, hY.n86, hY.k87, hY.n87, hY.gh, hY.ph, hY.kh, hY.nh, hY.gl, hY.pl', hY.kl, hY.nl, hY.gt, hY.pt, hY.kt, hY.nt, hY.gr', hY.pr, hY.kr, hY.nr, ↓reduceIte, pLEt, pLEf, pLTt, pLTf, pEQf, pML, pMG, pMf, pMg, r0, r3, r4, eq_true p1, eq_true p2, eq_false p3]
          exact b1
      · obtain ⟨N', b1, b2, b3, b4⟩ := skip (by unfold sFreeP; rw [decide_eq_false p2, Bool.false_and, Bool.and_false])
        refine ⟨N', ?_, b2, b3, b4⟩
        rw [f_X8_release_50]
        simp (disch := omega) only [↓ck, ↓lt_eq, bd_some, bd2_some, ofN, nI_lit, nI_clamp, nI_add, xb_nI, hY.k0, hY.g2, hY.g3, hY.g4, hY.g5, hY.g6, hY.p2, hY.p3, hY.p4, hY.p5, hY.p6, hY.k1, hY.n1, hY.k84, hY.n84, hY.k85, hY.n85, hY.k86, hY.n86, hY.k87, hY.n87, hY.gh, hY.ph, hY.kh, hY.nh, hY.gl, hY.pl', hY.kl, hY.nl, hY.gt, hY.pt, hY.kt, hY.nt, hY.gr', hY.pr, hY.kr, hY.nr, ↓reduceIte, pLEt, pLEf, pLTt, pLTf, pEQf, pML, pMG, pMf, pMg, r0, r3, eq_true p1, eq_false p2]
        exact b1
    · obtain ⟨N', b1, b2, b3, b4⟩ := skip (by unfold sFreeP sOpen; rw [decide_eq_false p1, Bool.false_and])
      refine ⟨N', ?_, b2, b3, b4⟩
      rw [f_X8_release_50]
      simp (disch := omega) only [↓ck, ↓lt_eq, bd_some, bd2_some, ofN, nI_lit, nI_clamp, nI_add, xb_nI, hY.k0, hY.g2, hY.g3, hY.g4, hY.g5, hY.g6, hY.p2, hY.p3, hY.p4, hY.p5, hY.p6, hY.k1, hY.n1, hY.k84, hY.n84, hY.k85, hY.n85, hY.k86, hY.n86, hY.k87, hY.n87, hY.gh, hY.ph, hY.kh, hY.nh, hY.gl, hY.pl', hY.kl, hY.nl, hY.gt, hY.pt, hY.kt, hY.nt, hY.gr', hY.pr, hY.kr, hY.nr, ↓reduceIte, pLEt, pLEf, pLTt, pLTf, pEQf, pML, pMG, pMf, pMg, r3, eq_false p1]
      exact b1
/-- a tenant comes -/
theorem K_join (h : DK Y q N pl H L R T ops d) (hx : x < H) (hl : l < L) (hT3 : nT d l < 3) (hn : sTP d l (nI x) = none) : ∃ N', f_L_extended Y q (pl (16 + l)) (nI x) N = some (q, yK Y q 1 (T l + 1), q + 1, N') ∧ DK (sr (yK Y q 1 (T l + 1)) (pl 86) l (some q)) (q + 1) N' (plT pl l q) H L R (TT T l (T l + 1)) ops (sAddT d x l) ∧ GO Y q N pl H L R (sr (yK Y q 1 (T l + 1)) (pl 86) l (some q)) (q + 1) N' (plT pl l q) R := by
  have hb := h.n.1
  have h3 := hb.2.2.2.2 l hl
  have hnT := h.s.2.2.2 l hl
  have hl' : l < nL d := by rw [h.s.2.1]; exact hl
  have hx' : x < nH d := by rw [h.s.1]; exact hx
  obtain ⟨a1, a2, a3⟩ := sAddT_at (d := d) x l
  rw [hnT] at hT3 a1 a2 a3
  obtain ⟨N', e1, ⟨e2, e4⟩, e3⟩ := D_extended (N := N) (x := nI x) h.m (h.y.kt hl) (h.y.nt hl) h3
  refine ⟨N', e1, h.setT (m := T l + 1) hl (by omega) e3 (fun j hj => ?_) (fun j hj => a3 j (by omega) (by omega)) ?_ (h.j.addT hx' hl' (by rw [hnT]; exact hT3) hn).1⟩
  · by_cases p : j = T l
    · rw [p, e4, a2]
    · rw [e2 j (by omega), a3 _ (by omega) (by omega)]
      exact h.n.t hl (by omega)
  · unfold nT
    rw [a1]
    exact nI_clamp (by omega)
theorem K_lease (h : DK Y q N pl H L R T ops d) (hb : BK d) (hx : x < H) (hl : l < L) :
    ∃ Y' q' N' pl' T' d', f_X8_lease Y q (pl 0) (nI x) (nI l) N = some ((if sMay d x l = true then nI (sLease d x l).1 else -nI 1), Y', q', N') ∧ d' = (if sMay d x l = true then (sLease d x l).2 else d) ∧ DK Y' q' N' pl' H L R T' ops d' ∧ BK d' ∧ GO Y q N pl H L R Y' q' N' pl' R := by
  have hY := h.y
  have h6 := hY.H6
  have h60 := hY.R60
  have h3 := h.l3
  have h2 : gi N (pl (2 + x)) 2 = d (14 + 6 * x) := h.n.h2 hx
  have hx' : x < nH d := by rw [h.s.1]; exact hx
  have hl' : l < nL d := by rw [h.s.2.1]; exact hl
  have hnT := h.s.2.2.2 l hl
  have hT3 := h.n.1.2.2.2.2 l hl
  have qp := Q_placeIn h.q hl (w := nI x)
  by_cases p1 : d (14 + 6 * x) = nI 1
  · have e : ¬ sMay d x l = true := by
      unfold sMay
      rw [decide_eq_false (by rw [p1]; exact fun q => by have := (nI_eq (by omega) (by omega)).mp q; omega), Bool.false_and]
      exact Bool.false_ne_true
    rw [if_neg e, if_neg e]
    refine ⟨Y, q, N, pl, T, d, ?_, rfl, h, hb, GO.rfl'⟩
    unfold f_X8_lease
    simp (disch := omega) only [↓ck, ↓lt_eq, bd_some, bd2_some, ofN, nI_lit, nI_clamp, nI_add, xb_nI, hY.k0, hY.g2, hY.g3, hY.g4, hY.g5, hY.g6, hY.p2, hY.p3, hY.p4, hY.p5, hY.p6, hY.k1, hY.n1, hY.k84, hY.n84, hY.k85, hY.n85, hY.k86, hY.n86, hY.k87, hY.n87, hY.gh, hY.ph, hY.kh, hY.nh, hY.gl, hY.pl', hY.kl, hY.nl, hY.gt, hY.pt, hY.kt, hY.nt, hY.gr', hY.pr, hY.kr, hY.nr, ↓reduceIte, pLEt, pLEf, pLTt, pLTf, pEQf, pML, pMG, pMf, pMg, h2, eq_true p1]
  · have p0 : d (14 + 6 * x) = nI 0 := by
      rcases h.j.B x hx' with p | p
      · exact p
      · exact absurd p p1
    cases hs : sTP d l (nI x) with
    | some k =>
      have hk : k < 2 ^ 31 := sTP_lt k hs
      have e : pI (sTP d l (nI x)) = nI k := by rw [hs]; rfl
      rw [e] at qp
      have e : ¬ sMay d x l = true := by
        unfold sMay
        rw [hs]
        simp
      rw [if_neg e, if_neg e]
      refine ⟨Y, q, N, pl, T, d, ?_, rfl, h, hb, GO.rfl'⟩
      unfold f_X8_lease
      simp (disch := omega) only [↓ck, ↓lt_eq, bd_some, bd2_some, ofN, nI_lit, nI_clamp, nI_add, xb_nI, hY.k0, hY.g2, hY.g3, hY.g4, hY.g5, hY.g6, hY.p2, hY.p3, hY.p4, hY.p5, hY.p6, hY.k1, hY.n1, hY.k84, hY.n84, hY.k85, hY.n85, hY.k86, hY.n86, hY.k87, hY.n87, hY.gh, hY.ph, hY.kh, hY.nh, hY.gl, hY.pl', hY.kl, hY.nl, hY.gt, hY.pt, hY.kt, hY.nt, hY.gr', hY.pr, hY.kr, hY.nr, ↓reduceIte, pLEt, pLEf, pLTt, pLTf, pEQf, pML, pMG, pMf, pMg, ↓bd_ite, ↓bd2_ite, ↓bd3_ite, ↓bd4_ite, Option.isSome_some, Option.getD_some, h2, eq_false p1, qp]
    | none =>
      rw [pI_none hs] at qp
      by_cases p3 : T l = 3
      · have e : ¬ sMay d x l = true := by
          unfold sMay
          rw [hnT, p3]
          simp
        rw [if_neg e, if_neg e]
        refine ⟨Y, q, N, pl, T, d, ?_, rfl, h, hb, GO.rfl'⟩
        unfold f_X8_lease
        simp (disch := omega) only [↓ck, ↓lt_eq, bd_some, bd2_some, ofN, nI_lit, nI_clamp, nI_add, xb_nI, hY.k0, hY.g2, hY.g3, hY.g4, hY.g5, hY.g6, hY.p2, hY.p3, hY.p4, hY.p5, hY.p6, hY.k1, hY.n1, hY.k84, hY.n84, hY.k85, hY.n85, hY.k86, hY.n86, hY.k87, hY.n87, hY.gh, hY.ph, hY.kh, hY.nh, hY.gl, hY.pl', hY.kl, hY.nl, hY.gt, hY.pt, hY.kt, hY.nt, hY.gr', hY.pr, hY.kr, hY.nr, ↓reduceIte, pLEt, pLEf, pLTt, pLTf, pEQf, pML, pMG, pMf, pMg, ↓bd_ite, ↓bd2_ite, ↓bd3_ite, ↓bd4_ite, Option.isSome_some, Option.getD_some, h2, eq_false p1, qp, p3]
      · have e : sMay d x l = true := by
          unfold sMay
          rw [decide_eq_true p0, hs, hnT, decide_eq_true (by omega : T l < 3)]
          rfl
        rw [if_pos e, if_pos e]
        obtain ⟨N1, a1, a2, a3⟩ := K_join h hx hl (by rw [hnT]; omega) hs
        have b1 := hb.addT h.j hx' hl' (by rw [hnT]; omega) p0
        obtain ⟨N', c1, c2, c3, c4⟩ := K_70 hl R 0 FU N1 (0, sAddT d x l) (by omega) (by unfold FU; omega) a2 b1
        have eL : fo (sThoseF (nI l) (-nI 1)) 0 R (0, sAddT d x l) = sLease d x l := by
          unfold sLease sThose
          rw [a2.s.2.2.1]
        rw [eL] at c1 c2 c3
        refine ⟨_, _, N', _, _, _, ?_, rfl, c2, c3, a3.trans c4⟩
        have hy1 := a2.y
        have e0 : plT pl l q 0 = pl 0 := if_neg (by omega)
        have e87 : plT pl l q 87 = pl 87 := if_neg (by omega)
        have e86 : plT pl l q 86 = pl 86 := if_neg (by omega)
        rw [e0, e87] at c1
        have u86 := us_lt h.m hY (g := 86) (by unfold us; omega)
        have k0 := hy1.k0
        rw [e0] at k0
        have k87 := hy1.k87
        rw [e87] at k87
        have n87 := hy1.n87
        rw [e87] at n87
        have g6 := hy1.g6
        rw [e0, e87] at g6
        have p6 := hy1.p6
        rw [e0, e87] at p6
        have k86 : kc (yK Y q 1 (T l + 1)) (pl 86) = 8 := by rw [(yK_ne (by omega) (by omega)).1]; exact hY.k86
        have n86 : kn (yK Y q 1 (T l + 1)) (pl 86) = L := by rw [(yK_ne (by omega) (by omega)).2]; exact hY.n86
        have kq : kc (yK Y q 1 (T l + 1)) q = 1 := kcq rfl
        have n3 : (nI (T l) = nI 3) = False := pEQf p3 (by omega) (by omega)
        unfold f_X8_lease
        simp (disch := omega) only [↓ck, ↓lt_eq, bd_some, bd2_some, ofN, nI_lit, nI_clamp, nI_add, xb_nI, hY.k0, hY.g2, hY.g3, hY.g4, hY.g5, hY.g6, hY.p2, hY.p3, hY.p4, hY.p5, hY.p6, hY.k1, hY.n1, hY.k84, hY.n84, hY.k85, hY.n85, hY.k86, hY.n86, hY.k87, hY.n87, hY.gh, hY.ph, hY.kh, hY.nh, hY.gl, hY.pl', hY.kl, hY.nl, hY.gt, hY.pt, hY.kt, hY.nt, hY.gr', hY.pr, hY.kr, hY.nr, ↓reduceIte, pLEt, pLEf, pLTt, pLTf, pEQf, pML, pMG, pMf, pMg, ↓bd_ite, ↓bd2_ite, ↓bd3_ite, ↓bd4_ite, Option.isSome_some, Option.getD_some, h2, eq_false p1, qp, n3, a1, k0, k87, n87, g6, p6, k86, n86, kq]
        exact c1
theorem K_release (h : DK Y q N pl H L R T ops d) (hb : BK d) (hx : x < H) (hl : l < L) :
    ∃ Y' q' N' pl' T' d', f_X8_release Y q (pl 0) (nI x) (nI l) N = some ((if (sTP d l (nI x)).isSome = true then nI (sRelease d x l).1 else -nI 1), Y', q', N') ∧ d' = (if (sTP d l (nI x)).isSome = true then (sRelease d x l).2 else d) ∧ DK Y' q' N' pl' H L R T' ops d' ∧ BK d' ∧ GO Y q N pl H L R Y' q' N' pl' R := by
  have hY := h.y
  have h6 := hY.H6
  have h60 := hY.R60
  have h3 := h.l3
  have hl' : l < nL d := by rw [h.s.2.1]; exact hl
  have hT3 := h.n.1.2.2.2.2 l hl
  have qp := Q_placeIn h.q hl (w := nI x)
  cases hs : sTP d l (nI x) with
  | none =>
    rw [pI_none hs] at qp
    refine ⟨Y, q, N, pl, T, d, ?_, rfl, h, hb, GO.rfl'⟩
    unfold f_X8_release
    simp (disch := omega) only [↓ck, ↓lt_eq, bd_some, bd2_some, ofN, nI_lit, nI_clamp, nI_add, xb_nI, hY.k0, hY.g2, hY.g3, hY.g4, hY.g5, hY.g6, hY.p2, hY.p3, hY.p4, hY.p5, hY.p6, hY.k1, hY.n1, hY.k84, hY.n84, hY.k85, hY.n85, hY.k86, hY.n86, hY.k87, hY.n87, hY.gh, hY.ph, hY.kh, hY.nh, hY.gl, hY.pl', hY.kl, hY.nl, hY.gt, hY.pt, hY.kt, hY.nt, hY.gr', hY.pr, hY.kr, hY.nr, ↓reduceIte, pLEt, pLEf, pLTt, pLTf, pEQf, pML, pMG, pMf, pMg, ↓bd_ite, ↓bd2_ite, ↓bd3_ite, ↓bd4_ite, Option.isSome_some, Option.getD_some, qp]
    rfl
  | some k =>
    have hk : k < 2 ^ 31 := sTP_lt k hs
    have e : pI (sTP d l (nI x)) = nI k := by rw [hs]; rfl
    rw [e] at qp
    obtain ⟨N1, a1, a2, a3⟩ := K_leave h hl hs
    have b1 := hb.leave h.j hl' (y := nI x)
    obtain ⟨N', c1, c2, c3, c4⟩ := K_50 (x := x) hl R 0 FU N1 (0, sLeave d (nI x) l) (by omega) (by unfold FU; omega) a2 b1
    have eL : fo (sThoseF (nI l) (nI x)) 0 R (0, sLeave d (nI x) l) = sRelease d x l := by
      unfold sRelease sThose
      rw [a2.s.2.2.1]
    rw [eL] at c1 c2 c3
    refine ⟨_, _, N', _, _, _, ?_, rfl, c2, c3, a3.trans c4⟩
    have hy1 := a2.y
    have e0 : plT pl l q 0 = pl 0 := if_neg (by omega)
    have e87 : plT pl l q 87 = pl 87 := if_neg (by omega)
    rw [e0, e87] at c1
    have u86 := us_lt h.m hY (g := 86) (by unfold us; omega)
    have k0 := hy1.k0
    rw [e0] at k0
    have k87 := hy1.k87
    rw [e87] at k87
    have n87 := hy1.n87
    rw [e87] at n87
    have g6 := hy1.g6
    rw [e0, e87] at g6
    have p6 := hy1.p6
    rw [e0, e87] at p6
    have k86 : kc (yK Y q 1 (T l - 1)) (pl 86) = 8 := by rw [(yK_ne (by omega) (by omega)).1]; exact hY.k86
    have n86 : kn (yK Y q 1 (T l - 1)) (pl 86) = L := by rw [(yK_ne (by omega) (by omega)).2]; exact hY.n86
    have kq : kc (yK Y q 1 (T l - 1)) q = 1 := kcq rfl
    unfold f_X8_release
    simp (disch := omega) only [↓ck, ↓lt_eq, bd_some, bd2_some, ofN, nI_lit, nI_clamp, nI_add, xb_nI, hY.k0, hY.g2, hY.g3, hY.g4, hY.g5, hY.g6, hY.p2, hY.p3, hY.p4, hY.p5, hY.p6, hY.k1, hY.n1, hY.k84, hY.n84, hY.k85, hY.n85, hY.k86, hY.n86, hY.k87, hY.n87, hY.gh, hY.ph, hY.kh, hY.nh, hY.gl, hY.pl', hY.kl, hY.nl, hY.gt, hY.pt, hY.kt, hY.nt, hY.gr', hY.pr, hY.kr, hY.nr, ↓reduceIte, pLEt, pLEf, pLTt, pLTf, pEQf, pML, pMG, pMf, pMg, ↓bd_ite, ↓bd2_ite, ↓bd3_ite, ↓bd4_ite, Option.isSome_some, Option.getD_some, qp, a1, k0, k87, n87, g6, p6, k86, n86, kq]
    exact c1
end DLE
