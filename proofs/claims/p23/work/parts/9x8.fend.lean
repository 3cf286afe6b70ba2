/-! THE END OF A RANDOM DESK: a fine or none -/
section FE9
variable {SS SV : Nat → Nat} {Y0 Y Y' : XY} {N0 N N' : XN} {B bf rnd q q0 H L R k n b : Nat} {pl T : Nat → Nat} {e e' : XD} {ops ops0 : List Int32} {d0 : XD} {k0 p0 : Nat} {hd0 : Nat → XD} {bs : List Nat} {ts : List (Nat × Nat)}
theorem RF.of_tf {q2 : Nat} (h : TF q2 Y N Y' N') (hq : q0 ≤ q2) : RF rnd q0 Y N Y' N' := fun a ha => ⟨(h a (by omega)).1, (h a (by omega)).2.1, fun j _ => (h a (by omega)).2.2 j⟩
theorem RF.le {q2 : Nat} (h : RF rnd q2 Y N Y' N') (hq : q0 ≤ q2) : RF rnd q0 Y N Y' N' := fun a ha => h a (by omega)
theorem DY.sr7 {M v : Nat} (h : DY Y pl H L M R T) : DY (sr Y (pl 0) 7 (some v)) pl H L M R T := by
  refine ⟨h.1, h.2.1, fun g hg => ?_⟩
  obtain ⟨c1, c2⟩ := h.2.2 g hg
  refine ⟨c1, fun h0 => ⟨(c2 h0).1, ?_⟩⟩
  have := (c2 h0).2
  have hb := h.1
  obtain ⟨u1, -⟩ := us_pg h.1 hg h0
  by_cases e5 : pg g = 0
  · rw [e5] at this ⊢
    rw [gr_sr_nf ?_]
    · exact this
    · unfold us at hg
      unfold pg at e5
      unfold og
      (repeat' split at e5) <;> (repeat' split) <;> omega
  · rw [gr_sr_ne (fun e => e5 (h.P _ _ u1 (by unfold us; omega) e))]
    exact this
theorem E_last {Y' : XY} {q' : Nat} {N' : XN} (h : RD9 SS SV Y0 N0 B bf rnd q0 d0 k0 p0 hd0 Y' q' N' pl H L R T ops e') : kc Y' (pl 0) = 18 ∧ gr Y' (pl 0) 6 = some (pl 87) ∧ gp Y' (pl 0) 6 = pl 87 ∧ kc Y' (pl 87) = 8 ∧ kn Y' (pl 87) = R := by
  have hY := h.2.1.1.y
  exact ⟨hY.k0, hY.g6, gp_of hY.g6, hY.k87, hY.n87⟩
theorem U_end (h : BST SS SV Y0 N0 Y q N B bf rnd q0 pl H L R T e bs ts b ops0 d0 k0 p0 hd0) (hl : bs.length ≤ 600) (hk : k + 126 ≤ 400 ∧ n + 23128 ≤ 40000) (D8 : Nat) : ∃ Y' q' N' e' ops, f_L_randomDesk_597 SS SV (D8 + 1) Y q B bf rnd (pl 0) (nI 5) k n N = some (pl 0, Y', q', N') ∧ RD9 SS SV Y0 N0 B bf rnd q0 d0 k0 p0 hd0 Y' q' N' pl H L R T ops e' := by
  have hE0 := h.2.2.1
  obtain ⟨r1, r2, r3⟩ := id hE0.2.2.1
  obtain ⟨u, w, hu, e1⟩ := D_below (N := N) r1 (n := 2) (by omega) (by omega)
  have bk : k ≤ 400 ∧ n ≤ 40000 := ⟨by omega, by omega⟩
  by_cases cu : nI u = nI 0
  · obtain ⟨dp, w', hdp, e2⟩ := D_below (N := si N rnd 0 w) r1 (n := 3) (by omega) (by omega)
    obtain ⟨hD, ⟨hq0, hqq, h70⟩, hE, ⟨hT, hX, hB, hQ⟩, hI⟩ := (h.rn (w := w)).rn (w := w')
    have hm := hD.m
    have hY := hD.y
    have lt := fun g (hg : us H L L R g) => us_lt hm hY hg
    have u0 : us H L L R 0 := by unfold us; omega
    have l0 := lt 0 u0
    have o0 := hq0 0 u0
    obtain ⟨⟨c1, c2, c3, c4⟩, ⟨b1, b2, b3, b4⟩, -, -, -⟩ := id hE
    obtain ⟨Y14, q15, N16, f1, f2, f3, f4, f5, ops, tx, vl, f6, f7⟩ := R_random 3 dp Y q (si (si N rnd 0 w) rnd 0 w') hdp (by omega) hm r1
    have k14 : kc Y14 (pl 0) = 18 := (f4 _ l0).1.1.trans hY.k0
    obtain ⟨Y18, hY18⟩ : ∃ M, M = sr Y14 (pl 0) 7 (some q) := ⟨_, rfl⟩
    have g18 : gr Y18 (pl 0) 7 = some q := by rw [hY18]; exact gr_sr_s
    have p18 := gp_of g18
    have kk18 : ∀ c, kc Y18 c = kc Y14 c ∧ kn Y18 c = kn Y14 c := fun c => by rw [hY18]; exact ⟨rfl, rfl⟩
    have gg18 : ∀ c j, (c ≠ pl 0 ∨ j ≠ 7) → gr Y18 c j = gr Y14 c j := fun c j hj => by
      rw [hY18]
      rcases hj with hj | hj
      · exact gr_sr_ne hj j
      · exact gr_sr_nf hj
    have m18 : MK Y18 q15 := by rw [hY18]; exact f2
    have w18 : WT Y → WT Y18 := fun w => by rw [hY18]; exact (f5 w).sr8 (Or.inr (by omega))
    have rf18 : RF rnd q0 Y (si (si N rnd 0 w) rnd 0 w') Y18 N16 := fun c hc => ⟨⟨(kk18 c).1.trans (f4 c (by omega)).1.1, (kk18 c).2.trans (f4 c (by omega)).1.2⟩, fun j => (gg18 c j (Or.inl (by omega))).trans ((f4 c (by omega)).2.1 j), (f4 c (by omega)).2.2⟩
    have nbr : bf ≠ rnd := fun z => by rw [z, r1] at b1; omega
    have hE18 := hE.rf rf18 w18
    have hT18 := hT.rf rf18 ⟨b3, b4, nbr⟩ r2
    have hI18 := hI.rf rf18 (by omega) r2
    obtain ⟨⟨d1, d2, d3, d4⟩, ⟨d5, d6, -, -⟩, -, -, -⟩ := id hE18
    obtain ⟨N21, g1, g2, g3⟩ := T_write d2.1.1 ⟨d5, d6⟩ d1 (by omega) (show bs.length + 5 ≤ 660 by omega) hT18 hE18.cz.2.1.2.2.2.2.2.2.2.1.1
    have hE21 := hE18.ft g3
    have hI21 := hI18.ft g3 b3
    -- the tree
    have ft21 : ∀ c j, q0 ≤ c → gi N21 c j = gi N16 c j := fun c j hc => by unfold gi; rw [g3.1 c (by omega) (by omega) (by omega)]
    have nd21' : ND (dp + 1) Y18 N21 q ops tx vl := f7 Y18 N21 (fun c h1 h2 h3 => ⟨(kk18 c).1.trans h3, fun j => gg18 c j (Or.inl (by omega)), fun j => ft21 c j (by omega)⟩)
    have nd21 : ND 3 Y18 N21 q ops tx vl := by
      rcases (by omega : dp = 0 ∨ dp = 1 ∨ dp = 2) with rfl | rfl | rfl
      · exact ND.mono 2 (ND.mono 1 nd21')
      · exact ND.mono 2 nd21'
      · exact nd21'
    have ltx : (tx 0).length ≤ 39 := by
      have h0 := f6 0
      rcases (by omega : dp = 0 ∨ dp = 1 ∨ dp = 2) with rfl | rfl | rfl
      · have : tlN 0 = 6 := rfl
        omega
      · have : tlN 1 = 17 := rfl
        omega
      · have : tlN 2 = 39 := rfl
        omega
    have kq18 := nd21.k
    obtain ⟨Y29, q30, N31, r27, i1, i2, i3, i4, i5, i6, -⟩ := R_text (SS := SS) (SV := SV) (B := B) 3 (lev := 0) nd21 (by omega) (by omega) m18 (by omega) hE21.cz.1
    have rf29 : RF rnd q0 Y18 N21 Y29 N31 := RF.of_tf i4 (by omega)
    have hE29 := hE21.rf rf29 i5
    have hT29 := g2.rf rf29 ⟨b3, b4, nbr⟩ r2
    have hI29 := hI21.rf rf29 (by omega) r2
    obtain ⟨⟨t1, t2, t3, t4⟩, ⟨t5, t6, -, -⟩, -, -, -⟩ := id hE29
    have l5 : (wB 9 ++ [32]).length = 5 := rfl
    obtain ⟨N34, j1, j2, j3⟩ := T_write t2.1.1 ⟨t5, t6⟩ t1 (by omega) (by rw [List.length_append, l5]; omega) hT29 i6
    have hE34 := hE29.ft j3
    obtain ⟨N37, v1, v2, v3⟩ := T_write t2.1.1 ⟨t5, t6⟩ t1 (by omega) (by rw [List.length_append, List.length_append, l5]; show bs.length + 5 + (tx 0).length + 2 ≤ 660; omega) j2 hE34.cz.2.1.2.2.2.2.2.2.2.2.1
    have hE37 := hE34.ft v3
    have hI37 := (hI29.ft j3 b3).ft v3 b3
    have ft37 : ∀ c j, q0 ≤ c → gi N37 c j = gi N31 c j := fun c j hc => by
      unfold gi
      rw [v3.1 c (by omega) (by omega) (by omega), j3.1 c (by omega) (by omega) (by omega)]
    -- the desk
    have kg : ∀ g, us H L L R g → pl g < q15 := fun g hg => by have := lt g hg; omega
    have hQ18 : DQ Y18 N16 pl H L R T [] e := by
      have a := (hD.q.same (Y' := Y14) (N' := N16) (fun g hg => ⟨(f4 _ (lt g hg)).1, (f4 _ (lt g hg)).2.1, fun j => (f4 _ (lt g hg)).2.2 j (Or.inl (by have := hq0 g hg; omega))⟩))
      refine ⟨?_, a.n, a.s, a.j, a.h4, a.l3⟩
      rw [hY18]
      exact a.y.sr7
    have hQ37 : DQ Y29 N37 pl H L R T [] e := hQ18.same (fun g hg => ⟨(i4 _ (kg g hg)).1, (i4 _ (kg g hg)).2.1, fun j => (ft37 _ j (hq0 g hg)).trans (((i4 _ (kg g hg)).2.2 j).trans (ft21 _ j (hq0 g hg)))⟩)
    have nd37 : ND 3 Y29 N37 q ops tx vl := nd21.keep 3 (fun c hc => by
      have lc := m18.inn (a := c) (by omega) (by omega)
      have x := i4 c lc
      refine ⟨x.1.1.trans hc, x.2.1, fun j => ?_⟩
      have e29 : kc Y29 c = 19 := x.1.1.trans hc
      have k2 := (bytes_k t4 t1 t2).1
      have hf : gi N37 c j = gi N31 c j := by
        unfold gi
        rw [v3.1 c (fun z => by rw [← z] at t5; omega) (fun z => by rw [← z] at t1; omega) (fun z => by rw [← z] at k2; omega), j3.1 c (fun z => by rw [← z] at t5; omega) (fun z => by rw [← z] at t1; omega) (fun z => by rw [← z] at k2; omega)]
      exact hf.trans (x.2.2 j))
    have hTM : TM Y29 N37 (pl 0) ops := Or.inr ⟨q, tx, vl, ((i4 _ (by omega)).2.1 7).trans g18, nd37⟩
    obtain ⟨tk, a1, a2, a3⟩ := V_ND 3 nd37 (by omega)
    have hX' : LXR (bs ++ (wB 9 ++ [32]) ++ tx 0 ++ [32, 59]) ((10, 0) :: (3, 0) :: (ts ++ (19, 0) :: (tk 0 ++ [(3, 0)]))) := by
      have a := LX_more hX (LXR.wd 9 (by omega) 32 rfl (LXR.sp (a2 0 32 [59] [(3, 0)] rfl rfl (LXR.sp (LXR.sg 59 (by decide) LXR.nil)))))
      have ee : bs ++ (wB 9 ++ [32]) ++ tx 0 ++ [32, 59] = bs ++ (wB 9 ++ 32 :: (tx 0 ++ 32 :: [59])) := by
        rw [List.append_assoc, List.append_assoc, List.append_assoc]
        rfl
      rw [ee]
      exact a
    obtain ⟨Y41, N43, e', s1, s2⟩ := E_load (q := q30) i2 (by omega) hQ37 hTM hq0 hE37 v2 hX' ⟨b, ts, hB, Or.inr ⟨3, tk, by omega, a1, a3, rfl⟩⟩ hI37
    obtain ⟨z1, z2, z3, z4, z5⟩ := E_last s2
    refine ⟨Y41, q30, N43, e', ops, ?_, s2⟩
    have bk1 : k + 7 ≤ 400 ∧ n + 28 ≤ 40000 := ⟨by omega, by omega⟩
    have bk2 : k + 7 + 119 ≤ 400 ∧ n + 28 + 23100 ≤ 40000 := ⟨by omega, by omega⟩
    rw [f_L_randomDesk_597]
    simp (disch := omega) only [↓ck, ↓lt_eq, nI_lit, ofN, ↓reduceIte, pLEt, pLEf, pLTt, pLTf, pEQf, pML, pMG, pMf, pMg, ↓bd_ite, ↓bd2_ite, ↓bd3_ite, ↓bd4_ite, Option.isSome_some, Option.getD_some, r1, eq_true bk, e1, eq_true cu, e2, eq_true bk1, f1, k14, ← hY18, ↓ckW_t d4, g1, g18, p18, kq18, eq_true bk2, i1, ↓ckW_t t4, j1, v1, s1, z1, z2, z3, z4, z5]
  · obtain ⟨hD, ⟨hq0, hqq, h70⟩, hE, ⟨hT, hX, hB, hQ⟩, hI⟩ := h.rn (w := w)
    obtain ⟨Y', N', e', f1, f2⟩ := E_load (ops := []) hD.m hqq hD.q (Or.inl ⟨h70, rfl⟩) hq0 hE hT hX ⟨b, ts, hB, Or.inl ⟨rfl, rfl⟩⟩ hI
    obtain ⟨z1, z2, z3, z4, z5⟩ := E_last f2
    have hW := hE.1.2.2.2
    refine ⟨Y', q, N', e', [], ?_, f2⟩
    rw [f_L_randomDesk_597]
    simp (disch := omega) only [↓ck, ↓lt_eq, nI_lit, ofN, ↓reduceIte, pLEt, pLEf, pLTt, pLTf, pEQf, pML, pMG, pMf, pMg, ↓bd_ite, ↓bd2_ite, ↓bd3_ite, ↓bd4_ite, Option.isSome_some, Option.getD_some, r1, eq_true bk, e1, eq_false cu, ↓ckW_t hW, f1, z1, z2, z3, z4, z5]
end FE9
