/-! A RANDOM LINE: its tenants -/
section LT
variable {SS SV : Nat → Nat} {Y0 Y Y' : XY} {N0 N N' : XN} {B bf rnd q q0 H L R k n b : Nat} {pl : Nat → Nat} {T : Nat → Nat} {e : XD} {bs : List Nat} {ts : List (Nat × Nat)} {ops0 : List Int32} {d0 : XD} {k0 p0 : Nat} {hd0 : Nat → XD}
/-- the row of tenants is filled -/
theorem L_324f {K169 : XY → Nat → Nat → Nat → Nat → Nat → Int32 → Int32 → Nat → Nat → XN → Option (Nat × XY × Nat × XN)} {a q1 p3 m f : Nat} {v5 : Int32} (ka : kc Y a = 1 ∧ kn Y a = m) (hm : m ≤ 3) (hH : m = 0 ∨ (0 < H ∧ H ≤ 4)) (hf : f < 5) : ∀ (z j D9 : Nat) (N : XN), j + z = m → z < D9 → ∃ N' D8, f_L_randomDesk_324 SS SV K169 D9 Y q1 B bf rnd p3 (nI H) v5 a (nI f) (nI j) k n N = f_L_randomDesk_324 SS SV K169 (D8 + 1) Y q1 B bf rnd p3 (nI H) v5 a (nI f) (nI m) k n N' ∧ (∀ c i, c ≠ a → gi N' c i = gi N c i) ∧ ∀ i, gi N' a i = if j ≤ i ∧ i < m then nI ((f + i) % H) else gi N a i := by
  intro z
  induction z with
  | zero =>
    intro j D9 N hj hD
    obtain ⟨D8, rfl⟩ : ∃ z, D9 = z + 1 := ⟨D9 - 1, by omega⟩
    exact ⟨N, D8, by rw [show j = m by omega], fun _ _ _ => rfl, fun i => by rw [if_neg (by omega)]⟩
  | succ z ih =>
    intro j D9 N hj hD
    obtain ⟨D8, rfl⟩ : ∃ z, D9 = z + 1 := ⟨D9 - 1, by omega⟩
    have hH' : 0 < H ∧ H ≤ 4 := by omega
    have er : nI f + nI j - (nI f + nI j) / nI H * nI H = nI ((f + j) % H) := by rw [nI_add]; exact pk_rem (by omega) hH'.1 (by omega)
    obtain ⟨N', D7, g1, g2, g3⟩ := ih (j + 1) D8 (si N a j (nI ((f + j) % H))) (by omega) (by omega)
    have nz : (nI H = nI 0) = False := eq_false (fun q => by have := (nI_eq (by omega) (by omega)).mp q; omega)
    refine ⟨N', D7, ?_, fun c i hc => (g2 c i hc).trans (gi_si_n (Or.inl hc)), fun i => ?_⟩
    · rw [f_L_randomDesk_324]
      simp (disch := omega) only [↓ck, ↓lt_eq, nI_lit, nI_clamp, xb_nI, ofN, ↓reduceIte, pLEt, pLEf, pLTt, pLTf, pEQf, pML, pMG, pMf, pMg, ka.1, ka.2, nz, not_false_eq_true, er, nI_add j 1]
      exact g1
    · rw [g3 i]
      by_cases q : j + 1 ≤ i ∧ i < m
      · rw [if_pos q, if_pos (by omega)]
      · rw [if_neg q]
        by_cases q2 : i = j
        · rw [q2, gi_si, if_pos (by omega)]
        · rw [gi_si_n (Or.inr q2), if_neg (by omega)]
theorem L_324 {K169 : XY → Nat → Nat → Nat → Nat → Nat → Int32 → Int32 → Nat → Nat → XN → Option (Nat × XY × Nat × XN)} (h : MST SS SV Y0 N0 Y q N B bf rnd q0 pl H L T e bs ops0 d0 k0 p0 hd0) (hl : bs.length ≤ 620) {N1 : XN} (hN1 : ∀ c, c ≠ q → ∀ j, (c ≠ rnd ∨ j ≠ 0) → gi N1 c j = gi N c j) {m f : Nat} (hm : m ≤ 3 ∧ m ≤ H) (hf : f < 5) (hH : m = 0 ∨ 0 < H) (hk : k + 1 ≤ 400 ∧ n + 64 ≤ 40000) {v5 : Int32} :
    ∃ Y' N' pl' xs, f_L_randomDesk_324 SS SV K169 FU (yK Y q 1 m) (q + 1) B bf rnd (pl 0) (nI H) v5 q (nI f) (nI 0) k n N1 = K169 Y' (q + 2) B bf rnd (pl 0) (nI H) (v5 + -nI 1) (k + 1) (n + 64) N' ∧ DK Y' (q + 2) N' pl' H (L + 1) 0 (fun l => if l = L then m else T l) [] (eTn e L xs) ∧ (∀ g, us H (L + 1) (L + 1) 0 g → q0 ≤ pl' g) ∧ EV9 SS SV Y0 N0 Y' N' B bf rnd q0 ∧ TXT N' B bf (bs ++ (nums xs ++ [59])) ∧ (∃ P c, QD P [] (eTn e L xs) c) ∧ IK B N' ops0 d0 k0 p0 hd0 ∧ (TV e L xs ∧ xs.length ≤ 3 ∧ ∀ x, x ∈ xs → x ≤ 9999) ∧ pl' 0 = pl 0 ∧ gr Y' (pl 0) 7 = none := by
  obtain ⟨⟨hMK, hY, hN⟩, ⟨s1, s2, s3, s4, s5⟩, ⟨h4, hL3⟩, ⟨hq0, hqq, h70⟩, hE, hT, ⟨P, c, hQ⟩, hI⟩ := h
  have lt := fun g (hg : us H (L + 1) L 0 g) => us_lt hMK hY hg
  obtain ⟨⟨c1, c2, c3, c4⟩, ⟨b1, b2, b3, b4⟩, ⟨r1, r2, r3⟩, -, -⟩ := id hE
  have u0 : us H (L + 1) L 0 0 := by unfold us; omega
  have u86 : us H (L + 1) L 0 86 := by unfold us; omega
  have l0 := lt 0 u0
  have l86 := lt 86 u86
  have o0 := hq0 0 u0
  have m1 := hMK.nx (c := 1) (m := m)
  have y1 : ∀ c, c < q → (kc (yK Y q 1 m) c = kc Y c ∧ kn (yK Y q 1 m) c = kn Y c) ∧ ∀ j, gr (yK Y q 1 m) c j = gr Y c j := fun c hc => ⟨yK_ne (by omega) (by omega), fun j => yK_gr (by omega) j⟩
  have kq1 : kc (yK Y q 1 m) q = 1 ∧ kn (yK Y q 1 m) q = m := ⟨kcq rfl, knq rfl⟩
  obtain ⟨N2, D8, e1, e2, e3⟩ := L_324f (SS := SS) (SV := SV) (B := B) (bf := bf) (rnd := rnd) (k := k) (n := n) (K169 := K169) (q1 := q + 1) (p3 := pl 0) (v5 := v5) (H := H) (f := f) kq1 hm.1 (by omega) hf m 0 FU N1 (by omega) (by unfold FU; omega)
  have a2 : ∀ c, c ≠ q → ∀ j, (c ≠ rnd ∨ j ≠ 0) → gi N2 c j = gi N c j := fun c hc j hj => (e2 c j hc).trans (hN1 c hc j hj)
  obtain ⟨xs, hxs⟩ : ∃ xs, xs = tn f H 0 m := ⟨_, rfl⟩
  obtain ⟨t1, t2, t3⟩ := tn_at f H m 0
  rw [← hxs] at t1 t2 t3
  have tpw : xs.Pairwise (· ≠ ·) := by rw [hxs]; exact tn_pw f H m 0 hm.2
  have q2 : ∀ i, i < m → gi N2 q i = nI (gd xs i) := fun i hi => by rw [e3 i, if_pos ⟨Nat.zero_le _, hi⟩, t2 i hi, Nat.zero_add]
  have mem : ∀ x, x ∈ xs → x < H := fun x hx => by
    obtain ⟨i, i1, i2⟩ := t3 x hx
    rw [i2]
    exact Nat.mod_lt _ (by omega)
  have gdH : ∀ i, i < m → gd xs i ≤ 4 := fun i hi => by
    rw [t2 i hi]
    have := Nat.mod_lt (f + (0 + i)) (show 0 < H by omega)
    omega
  have hTV : TV e L xs := TV_of xs e (by rw [s5, t1]; omega) (fun x hx => by rw [s1]; exact mem x hx) tpw (by omega) (fun k hk => by rw [s5] at hk; omega)
  obtain ⟨c', hQ'⟩ := QD_eTn xs e c hQ (by omega) hTV
  obtain ⟨x1, x2, x3⟩ := eTn_at (l := L) xs e (by rw [s5, t1]; omega)
  rw [s5] at x1 x2 x3
  obtain ⟨Y9, w1, w2, w3, w4, w5, w6, w7⟩ := D_with9 (N := N2) (a := pl 86) (b := q) (n := L) (r := fun i => pl (16 + i)) m1 ((y1 _ l86).1.1.trans hY.k86) ((y1 _ l86).1.2.trans hY.n86) (kcq rfl) (by omega) (fun i hi => by
    have li := lt (16 + i) (by unfold us; omega)
    exact ⟨((y1 _ l86).2 i).trans (hY.gt hi), (y1 _ li).1.1.trans (hY.kt hi)⟩)
  have k9 : kc Y9 (pl 0) = 18 := ((w3 _ (by omega)).1.1).trans ((y1 _ l0).1.1.trans hY.k0)
  obtain ⟨Y13, hY13⟩ : ∃ M, M = sr Y9 (pl 0) 5 (some (q + 1)) := ⟨_, rfl⟩
  have gA : gr Y13 (pl 0) 5 = some (q + 1) := by rw [hY13]; exact gr_sr_s
  have gb : gr Y13 (q + 1) L = some q := by rw [hY13]; exact (gr_sr_ne (by omega) L).trans w6
  have m13 : MK Y13 (q + 2) := by rw [hY13]; exact w2
  have kk13 : ∀ c, kc Y13 c = kc Y9 c ∧ kn Y13 c = kn Y9 c := fun c => by rw [hY13]; exact ⟨rfl, rfl⟩
  have g13 : ∀ c j, (c ≠ pl 0 ∨ j ≠ 5) → gr Y13 c j = gr Y9 c j := fun c j hj => by
    rw [hY13]
    rcases hj with hj | hj
    · exact gr_sr_ne hj j
    · exact gr_sr_nf hj
  have low : ∀ c, c < q → (kc Y13 c = kc Y c ∧ kn Y13 c = kn Y c) ∧ ∀ j, (c ≠ pl 0 ∨ j ≠ 5) → gr Y13 c j = gr Y c j := fun c hc => ⟨⟨(kk13 c).1.trans ((w3 c (by omega)).1.1.trans (y1 c hc).1.1), (kk13 c).2.trans ((w3 c (by omega)).1.2.trans (y1 c hc).1.2)⟩, fun j hj => (g13 c j hj).trans (((w3 c (by omega)).2 j).trans ((y1 c hc).2 j))⟩
  have kq13 : kc Y13 q = 1 ∧ kn Y13 q = m := ⟨(kk13 q).1.trans ((w3 q (by omega)).1.1.trans (kcq rfl)), (kk13 q).2.trans ((w3 q (by omega)).1.2.trans (knq rfl))⟩
  have a11 : ∀ c j, c ≠ q + 1 → gi (n0 N2 (q + 1)) c j = gi N2 c j := fun c j hc => n0_ne hc j
  have w13 : WT Y → WT Y13 := fun w => by
    rw [hY13]
    exact (w7 (w.nx hMK (by omega))).sr8 (Or.inr (by omega))
  have rf : RF rnd q0 Y N Y13 (n0 N2 (q + 1)) := fun c hc => ⟨(low c (by omega)).1, fun j => (low c (by omega)).2 j (by omega), fun j hj => (a11 c j (by omega)).trans (a2 c (by omega) j hj)⟩
  have hE' := hE.rf rf w13
  have hT' := hT.rf rf ⟨b3, b4, fun z => by rw [z, r1] at b1; omega⟩ r2
  have hI' := hI.rf rf (by omega) r2
  have hW13 := hE'.1.2.2.2
  obtain ⟨N16, N19, f1, f2, f3, f4⟩ := W_row (a := q) (xs := xs) hE' hT' hE'.cz.2.1.2.2.2.2.2.1 ⟨kq13.1, kq13.2.trans t1.symm⟩ hqq (fun j hj => by
    rw [t1] at hj
    exact ⟨(a11 q j (by omega)).trans (q2 j hj), by have := gdH j hj; omega⟩) (by omega) (show bs.length + 0 + 5 * xs.length ≤ 654 by omega)
  have ftq : ∀ c j, q0 ≤ c → gi N19 c j = gi (n0 N2 (q + 1)) c j := fun c j hc => by unfold gi; rw [f4.1 c (by omega) (by omega) (by omega)]
  have hT1L : (fun l => if l = L then m else T l) (16 + L - 16) = m := if_pos (by omega)
  have hT1n : ∀ l, l ≠ L → (fun l => if l = L then m else T l) l = T l := fun l h => if_neg h
  have pl9 : ∀ g, plG pl (16 + L) 86 q (q + 1) g = if g = 16 + L then q else if g = 86 then q + 1 else pl g := fun g => rfl
  refine ⟨Y13, N19, plG pl (16 + L) 86 q (q + 1), xs, ?_, ⟨m13, ?_, ?_, ⟨(nH_same (x3 1 (by omega) (by omega))).trans s1, (nL_same (x3 2 (by omega) (by omega))).trans s2, (nR_same (x3 3 (by omega) (by omega))).trans s3, fun l hl => ?_⟩, hQ'.1, h4, by omega⟩, fun g hg => ?_, hE'.ft f4, f3, ⟨P, c', hQ'⟩, hI'.ft f4 b3, ⟨hTV, by omega, fun x hx => by have := mem x hx; omega⟩, by rw [pl9, if_neg (by omega), if_neg (by omega)], ((low _ l0).2 7 (Or.inr (by omega))).trans h70⟩
  · rw [e1, f_L_randomDesk_324]
    have bk2 : k + 1 ≤ 400 ∧ n + 64 ≤ 40000 := hk
    have k0' : kc (yK Y q 1 m) (pl 0) = 18 := (y1 _ l0).1.1.trans hY.k0
    have g5 : gr (yK Y q 1 m) (pl 0) 5 = some (pl 86) := ((y1 _ l0).2 5).trans hY.g5
    have p5 := gp_of g5
    simp (disch := omega) only [↓ck, ↓lt_eq, nI_lit, ofN, ↓reduceIte, pLEt, pLEf, pLTt, pLTf, pEQf, pML, pMG, pMf, pMg, ↓bd_ite, ↓bd2_ite, ↓bd3_ite, ↓bd4_ite, Option.isSome_some, Option.getD_some, kq1.1, kq1.2, k0', g5, p5, eq_true bk2, w1, k9, ← hY13, ↓ckW_t hW13, f1, f2]
  · refine hY.grow2 (b := q) (A := q + 1) (gn := 16 + L) (G := 86) ⟨by omega, by omega, by omega, by omega⟩ (fun g => by unfold us; omega) (by unfold us; omega) ⟨by unfold pg; (repeat' split) <;> omega, by omega, by omega, by omega, by unfold kg; (repeat' split) <;> omega⟩ (fun g hg hne => ?_) (fun g hg => ⟨by have := lt g hg; omega, by have := lt g hg; omega⟩) (by omega) (fun g hg _ => (low _ (lt g hg)).1) (fun g j hg hne hj => (low _ (lt g hg)).2 j ?_) ⟨kq13.1, kq13.2.trans ?_⟩ ⟨(kk13 _).1.trans w4.1, (kk13 _).2.trans (w4.2.trans ?_)⟩ gA (fun g hg h0 e => ?_) ?_
    · unfold ng
      unfold us at hg
      by_cases z1 : g = 1
      · rw [if_pos z1, if_pos z1]
      · rw [if_neg z1, if_neg z1]
        by_cases z2 : g < 8
        · rw [if_pos z2, if_pos z2]
        · rw [if_neg z2, if_neg z2]
          by_cases z3 : g < 16
          · rw [if_pos z3, if_pos z3]
          · rw [if_neg z3, if_neg z3]
            by_cases z4 : g < 24
            · rw [if_pos z4, if_pos z4]; exact hT1n _ (by omega)
            · rw [if_neg z4, if_neg z4, if_neg hne, if_neg hne]
    · rcases hj with hj | hj
      · exact Or.inl (fun e => hj (hY.P _ _ hg u0 e))
      · exact Or.inr hj
    · unfold ng
      rw [if_neg (by omega), if_neg (by omega), if_neg (by omega), if_pos (by omega)]; exact hT1L.symm
    · unfold ng
      (repeat' split) <;> omega
    · have e2 : 16 ≤ g ∧ g < 24 := by
        unfold us at hg
        unfold pg at e
        (repeat' split at e) <;> omega
      have e3 : og g = g - 16 := by unfold og; (repeat' split) <;> omega
      rw [e3, g13 _ _ (Or.inl (by omega)), w5 _ (by unfold us at hg; omega), show 16 + (g - 16) = g by omega]
    · have e3 : og (16 + L) = L := by unfold og; (repeat' split) <;> omega
      rw [e3]
      exact gb
  · refine hN.grow (gn := 16 + L) ⟨by omega, by omega, by omega, by omega, fun l hl => ?_⟩ (fun g j hv => ?_) (fun g j hv hne => ⟨?_, ?_⟩) (fun j hv => ?_)
    · show (if l = L then m else T l) ≤ 3
      by_cases z : l = L
      · rw [if_pos z]; omega
      · rw [if_neg z]; exact hN.1.2.2.2.2 l (by omega)
    · by_cases z : g = 16 + L
      · exact Or.inr z
      · refine Or.inl ?_
        unfold vd at hv ⊢
        rcases hv with hv | hv | hv | hv | hv | hv
        · exact Or.inl hv
        · exact Or.inr (Or.inl hv)
        · exact Or.inr (Or.inr (Or.inl hv))
        · exact Or.inr (Or.inr (Or.inr (Or.inl hv)))
        · refine Or.inr (Or.inr (Or.inr (Or.inr (Or.inl ⟨hv.1, by omega, ?_⟩))))
          have := hv.2.2
          rw [hT1n _ (by omega)] at this
          exact this
        · exact Or.inr (Or.inr (Or.inr (Or.inr (Or.inr hv))))
    · have hg := vd_us hv
      have e : plG pl (16 + L) 86 q (q + 1) g = pl g := by
        rw [pl9, if_neg hne, if_neg (by unfold vd at hv; omega)]
      show gi N19 (plG pl (16 + L) 86 q (q + 1) g) j = gi N (pl g) j
      have lg := lt g hg
      have og := hq0 g hg
      rw [e, ftq _ j og, a11 _ j (by omega)]
      exact a2 _ (by omega) j (Or.inl (by omega))
    · have hv' := hv
      have t3 : g - 16 < L → T (g - 16) ≤ 3 := hN.1.2.2.2.2 (g - 16)
      unfold vd at hv'
      refine x3 _ ?_ ?_ <;> (unfold ixg; (repeat' split) <;> omega)
    · have e : plG pl (16 + L) 86 q (q + 1) (16 + L) = q := if_pos rfl
      have hjm : j < m := by
        unfold vd at hv
        rcases hv with hv | hv | hv | hv | hv | hv
        · omega
        · omega
        · omega
        · omega
        · have := hv.2.2
          rw [hT1L] at this
          exact this
        · omega
      have ei : ixg (16 + L) j = 52 + 7 * L + 0 + j := by unfold ixg; (repeat' split) <;> omega
      show gi N19 (plG pl (16 + L) 86 q (q + 1) (16 + L)) j = _
      rw [e, ei, ftq _ j hqq, a11 _ j (by omega), q2 j hjm, x2 j (by omega)]
  · show nT (eTn e L xs) l = if l = L then m else T l
    by_cases z : l = L
    · rw [if_pos z, z, x1, t1]; omega
    · rw [if_neg z, nT_same (x3 _ (by omega) (by omega))]
      exact s4 l (by omega)
  · rw [pl9]
    by_cases e9 : g = 16 + L
    · rw [if_pos e9]; exact hqq
    · rw [if_neg e9]
      by_cases e8 : g = 86
      · rw [if_pos e8]; omega
      · rw [if_neg e8]
        exact hq0 g (by unfold us at hg ⊢; omega)
end LT
