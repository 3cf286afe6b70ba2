/-! RANDOM NUMBERS OF A DESK: the loop -/
section RUM
variable {SS SV : Nat → Nat} {Y0 Y Y' : XY} {N0 N N' : XN} {B bf rnd q q0 H L R k n b : Nat} {T : Nat → Nat} {ops0 : List Int32} {d0 : XD} {k0 p0 : Nat} {hd0 : Nat → XD}
/-- the random numbers' seed alone is new -/
theorem BST.rn {pl : Nat → Nat} {e : XD} {bs : List Nat} {ts : List (Nat × Nat)} (h : BST SS SV Y0 N0 Y q N B bf rnd q0 pl H L R T e bs ts b ops0 d0 k0 p0 hd0) {w : Int32} : BST SS SV Y0 N0 Y q (si N rnd 0 w) B bf rnd q0 pl H L R T e bs ts b ops0 d0 k0 p0 hd0 := by
  obtain ⟨hD, ⟨hq0, hqq⟩, hE, ⟨hT, hX, hB⟩, hI⟩ := h
  obtain ⟨r1, r2, r3⟩ := id hE.2.2.1
  have b14 := hE.2.1
  have rf : RF rnd q0 Y N Y (si N rnd 0 w) := fun c hc => ⟨⟨rfl, rfl⟩, fun _ => rfl, fun j hj => gi_si_n (by omega)⟩
  exact ⟨hD.sameN (fun g hg j => gi_si_n (Or.inl (by have := hq0 g hg; omega))), ⟨hq0, hqq⟩, hE.rf rf (fun w => w), ⟨hT.rf rf ⟨b14.2.2.1, b14.2.2.2, fun z => by have := b14.1; rw [z, r1] at this; omega⟩ r2, hX, hB⟩, hI.rf rf (by omega) r2⟩
theorem U_597 {pl : Nat → Nat} : ∀ (z v D9 : Nat) {Y : XY} {q : Nat} {N : XN} {e : XD} {bs : List Nat} {ts : List (Nat × Nat)} {k n b : Nat}, BST SS SV Y0 N0 Y q N B bf rnd q0 pl H L R T e bs ts b ops0 d0 k0 p0 hd0 → v + z = 5 → b ≤ v → z < D9 → bs.length + 14 * z ≤ 600 → k + z ≤ 400 → n + z ≤ 40000 →
    ∃ Y' q' N' e' bs' ts' b' D8 k' n', f_L_randomDesk_597 SS SV D9 Y q B bf rnd (pl 0) (nI v) k n N = f_L_randomDesk_597 SS SV (D8 + 1) Y' q' B bf rnd (pl 0) (nI 5) k' n' N' ∧ BST SS SV Y0 N0 Y' q' N' B bf rnd q0 pl H L R T e' bs' ts' b' ops0 d0 k0 p0 hd0 ∧ bs'.length ≤ bs.length + 14 * z ∧ k' ≤ k + z ∧ n' ≤ n + z := by
  intro z
  induction z with
  | zero =>
    intro v D9 Y q N e bs ts k n b h hv hb hD _ _ _
    obtain ⟨D8, rfl⟩ : ∃ z, D9 = z + 1 := ⟨D9 - 1, by omega⟩
    exact ⟨Y, q, N, e, bs, ts, b, D8, k, n, by rw [show v = 5 by omega], h, by omega, by omega, by omega⟩
  | succ z ih =>
    intro v D9 Y q N e bs ts k n b h hv hb hD hl hk hn
    obtain ⟨D8, rfl⟩ : ∃ z, D9 = z + 1 := ⟨D9 - 1, by omega⟩
    have hY := h.1.y
    have hE := h.2.2.1
    obtain ⟨r1, r2, r3⟩ := id hE.2.2.1
    obtain ⟨u, w, hu, e1⟩ := D_below (N := N) r1 (n := 2) (by omega) (by omega)
    have bk : k ≤ 400 ∧ n ≤ 40000 := ⟨by omega, by omega⟩
    by_cases cu : nI u = nI 0
    · obtain ⟨Y', q', N', e', bs', ts', b', D7, k', n', g1, g2, g3, g4, g5⟩ := ih (v + 1) D8 (k := k) (n := n) (h.rn (w := w)) (by omega) (by omega) (by omega) (by omega) (by omega) (by omega)
      refine ⟨Y', q', N', e', bs', ts', b', D7, k', n', ?_, g2, by omega, by omega, by omega⟩
      rw [f_L_randomDesk_597]
      simp (disch := omega) only [↓ck, ↓lt_eq, bd_some, bd2_some, ofN, nI_lit, nI_clamp, nI_add, xb_nI, hY.k0, hY.g2, hY.g3, hY.g4, hY.g5, hY.g6, hY.p2, hY.p3, hY.p4, hY.p5, hY.p6, hY.k1, hY.n1, hY.k84, hY.n84, hY.k85, hY.n85, hY.k86, hY.n86, hY.k87, hY.n87, hY.gh, hY.ph, hY.kh, hY.nh, hY.gl, hY.pl', hY.kl, hY.nl, hY.gt, hY.pt, hY.kt, hY.nt, hY.gr', hY.pr, hY.kr, hY.nr, ↓reduceIte, pLEt, pLEf, pLTt, pLTf, pEQf, pML, pMG, pMf, pMg, ↓bd_ite, ↓bd2_ite, ↓bd3_ite, ↓bd4_ite, Option.isSome_some, Option.getD_some, r1, eq_true bk, e1, eq_true cu]
      exact g1
    · obtain ⟨y, w', hy, e2⟩ := D_below (N := si N rnd 0 w) r1 (n := 3) (by omega) (by omega)
      have go : ∀ t, 0 < t ∧ t ≤ 20 → ∃ Y' q' N' e' bs' ts' b' D7 k' n', f_L_randomDesk_636 SS SV (f_L_randomDesk_597 SS SV D8) Y q B bf rnd (pl 0) (nI v) (nI t) rnd 1 (nI v) (pl 1) k n (si (si N rnd 0 w) rnd 0 w') = f_L_randomDesk_597 SS SV (D7 + 1) Y' q' B bf rnd (pl 0) (nI 5) k' n' N' ∧ BST SS SV Y0 N0 Y' q' N' B bf rnd q0 pl H L R T e' bs' ts' b' ops0 d0 k0 p0 hd0 ∧ bs'.length ≤ bs.length + 14 * (z + 1) ∧ k' ≤ k + (z + 1) ∧ n' ≤ n + (z + 1) := fun t ht => by
        obtain ⟨Y1, N1, e1', bs1, ts1, f1, f2, f3⟩ := U_636 (K597 := f_L_randomDesk_597 SS SV D8) (k := k) (n := n) h (v := v) (by omega) hb (by omega) (N1 := si (si N rnd 0 w) rnd 0 w') (fun c j hj => by rw [gi_si_n (by omega), gi_si_n (by omega)]) ht ⟨by omega, by omega⟩
        obtain ⟨Y', q', N', e', bs', ts', b', D7, k', n', g1, g2, g3, g4, g5⟩ := ih (v + 1) D8 (k := k + 1) (n := n + 1) f2 (by omega) (Nat.le_refl _) (by omega) (by omega) (by omega) (by omega)
        exact ⟨Y', q', N', e', bs', ts', b', D7, k', n', f1.trans g1, g2, by omega, by omega, by omega⟩
      by_cases cv : nI y = nI 0
      · obtain ⟨Y', q', N', e', bs', ts', b', D7, k', n', g1, g2⟩ := go 20 (by omega)
        refine ⟨Y', q', N', e', bs', ts', b', D7, k', n', ?_, g2⟩
        rw [f_L_randomDesk_597]
        simp (disch := omega) only [↓ck, ↓lt_eq, bd_some, bd2_some, ofN, nI_lit, nI_clamp, nI_add, xb_nI, hY.k0, hY.g2, hY.g3, hY.g4, hY.g5, hY.g6, hY.p2, hY.p3, hY.p4, hY.p5, hY.p6, hY.k1, hY.n1, hY.k84, hY.n84, hY.k85, hY.n85, hY.k86, hY.n86, hY.k87, hY.n87, hY.gh, hY.ph, hY.kh, hY.nh, hY.gl, hY.pl', hY.kl, hY.nl, hY.gt, hY.pt, hY.kt, hY.nt, hY.gr', hY.pr, hY.kr, hY.nr, ↓reduceIte, pLEt, pLEf, pLTt, pLTf, pEQf, pML, pMG, pMf, pMg, ↓bd_ite, ↓bd2_ite, ↓bd3_ite, ↓bd4_ite, Option.isSome_some, Option.getD_some, r1, eq_true bk, e1, eq_false cu, e2, eq_true cv]
        exact g1
      · obtain ⟨Y', q', N', e', bs', ts', b', D7, k', n', g1, g2⟩ := go 5 (by omega)
        refine ⟨Y', q', N', e', bs', ts', b', D7, k', n', ?_, g2⟩
        rw [f_L_randomDesk_597]
        simp (disch := omega) only [↓ck, ↓lt_eq, bd_some, bd2_some, ofN, nI_lit, nI_clamp, nI_add, xb_nI, hY.k0, hY.g2, hY.g3, hY.g4, hY.g5, hY.g6, hY.p2, hY.p3, hY.p4, hY.p5, hY.p6, hY.k1, hY.n1, hY.k84, hY.n84, hY.k85, hY.n85, hY.k86, hY.n86, hY.k87, hY.n87, hY.gh, hY.ph, hY.kh, hY.nh, hY.gl, hY.pl', hY.kl, hY.nl, hY.gt, hY.pt, hY.kt, hY.nt, hY.gr', hY.pr, hY.kr, hY.nr, ↓reduceIte, pLEt, pLEf, pLTt, pLTf, pEQf, pML, pMG, pMf, pMg, ↓bd_ite, ↓bd2_ite, ↓bd3_ite, ↓bd4_ite, Option.isSome_some, Option.getD_some, r1, eq_true bk, e1, eq_false cu, e2, eq_false cv]
        exact g1
end RUM
