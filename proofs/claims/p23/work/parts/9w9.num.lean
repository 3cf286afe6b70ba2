/-! THE NUMBERS OF A RANDOM DESK: a new row -/
theorem eTn_low {l : Nat} : ∀ (xs : List Nat) (e : XD) (j : Nat), j < 12 → eTn e l xs j = e j := by
  intro xs
  induction xs with
  | nil => intro e j _; rfl
  | cons x r ih =>
    intro e j hj
    show eTn (sAddT e x l) l r j = e j
    rw [ih _ _ hj]
    exact (sAddT_at (d := e) x l).2.2 j (by omega) (by omega)
theorem BLD.nums {ts : List (Nat × Nat)} {e : XD} {b : Nat} (h : BLD ts e b) : b = 0 → ∀ j, 5 ≤ j → j < 10 → e j = eU j := by
  refine h (fun _ e b => b = 0 → ∀ j, 5 ≤ j → j < 10 → e j = eU j) (fun _ j _ _ => rfl) (fun ts e b us e' b' ih hs hb j h1 h2 => ?_)
  rcases hs with ⟨x, y, -, -, -, -, rfl, rfl⟩ | ⟨x, y, z, xs, -, -, -, -, -, -, -, rfl, rfl⟩ | ⟨l, x, k, -, -, -, -, -, rfl, rfl⟩ | ⟨q, v, -, -, -, -, rfl, rfl⟩
  · rw [(eHd_at e _ _).2.2 j (by omega) (by omega) (by omega)]
    exact ih hb j h1 h2
  · rw [eTn_low _ _ _ (by omega), (eLn_at e _ _ _).2.2.2.2 j (by omega) (by omega) (by omega) (by omega)]
    exact ih hb j h1 h2
  · rw [(sPut_at (d := e) _ _ _).2.1 j (by omega) (by omega)]
    exact ih hb j h1 h2
  · omega
section NU
variable {Y Y' : XY} {q q' : Nat} {N N' : XN} {pl : Nat → Nat} {H L R : Nat} {T : Nat → Nat} {ops : List Int32} {d : XD}
def plN (pl : Nat → Nat) (b : Nat) : Nat → Nat := fun g => if g = 1 then b else pl g
theorem DK.num (h : DK Y q N pl H L R T ops d) {b : Nat} (hm : MK Y' q') (hb : q ≤ b) (low : ∀ c, c < q → (kc Y' c = kc Y c ∧ kn Y' c = kn Y c) ∧ ∀ j, (c ≠ pl 0 ∨ j ≠ 2) → gr Y' c j = gr Y c j) (lowN : ∀ g, us H L L R g → ∀ j, gi N' (pl g) j = gi N (pl g) j) (kb : kc Y' b = 1 ∧ kn Y' b = 5) (g0 : gr Y' (pl 0) 2 = some b) (v : ∀ j, j < 5 → gi N' b j = d (5 + j)) : DK Y' q' N' (plN pl b) H L R T ops d := by
  have hY := h.y
  have h6 := hY.H6
  have h8 := hY.L8
  have h60 := hY.R60
  have lt := fun g (hg : us H L L R g) => us_lt h.m hY hg
  have u0 : us H L L R 0 := by unfold us; omega
  have p1 : plN pl b 1 = b := if_pos rfl
  have pn : ∀ g, g ≠ 1 → plN pl b g = pl g := fun g hg => if_neg hg
  refine ⟨hm, ⟨hY.1, fun g g' hg hg' e => ?_, fun g hg => ?_⟩, ⟨h.n.1, fun g k hv => ?_⟩, h.s, h.j, h.h4, h.l3⟩
  · by_cases e1 : g = 1
    · by_cases e2 : g' = 1
      · omega
      · have := lt g' hg'
        rw [e1, p1, pn g' e2] at e
        omega
    · by_cases e2 : g' = 1
      · have := lt g hg
        rw [e2, p1, pn g e1] at e
        omega
      · rw [pn g e1, pn g' e2] at e
        exact hY.P g g' hg hg' e
  · by_cases e1 : g = 1
    · subst e1
      have k1 : kg 1 = 1 := rfl
      have pg1 : pg 1 = 0 := rfl
      have og1 : og 1 = 2 := rfl
      rw [p1, k1, pg1, og1, pn 0 (by omega)]
      exact ⟨kb.1, fun _ => ⟨kb.2, g0⟩⟩
    · obtain ⟨c1, c2⟩ := hY.2.2 g hg
      obtain ⟨⟨k1, k2⟩, k3⟩ := low _ (lt g hg)
      rw [pn g e1]
      refine ⟨k1.trans c1, fun h0 => ?_⟩
      obtain ⟨c3, c4⟩ := c2 h0
      obtain ⟨u1, u2⟩ := us_pg hY.1 hg h0
      have pne : pg g ≠ 1 := by unfold pg; (repeat' split) <;> omega
      refine ⟨k2.trans c3, ?_⟩
      rw [pn _ pne]
      refine ((low _ (lt _ u1)).2 (og g) ?_).trans c4
      by_cases e5 : pg g = 0
      · refine Or.inr ?_
        unfold us at hg
        unfold pg at e5
        unfold og
        (repeat' split at e5) <;> (repeat' split) <;> omega
      · exact Or.inl (fun e => e5 (hY.P _ _ u1 u0 e))
  · by_cases e1 : g = 1
    · subst e1
      show gi N' (plN pl b 1) k = d (ixg 1 k)
      have hk : k < 5 := by unfold vd at hv; omega
      have ei : ixg 1 k = 5 + k := rfl
      rw [p1, ei]
      exact v k hk
    · show gi N' (plN pl b g) k = d (ixg g k)
      rw [pn g e1, lowN g (vd_us hv) k]
      exact h.n.2 g k hv
end NU
section NU2
variable {SS SV : Nat → Nat} {Y0 Y Y' : XY} {N0 N N' : XN} {B bf rnd q q0 H L R k n b : Nat} {pl : Nat → Nat} {T : Nat → Nat} {e : XD} {bs : List Nat} {ts : List (Nat × Nat)} {ops0 : List Int32} {d0 : XD} {k0 p0 : Nat} {hd0 : Nat → XD}
/-- the requests' end: the numbers' row is new -/
theorem Q_end (h : BST SS SV Y0 N0 Y q N B bf rnd q0 pl H L R T e bs ts 0 ops0 d0 k0 p0 hd0) (hk : k + 1 ≤ 400 ∧ n + 5 ≤ 40000) (D8 : Nat) : ∃ Y' N', f_L_randomDesk_406 SS SV (D8 + 1) Y q B bf rnd (pl 0) (nI 0) k n N = f_L_randomDesk_597 SS SV FU Y' (q + 1) B bf rnd (pl 0) (nI 0) (k + 1) (n + 5) N' ∧ BST SS SV Y0 N0 Y' (q + 1) N' B bf rnd q0 (plN pl q) H L R T e bs ts 0 ops0 d0 k0 p0 hd0 := by
  obtain ⟨hD, ⟨hq0, hqq, h70⟩, hE, ⟨hT, hX, hB, hQ⟩, hI⟩ := h
  have hm := hD.m
  have hY := hD.y
  have lt := fun g (hg : us H L L R g) => us_lt hm hY hg
  have l0 := lt 0 (by unfold us; omega)
  have o0 := hq0 0 (by unfold us; omega)
  obtain ⟨r1, r2, r3⟩ := id hE.2.2.1
  obtain ⟨b1, b2, b3, b4⟩ := id hE.2.1
  have kq : kc Y q = 9 ∧ kc Y (q + 1) = 0 := ⟨hm.1, hm.2 _ (Nat.lt_succ_self _)⟩
  have kq1 : kc (yK Y q 1 5) q = 1 ∧ kn (yK Y q 1 5) q = 5 := ⟨kcq rfl, knq rfl⟩
  have k01 : kc (yK Y q 1 5) (pl 0) = 18 := (yK_ne (by omega) (by omega)).1.trans hY.k0
  obtain ⟨N16, hN16⟩ : ∃ M, M = si (si (si (si (si (n0 N q) q 0 (nI 5)) q 1 (nI 10)) q 2 (nI 10)) q 3 (nI 10)) q 4 (nI 1) := ⟨_, rfl⟩
  have a16 : ∀ c j, c ≠ q → gi N16 c j = gi N c j := fun c j hc => by
    rw [hN16, gi_si_n (Or.inl hc), gi_si_n (Or.inl hc), gi_si_n (Or.inl hc), gi_si_n (Or.inl hc), gi_si_n (Or.inl hc), n0_ne hc]
  obtain ⟨-, e5, e6, e7, e8, e9⟩ := eUsual_at (e := fun _ => nI 0)
  have hn := hB.nums rfl
  have v : ∀ j, j < 5 → gi N16 q j = e (5 + j) := fun j hj => by
    rw [hn (5 + j) (by omega) (by omega), hN16]
    rcases (by omega : j = 0 ∨ j = 1 ∨ j = 2 ∨ j = 3 ∨ j = 4) with rfl | rfl | rfl | rfl | rfl
    · rw [gi_si_n (Or.inr (by omega)), gi_si_n (Or.inr (by omega)), gi_si_n (Or.inr (by omega)), gi_si_n (Or.inr (by omega)), gi_si]; exact e5.symm
    · rw [gi_si_n (Or.inr (by omega)), gi_si_n (Or.inr (by omega)), gi_si_n (Or.inr (by omega)), gi_si]; exact e6.symm
    · rw [gi_si_n (Or.inr (by omega)), gi_si_n (Or.inr (by omega)), gi_si]; exact e7.symm
    · rw [gi_si_n (Or.inr (by omega)), gi_si]; exact e8.symm
    · rw [gi_si]; exact e9.symm
  have low : ∀ c, c < q → (kc (sr (yK Y q 1 5) (pl 0) 2 (some q)) c = kc Y c ∧ kn (sr (yK Y q 1 5) (pl 0) 2 (some q)) c = kn Y c) ∧ ∀ j, (c ≠ pl 0 ∨ j ≠ 2) → gr (sr (yK Y q 1 5) (pl 0) 2 (some q)) c j = gr Y c j := fun c hc => ⟨yK_ne (by omega) (by omega), fun j hj => by
    rcases hj with hj | hj
    · rw [gr_sr_ne hj, yK_gr (by omega)]
    · rw [gr_sr_nf hj, yK_gr (by omega)]⟩
  have rf : RF rnd q0 Y N (sr (yK Y q 1 5) (pl 0) 2 (some q)) N16 := fun c hc => ⟨(low c (by omega)).1, fun j => (low c (by omega)).2 j (by omega), fun j _ => a16 c j (by omega)⟩
  have hw : WT Y → WT (sr (yK Y q 1 5) (pl 0) 2 (some q)) := fun w => (w.nx hm (by omega)).sr8 (Or.inr (by omega))
  refine ⟨sr (yK Y q 1 5) (pl 0) 2 (some q), N16, ?_, ⟨hD.num hm.nx (Nat.le_refl _) low (fun g hg j => a16 _ j (by have := lt g hg; omega)) kq1 gr_sr_s v, ⟨fun g hg => ?_, by omega, by rw [show plN pl q 0 = pl 0 from if_neg (by omega)]; exact ((low _ l0).2 7 (Or.inr (by omega))).trans h70⟩, hE.rf rf hw, ⟨hT.rf rf ⟨b3, b4, fun z => by rw [z, r1] at b1; omega⟩ r2, hX, hB, hQ⟩, hI.rf rf (by omega) r2⟩⟩
  · have bk : k + 1 ≤ 400 ∧ n + 5 ≤ 40000 := hk
    rw [f_L_randomDesk_406]
    simp (disch := omega) only [↓ck, ↓lt_eq, nI_lit, xb_nI, ↓reduceIte, pLEt, pLEf, pLTt, pLTf, pEQf, pML, pMG, pMf, pMg, eq_true kq, eq_true bk, kq1.1, kq1.2, k01]
    rw [← hN16]
  · by_cases e1 : g = 1
    · rw [show plN pl q g = q from if_pos e1]; exact hqq
    · rw [show plN pl q g = pl g from if_neg e1]; exact hq0 g hg
end NU2
