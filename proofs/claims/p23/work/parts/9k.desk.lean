/-! ROWS OF ROWS: with, copied; A NEW DESK, A COPY -/
theorem kc_2 {Y Y' : XY} (h : Y.2 = Y'.2) (a : Nat) : kc Y a = kc Y' a := by unfold kc; rw [h]
theorem kn_2 {Y Y' : XY} (h : Y.2 = Y'.2) (a : Nat) : kn Y a = kn Y' a := by unfold kn; rw [h]
section WCS
variable {N : XN}
theorem D_with_L {Y5 : XY} {a b q q' n k0 s0 : Nat} {r : Nat → Nat} (ka : kc Y5 a = 8) (na : kn Y5 a = n) (kq : kc Y5 q = 8) (nq : kn Y5 q = n + 1) (kb : kc Y5 b = 1) (hne : a ≠ q) (hn : n ≤ 62) (hr : ∀ i, i < n → gr Y5 a i = some (r i) ∧ kc Y5 (r i) = 1) (hc : k0 ≤ 1 ∧ s0 ≤ 64) : ∀ (z i D9 : Nat) (Y : XY), i + z = n → z < D9 → Y.2 = Y5.2 → (∀ c j, c ≠ q → gr Y c j = gr Y5 c j) → (∀ j, j < i → gr Y q j = some (r j)) →
    ∃ Y', f_L_with_10 D9 Y q' a b q (nI i) k0 s0 N = some (q, Y', q', N) ∧ Y'.2 = Y5.2 ∧ (∀ c j, c ≠ q → gr Y' c j = gr Y5 c j) ∧ (∀ j, j < n → gr Y' q j = some (r j)) ∧ gr Y' q n = some b := by
  intro z
  induction z with
  | zero =>
    intro i D9 Y hi hD h2 hg hs
    obtain ⟨D8, rfl⟩ : ∃ z, D9 = z + 1 := ⟨D9 - 1, by omega⟩
    have k1 := (kc_2 h2 a).trans ka
    have k2 := (kn_2 h2 a).trans na
    have k3 := (kc_2 h2 q).trans kq
    have k4 := (kn_2 h2 q).trans nq
    have k5 := (kc_2 h2 b).trans kb
    refine ⟨sr Y q n (some b), ?_, h2, fun c j hcq => (gr_sr_ne hcq j).trans (hg c j hcq), fun j hj => (gr_sr_nf (by omega)).trans (hs j (by omega)), gr_sr_s⟩
    rw [f_L_with_10]
    simp (disch := omega) only [↓ck, ↓lt_eq, bd_some, bd2_some, ofN, nI_lit, nI_clamp, nI_add, xb_nI, ↓reduceIte, pLEt, pLEf, pLTt, pLTf, pEQf, pML, pMG, pMf, pMg, k1, k2, k3, k4, k5, eq_true hc]
  | succ z ih =>
    intro i D9 Y hi hD h2 hg hs
    obtain ⟨D8, rfl⟩ : ∃ z, D9 = z + 1 := ⟨D9 - 1, by omega⟩
    have k1 := (kc_2 h2 a).trans ka
    have k2 := (kn_2 h2 a).trans na
    have k3 := (kc_2 h2 q).trans kq
    have k4 := (kn_2 h2 q).trans nq
    obtain ⟨r1, r2⟩ := hr i (by omega)
    have g1 : gr Y a i = some (r i) := (hg a i hne).trans r1
    have g2 : gp Y a i = r i := gp_of g1
    have k6 : kc Y (r i) = 1 := (kc_2 h2 _).trans r2
    obtain ⟨Y', e1, e2, e3, e4, e5⟩ := ih (i + 1) D8 (sr Y q i (some (r i))) (by omega) (by omega) h2 (fun c j hcq => (gr_sr_ne hcq j).trans (hg c j hcq)) (fun j hj => by
      by_cases e : j = i
      · rw [e]; exact gr_sr_s
      · exact (gr_sr_nf e).trans (hs j (by omega)))
    refine ⟨Y', ?_, e2, e3, e4, e5⟩
    rw [f_L_with_10]
    simp (disch := omega) only [↓ck, ↓lt_eq, bd_some, bd2_some, ofN, nI_lit, nI_clamp, nI_add, xb_nI, ↓reduceIte, pLEt, pLEf, pLTt, pLTf, pEQf, pML, pMG, pMf, pMg, k1, k2, k3, k4, k6, g1, g2]
    exact e1
theorem D_with {Y : XY} {a b q n : Nat} {r : Nat → Nat} (hm : MK Y q) (ka : kc Y a = 8) (na : kn Y a = n) (kb : kc Y b = 1) (hn : n ≤ 62) (hr : ∀ i, i < n → gr Y a i = some (r i) ∧ kc Y (r i) = 1) :
    ∃ Y', f_L_with Y q a b N = some (q, Y', q + 1, n0 N q) ∧ Y'.2 = (yK Y q 8 (n + 1)).2 ∧ (∀ c j, c ≠ q → gr Y' c j = gr Y c j) ∧ (∀ j, j < n → gr Y' q j = some (r j)) ∧ gr Y' q n = some b := by
  have la := hm.inn (a := a) (by omega) (by omega)
  have lb := hm.inn (a := b) (by omega) (by omega)
  have e : Int32.ofNat (kn Y a) + 1 = nI (n + 1) := by rw [na]; exact nI_add _ _
  obtain ⟨Y', e1, e2, e3, e4, e5⟩ := D_with_L (N := n0 N q) (Y5 := yK Y q 8 (n + 1)) (a := a) (b := b) (q := q) (q' := q + 1) (n := n) (k0 := 1) (s0 := 0 + (n + 1)) (r := r) (by rw [(yK_ne (by omega) (by omega)).1]; exact ka) (by rw [(yK_ne (by omega) (by omega)).2]; exact na) (kcq rfl) (knq rfl) (by rw [(yK_ne (by omega) (by omega)).1]; exact kb) (by omega) hn (fun i hi => by
    obtain ⟨r1, r2⟩ := hr i hi
    have lr := hm.inn (a := r i) (by omega) (by omega)
    exact ⟨(yK_gr (by omega) i).trans r1, (yK_ne (by omega) (by omega)).1.trans r2⟩) (by omega) n 0 FU (yK Y q 8 (n + 1)) (by omega) (by unfold FU; omega) rfl (fun _ _ _ => rfl) (fun j hj => absurd hj (by omega))
  refine ⟨Y', ?_, e2, fun c j hc => (e3 c j hc).trans (yK_gr hc j), e4, e5⟩
  unfold f_L_with
  rw [ck_t ka, e, nI_clamp (by omega), ck_t ⟨nI_nlt (Nat.zero_le _) (by omega), by omega⟩, ck_t ⟨hm.1, hm.2 _ (Nat.lt_succ_self q)⟩, ck_t (by omega), lt_eq, lt_eq]
  exact e1
theorem nC_ne {q a b : Nat} (h : b ≠ q) (j : Nat) : gi (nC N q a) b j = gi N b j := by simp only [gi, nC, if_neg h]
theorem nC_q {q a : Nat} (j : Nat) : gi (nC N q a) q j = gi N a j := by simp only [gi, nC, if_true]
end WCS
/-- all below q is as it was, but for the references of e -/
def KE (e : Nat) (Y : XY) (N : XN) (Y' : XY) (N' : XN) (q : Nat) : Prop := ∀ c, c < q → (kc Y' c = kc Y c ∧ kn Y' c = kn Y c) ∧ (c ≠ e → ∀ j, gr Y' c j = gr Y c j) ∧ ∀ j, gi N' c j = gi N c j
/-- rows of rows at A, each row behind the one before -/
def AR (Y : XY) (N : XN) (A n : Nat) (m : Nat → Nat) (v : Nat → Nat → Int32) : Prop := kc Y A = 8 ∧ kn Y A = n ∧ ∀ i, i < n → gr Y A i = some (A + 1 + i) ∧ kc Y (A + 1 + i) = 1 ∧ kn Y (A + 1 + i) = m i ∧ ∀ t, gi N (A + 1 + i) t = v i t
section CPS
variable {Y Y' Y'' : XY} {N N' N'' : XN} {e q q' A n : Nat} {m : Nat → Nat} {v : Nat → Nat → Int32}
theorem KE.trans (h : KE e Y N Y' N' q) (h' : KE e Y' N' Y'' N'' q') (hq : q ≤ q') : KE e Y N Y'' N'' q := fun c hc => by
  have a := h c hc
  have b := h' c (by omega)
  exact ⟨⟨b.1.1.trans a.1.1, b.1.2.trans a.1.2⟩, fun ne j => (b.2.1 ne j).trans (a.2.1 ne j), fun j => (b.2.2 j).trans (a.2.2 j)⟩
theorem AR.keep (h : AR Y N A n m v) (hk : KE e Y N Y' N' q) (hq : A + 1 + n ≤ q) (he : e < A) : AR Y' N' A n m v := by
  obtain ⟨h1, h2, h3⟩ := h
  have a := hk A (by omega)
  refine ⟨a.1.1.trans h1, a.1.2.trans h2, fun i hi => ?_⟩
  obtain ⟨b1, b2, b3, b4⟩ := h3 i hi
  have b := hk (A + 1 + i) (by omega)
  exact ⟨(a.2.1 (by omega) i).trans b1, b.1.1.trans b2, b.1.2.trans b3, fun t => (b.2.2 t).trans (b4 t)⟩
theorem D_copied_L {Y0 : XY} {N0 : XN} {a : Nat} {r : Nat → Nat} (la : a < q) (ka : kc Y0 a = 8) (na : kn Y0 a = n) (hn : n ≤ 60) (hr : ∀ i, i < n → gr Y0 a i = some (r i) ∧ kc Y0 (r i) = 1 ∧ r i < q ∧ kn Y0 (r i) ≤ 8) : ∀ (z i D9 k0 s0 : Nat) (Y : XY) (N : XN), i + z = n → z < D9 → k0 ≤ 1 + i → s0 ≤ n + 8 * i → MK Y (q + 1 + i) → (∀ c, c < q → (kc Y c = kc Y0 c ∧ kn Y c = kn Y0 c) ∧ (∀ j, gr Y c j = gr Y0 c j) ∧ ∀ j, gi N c j = gi N0 c j) → kc Y q = 8 → kn Y q = n → (∀ j, j < i → gr Y q j = some (q + 1 + j) ∧ kc Y (q + 1 + j) = 1 ∧ kn Y (q + 1 + j) = kn Y0 (r j) ∧ ∀ t, gi N (q + 1 + j) t = gi N0 (r j) t) → (WT Y0 → WT Y) →
    ∃ Y' N', f_L_copied_8 D9 Y (q + 1 + i) a q (nI i) k0 s0 N = some (q, Y', q + 1 + n, N') ∧ MK Y' (q + 1 + n) ∧ (∀ c, c < q → (kc Y' c = kc Y0 c ∧ kn Y' c = kn Y0 c) ∧ (∀ j, gr Y' c j = gr Y0 c j) ∧ ∀ j, gi N' c j = gi N0 c j) ∧ AR Y' N' q n (fun j => kn Y0 (r j)) (fun j t => gi N0 (r j) t) ∧ (WT Y0 → WT Y') := by
  intro z
  induction z with
  | zero =>
    intro i D9 k0 s0 Y N hi hD hk hs hm hc kq nq hrow hw
    obtain ⟨D8, rfl⟩ : ∃ z, D9 = z + 1 := ⟨D9 - 1, by omega⟩
    have ein : i = n := by omega
    subst ein
    have k1 := (hc a la).1.1.trans ka
    have k2 := (hc a la).1.2.trans na
    have hk0 : k0 ≤ 65 ∧ s0 ≤ 576 := ⟨by omega, by omega⟩
    refine ⟨Y, N, ?_, hm, hc, ⟨kq, nq, hrow⟩, hw⟩
    rw [f_L_copied_8]
    simp (disch := omega) only [↓ck, ↓lt_eq, bd_some, bd2_some, ofN, nI_lit, nI_clamp, nI_add, xb_nI, ↓reduceIte, pLEt, pLEf, pLTt, pLTf, pEQf, pML, pMG, pMf, pMg, k1, k2, eq_true hk0]
  | succ z ih =>
    intro i D9 k0 s0 Y N hi hD hk hs hm hc kq nq hrow hw
    obtain ⟨D8, rfl⟩ : ∃ z, D9 = z + 1 := ⟨D9 - 1, by omega⟩
    obtain ⟨r1, r2, r3, r4⟩ := hr i (by omega)
    have k1 := (hc a la).1.1.trans ka
    have k2 := (hc a la).1.2.trans na
    have g1 := ((hc a la).2.1 i).trans r1
    have g2 := gp_of g1
    have k3 := (hc (r i) r3).1.1.trans r2
    have k4 := (hc (r i) r3).1.2
    have hq9 : kc Y (q + 1 + i) = 9 ∧ kc Y (q + 1 + i + 1) = 0 := ⟨hm.1, hm.2 _ (Nat.lt_succ_self _)⟩
    have hk1 : k0 + 1 ≤ 65 ∧ s0 + kn Y0 (r i) ≤ 576 := ⟨by omega, by omega⟩
    have q1 : kc (yK Y (q + 1 + i) 1 (kn Y0 (r i))) q = 8 := (yK_ne (by omega) (by omega)).1.trans kq
    have q2 : kn (yK Y (q + 1 + i) 1 (kn Y0 (r i))) q = n := (yK_ne (by omega) (by omega)).2.trans nq
    obtain ⟨Y', N', e1, e2, e3, e4, e5⟩ := ih (i + 1) D8 (k0 + 1) (s0 + kn Y0 (r i)) (sr (yK Y (q + 1 + i) 1 (kn Y0 (r i))) q i (some (q + 1 + i))) (nC N (q + 1 + i) (r i)) (by omega) (by omega) (by omega) (by omega) hm.nx (fun c hcq => by
      obtain ⟨c1, c2, c3⟩ := hc c hcq
      have e := yK_ne (Y := Y) (q := q + 1 + i) (c := 1) (m := kn Y0 (r i)) (b := c) (by omega) (by omega)
      exact ⟨⟨e.1.trans c1.1, e.2.trans c1.2⟩, fun j => (gr_sr_ne (by omega) j).trans ((yK_gr (by omega) j).trans (c2 j)), fun j => (nC_ne (by omega) j).trans (c3 j)⟩) q1 q2 (fun j hj => by
      by_cases e : j = i
      · subst e
        exact ⟨gr_sr_s, kcq rfl, knq rfl, fun t => (nC_q t).trans ((hc (r j) r3).2.2 t)⟩
      · obtain ⟨b1, b2, b3, b4⟩ := hrow j (by omega)
        have e9 := yK_ne (Y := Y) (q := q + 1 + i) (c := 1) (m := kn Y0 (r i)) (b := q + 1 + j) (by omega) (by omega)
        exact ⟨(gr_sr_nf e).trans ((yK_gr (by omega) j).trans b1), e9.1.trans b2, e9.2.trans b3, fun t => (nC_ne (by omega) t).trans (b4 t)⟩) (fun w => ((hw w).nx hm (Or.inl rfl)).sr8 (Or.inl q1))
    refine ⟨Y', N', ?_, e2, e3, e4, e5⟩
    rw [f_L_copied_8]
    simp (disch := omega) only [↓ck, ↓lt_eq, bd_some, bd2_some, ofN, nI_lit, nI_clamp, nI_add, xb_nI, ↓reduceIte, pLEt, pLEf, pLTt, pLTf, pEQf, pML, pMG, pMf, pMg, k1, k2, k3, k4, g1, g2, eq_true hq9, eq_true hk1, q1, q2]
    exact e1
theorem D_copied {a : Nat} {r : Nat → Nat} (hm : MK Y q) (la : a < q) (ka : kc Y a = 8) (na : kn Y a = n) (hn : n ≤ 60) (hr : ∀ i, i < n → gr Y a i = some (r i) ∧ kc Y (r i) = 1 ∧ r i < q ∧ kn Y (r i) ≤ 8) :
    ∃ Y' N', f_L_copied Y q a N = some (q, Y', q + 1 + n, N') ∧ MK Y' (q + 1 + n) ∧ (∀ c, c < q → (kc Y' c = kc Y c ∧ kn Y' c = kn Y c) ∧ (∀ j, gr Y' c j = gr Y c j) ∧ ∀ j, gi N' c j = gi N c j) ∧ AR Y' N' q n (fun j => kn Y (r j)) (fun j t => gi N (r j) t) ∧ (WT Y → WT Y') := by
  have e : Int32.ofNat (kn Y a) = nI n := by rw [na]; rfl
  obtain ⟨Y', N', e1, e2, e3, e4, e5⟩ := D_copied_L (Y0 := Y) (N0 := N) la ka na hn hr n 0 FU 1 (0 + n) (yK Y q 8 n) (n0 N q) (by omega) (by unfold FU; omega) (by omega) (by omega) hm.nx (fun c hc => ⟨yK_ne (by omega) (by omega), fun j => yK_gr (by omega) j, fun j => n0_ne (by omega) j⟩) (kcq rfl) (knq rfl) (fun j hj => absurd hj (by omega)) (fun w => w.nx hm (Or.inr (Or.inr (Or.inl rfl))))
  refine ⟨Y', N', ?_, e2, e3, e4, e5⟩
  unfold f_L_copied
  rw [ck_t ka, e, nI_clamp (by omega), ck_t ⟨nI_nlt (Nat.zero_le _) (by omega), by omega⟩, ck_t ⟨hm.1, hm.2 _ (Nat.lt_succ_self q)⟩, ck_t (by omega), lt_eq, lt_eq]
  exact e1
/-- one of a copy's four steps -/
theorem K_cstep {a f : Nat} {r : Nat → Nat} (hm : MK Y q) (la : a < q) (ka : kc Y a = 8) (na : kn Y a = n) (hn : n ≤ 60) (hr : ∀ i, i < n → gr Y a i = some (r i) ∧ kc Y (r i) = 1 ∧ r i < q ∧ kn Y (r i) ≤ 8) (le : e < q) (ke : kc Y e = 18) :
    ∃ Y1 N1, f_L_copied Y q a N = some (q, Y1, q + 1 + n, N1) ∧ kc Y1 e = 18 ∧ MK (sr Y1 e f (some q)) (q + 1 + n) ∧ KE e Y N (sr Y1 e f (some q)) N1 q ∧ gr (sr Y1 e f (some q)) e f = some q ∧ (∀ j, j ≠ f → gr (sr Y1 e f (some q)) e j = gr Y e j) ∧ AR (sr Y1 e f (some q)) N1 q n (fun j => kn Y (r j)) (fun j t => gi N (r j) t) ∧ (WT Y → WT (sr Y1 e f (some q))) := by
  obtain ⟨Y1, N1, e1, e2, e3, e4, e5⟩ := D_copied (N := N) hm la ka na hn hr
  have k1 : kc Y1 e = 18 := (e3 e le).1.1.trans ke
  refine ⟨Y1, N1, e1, k1, e2, fun c hc => ⟨(e3 c hc).1, fun ne j => (gr_sr_ne ne j).trans ((e3 c hc).2.1 j), (e3 c hc).2.2⟩, gr_sr_s, fun j hj => (gr_sr_nf hj).trans ((e3 e le).2.1 j), ⟨e4.1, e4.2.1, fun i hi => ?_⟩, fun w => (e5 w).sr8 (Or.inr (by omega))⟩
  obtain ⟨b1, b2, b3, b4⟩ := e4.2.2 i hi
  exact ⟨(gr_sr_ne (by omega) i).trans b1, b2, b3, b4⟩
end CPS
/-- a new desk's own cells -/
theorem K_init {Y : XY} {N : XN} {q e : Nat} (hm : MK Y q) (ke : kc Y e = 18) :
    ∃ Y' N', f_X8_init Y q e N = some (Y', q + 5, N') ∧ MK Y' (q + 5) ∧ KE e Y N Y' N' q ∧ (∀ j, j < 2 ∨ 6 < j → gr Y' e j = gr Y e j) ∧ (gr Y' e 2 = some q ∧ gr Y' e 3 = some (q + 1) ∧ gr Y' e 4 = some (q + 2) ∧ gr Y' e 5 = some (q + 3) ∧ gr Y' e 6 = some (q + 4)) ∧ ((kc Y' q = 1 ∧ kn Y' q = 5) ∧ (kc Y' (q + 1) = 8 ∧ kn Y' (q + 1) = 0) ∧ (kc Y' (q + 2) = 8 ∧ kn Y' (q + 2) = 0) ∧ (kc Y' (q + 3) = 8 ∧ kn Y' (q + 3) = 0) ∧ kc Y' (q + 4) = 8 ∧ kn Y' (q + 4) = 0) ∧ (gi N' q 0 = nI 5 ∧ gi N' q 1 = nI 10 ∧ gi N' q 2 = nI 10 ∧ gi N' q 3 = nI 10 ∧ gi N' q 4 = nI 1) ∧ (WT Y → WT Y') := by
  have le := hm.inn (a := e) (by omega) (by omega)
  have m1 := hm.nx (c := 1) (m := 5)
  have a0 : MK (sr (yK Y q 1 5) e 2 (some q)) (q + 1) := m1
  have m2 := a0.nx (c := 8) (m := 0)
  have a1 : MK (sr (yK (sr (yK Y q 1 5) e 2 (some q)) (q + 1) 8 0) e 3 (some (q + 1))) (q + 2) := m2
  have m3 := a1.nx (c := 8) (m := 0)
  have a2 : MK (sr (yK (sr (yK (sr (yK Y q 1 5) e 2 (some q)) (q + 1) 8 0) e 3 (some (q + 1))) (q + 2) 8 0) e 4 (some (q + 2))) (q + 3) := m3
  have m4 := a2.nx (c := 8) (m := 0)
  have a3 : MK (sr (yK (sr (yK (sr (yK (sr (yK Y q 1 5) e 2 (some q)) (q + 1) 8 0) e 3 (some (q + 1))) (q + 2) 8 0) e 4 (some (q + 2))) (q + 3) 8 0) e 5 (some (q + 3))) (q + 4) := m4
  have m5 := a3.nx (c := 8) (m := 0)
  have a4 : MK (sr (yK (sr (yK (sr (yK (sr (yK (sr (yK Y q 1 5) e 2 (some q)) (q + 1) 8 0) e 3 (some (q + 1))) (q + 2) 8 0) e 4 (some (q + 2))) (q + 3) 8 0) e 5 (some (q + 3))) (q + 4) 8 0) e 6 (some (q + 4))) (q + 5) := m5
  have b0 : kc Y q = 9 ∧ kc Y (q + 1) = 0 := ⟨hm.1, hm.2 _ (Nat.lt_succ_self _)⟩
  have b1 := (⟨a0.1, a0.2 _ (Nat.lt_succ_self _)⟩ : kc (sr (yK Y q 1 5) e 2 (some q)) (q + 1) = 9 ∧ kc (sr (yK Y q 1 5) e 2 (some q)) (q + 1 + 1) = 0)
  have b2 := (⟨a1.1, a1.2 _ (Nat.lt_succ_self _)⟩ : kc (sr (yK (sr (yK Y q 1 5) e 2 (some q)) (q + 1) 8 0) e 3 (some (q + 1))) (q + 2) = 9 ∧ kc (sr (yK (sr (yK Y q 1 5) e 2 (some q)) (q + 1) 8 0) e 3 (some (q + 1))) (q + 2 + 1) = 0)
  have b3 := (⟨a2.1, a2.2 _ (Nat.lt_succ_self _)⟩ : kc (sr (yK (sr (yK (sr (yK Y q 1 5) e 2 (some q)) (q + 1) 8 0) e 3 (some (q + 1))) (q + 2) 8 0) e 4 (some (q + 2))) (q + 3) = 9 ∧ kc (sr (yK (sr (yK (sr (yK Y q 1 5) e 2 (some q)) (q + 1) 8 0) e 3 (some (q + 1))) (q + 2) 8 0) e 4 (some (q + 2))) (q + 3 + 1) = 0)
  have b4 := (⟨a3.1, a3.2 _ (Nat.lt_succ_self _)⟩ : kc (sr (yK (sr (yK (sr (yK (sr (yK Y q 1 5) e 2 (some q)) (q + 1) 8 0) e 3 (some (q + 1))) (q + 2) 8 0) e 4 (some (q + 2))) (q + 3) 8 0) e 5 (some (q + 3))) (q + 4) = 9 ∧ kc (sr (yK (sr (yK (sr (yK (sr (yK Y q 1 5) e 2 (some q)) (q + 1) 8 0) e 3 (some (q + 1))) (q + 2) 8 0) e 4 (some (q + 2))) (q + 3) 8 0) e 5 (some (q + 3))) (q + 4 + 1) = 0)
  have kk : ∀ b, b < q → kc (sr (yK (sr (yK (sr (yK (sr (yK (sr (yK Y q 1 5) e 2 (some q)) (q + 1) 8 0) e 3 (some (q + 1))) (q + 2) 8 0) e 4 (some (q + 2))) (q + 3) 8 0) e 5 (some (q + 3))) (q + 4) 8 0) e 6 (some (q + 4))) b = kc Y b ∧ kn (sr (yK (sr (yK (sr (yK (sr (yK (sr (yK Y q 1 5) e 2 (some q)) (q + 1) 8 0) e 3 (some (q + 1))) (q + 2) 8 0) e 4 (some (q + 2))) (q + 3) 8 0) e 5 (some (q + 3))) (q + 4) 8 0) e 6 (some (q + 4))) b = kn Y b := fun b hb => by
    simp (disch := omega) only [kc_sr, kn_sr, (fun (Y : XY) (q c m b : Nat) (h1 : b ≠ q) (h2 : b ≠ q + 1) => (yK_ne (Y := Y) (c := c) (m := m) h1 h2).1), (fun (Y : XY) (q c m b : Nat) (h1 : b ≠ q) (h2 : b ≠ q + 1) => (yK_ne (Y := Y) (c := c) (m := m) h1 h2).2), and_self]
  have kce : kc (yK Y q 1 5) e = 18 := (yK_ne (by omega) (by omega)).1.trans ke
  have kqq : kn (yK Y q 1 5) q = 5 := knq rfl
  refine ⟨_, n0 (n0 (n0 (n0 (si (si (si (si (si (n0 N q) q 0 (nI 5)) q 1 (nI 10)) q 2 (nI 10)) q 3 (nI 10)) q 4 (nI 1)) (q + 1)) (q + 2)) (q + 3)) (q + 4), ?_, a4, fun c hc => ⟨kk c hc, fun ne j => ?_, fun j => ?_⟩, fun j hj => ?_, ⟨?_, ?_, ?_, ?_, gr_sr_s⟩, ⟨⟨?_, ?_⟩, ⟨?_, ?_⟩, ⟨?_, ?_⟩, ⟨?_, ?_⟩, ?_, ?_⟩, ⟨?_, ?_, ?_, ?_, ?_⟩, fun w => ?_⟩
  · unfold f_X8_init
    simp (disch := omega) only [↓ck, ↓lt_eq, bd_some, bd2_some, ofN, nI_lit, nI_clamp, nI_add, xb_nI, ↓reduceIte, pLEt, pLEf, pLTt, pLTf, pEQf, pML, pMG, pMf, pMg, eq_true b0, kqq, kce, eq_true b1, eq_true b2, eq_true b3, eq_true b4]
  · simp (disch := omega) only [gr_sr_ne, yK_gr]
  · simp (disch := omega) only [n0_ne, gi_si_n, xj_0, xj_1, xj_2, xj_3, xj_4]
  · simp (disch := omega) only [gr_sr_nf, yK_gr]
  · simp (disch := omega) only [gr_sr_nf, gr_sr_s, yK_gr]
  · simp (disch := omega) only [gr_sr_nf, gr_sr_s, yK_gr]
  · simp (disch := omega) only [gr_sr_nf, gr_sr_s, yK_gr]
  · simp (disch := omega) only [gr_sr_nf, gr_sr_s, yK_gr]
  all_goals first
    | (simp (disch := omega) only [kc_sr, kn_sr, (fun (Y : XY) (q c m b : Nat) (h1 : b ≠ q) (h2 : b ≠ q + 1) => (yK_ne (Y := Y) (c := c) (m := m) h1 h2).1), (fun (Y : XY) (q c m b : Nat) (h1 : b ≠ q) (h2 : b ≠ q + 1) => (yK_ne (Y := Y) (c := c) (m := m) h1 h2).2), (fun (Y : XY) (q c m : Nat) => (kcq rfl : kc (yK Y q c m) q = c)), (fun (Y : XY) (q c m : Nat) => (knq rfl : kn (yK Y q c m) q = m))]; done)
    | (simp (disch := omega) only [n0_ne, gi_si_n, gi_si]; done)
    | (have w1 := (w.nx hm (c := 1) (m := 5) (Or.inl rfl)).sr8 (a := e) (f := 2) (v := some q) (Or.inr (by rw [kce]; omega))
       have c1 : kc (sr (yK Y q 1 5) e 2 (some q)) e = 18 := kce
       have w2 := (w1.nx a0 (c := 8) (m := 0) (Or.inr (Or.inr (Or.inl rfl)))).sr8 (a := e) (f := 3) (v := some (q + 1)) (Or.inr (by rw [(yK_ne (by omega) (by omega)).1, c1]; omega))
       have c2 : kc (sr (yK (sr (yK Y q 1 5) e 2 (some q)) (q + 1) 8 0) e 3 (some (q + 1))) e = 18 := (yK_ne (by omega) (by omega)).1.trans c1
       have w3 := (w2.nx a1 (c := 8) (m := 0) (Or.inr (Or.inr (Or.inl rfl)))).sr8 (a := e) (f := 4) (v := some (q + 2)) (Or.inr (by rw [(yK_ne (by omega) (by omega)).1, c2]; omega))
       have c3 : kc (sr (yK (sr (yK (sr (yK Y q 1 5) e 2 (some q)) (q + 1) 8 0) e 3 (some (q + 1))) (q + 2) 8 0) e 4 (some (q + 2))) e = 18 := (yK_ne (by omega) (by omega)).1.trans c2
       have w4 := (w3.nx a2 (c := 8) (m := 0) (Or.inr (Or.inr (Or.inl rfl)))).sr8 (a := e) (f := 5) (v := some (q + 3)) (Or.inr (by rw [(yK_ne (by omega) (by omega)).1, c3]; omega))
       have c4 : kc (sr (yK (sr (yK (sr (yK (sr (yK Y q 1 5) e 2 (some q)) (q + 1) 8 0) e 3 (some (q + 1))) (q + 2) 8 0) e 4 (some (q + 2))) (q + 3) 8 0) e 5 (some (q + 3))) e = 18 := (yK_ne (by omega) (by omega)).1.trans c3
       exact (w4.nx a3 (c := 8) (m := 0) (Or.inr (Or.inr (Or.inl rfl)))).sr8 (Or.inr (by rw [(yK_ne (by omega) (by omega)).1, c4]; omega)))
