/-! RANDOM NUMBERS; A REQUEST MORE; WHAT THE LAW KEEPS -/
theorem D_below {Y : XY} {a n : Nat} {N : XN} (k : kc Y a = 20) (h0 : 0 < n) (hn : n < 2 ^ 31) : ∃ v w, v < n ∧ f_X10_below Y a (nI n) N = some (nI v, si N a 0 w) := by
  obtain ⟨w, hw⟩ : ∃ w, w = 1103515245 * gi N a 0 + 12345 := ⟨_, rfl⟩
  have e := pk_ushr w 16 16 (by decide)
  obtain ⟨x, hx⟩ : ∃ x, x = (w.toUInt32 >>> ((16 : Int32).toUInt32 &&& Int32.toUInt32 31)).toInt32 := ⟨_, rfl⟩
  have hb : x.toBitVec.toNat < 2 ^ 31 := by
    rw [hx, e]
    have := w.toBitVec.isLt
    omega
  have ex : x = nI x.toBitVec.toNat := Int32.toBitVec_inj.mp (BitVec.eq_of_toNat_eq (pk_tn (by omega)).symm)
  refine ⟨x.toBitVec.toNat % n, w, Nat.mod_lt _ h0, ?_⟩
  have n0 : (nI n = nI 0) = False := eq_false (fun q => by have := (nI_eq (by omega) (by omega)).mp q; omega)
  unfold f_X10_below
  have z : ¬ nI n = 0 := fun q => by have := (nI_eq hn (by omega)).mp (q.trans (nI_lit 0)); omega
  rw [ck_t k, lt_eq, ck_t z, ← hw, gi_si, ← hx]
  rw [← pk_rem hb h0 hn, ← ex]
section DR
variable {Y Y' : XY} {q q' : Nat} {N N' : XN} {pl : Nat → Nat} {H L R : Nat} {T : Nat → Nat} {ops : List Int32} {d : XD}
theorem DK.addR (h : DK Y q N pl H L R T ops d) {b A l k : Nat} {t : Int32} (hm : MK Y' q') (hb : q ≤ b ∧ b < q') (hA : q ≤ A ∧ A < q') (hAb : A ≠ b) (hR : R < 60) (hl : l < L) (hk : k ≤ 99)
    (low : ∀ c, c < q → (kc Y' c = kc Y c ∧ kn Y' c = kn Y c) ∧ (∀ j, (c ≠ pl 0 ∨ j ≠ 6) → gr Y' c j = gr Y c j) ∧ ∀ j, gi N' c j = gi N c j)
    (kb : kc Y' b = 1 ∧ kn Y' b = 8) (kA : kc Y' A = 8 ∧ kn Y' A = R + 1) (g0 : gr Y' (pl 0) 6 = some A) (gA : ∀ i, i < R → gr Y' A i = some (pl (24 + i))) (gb : gr Y' A R = some b)
    (v : gi N' b 0 = nI l ∧ gi N' b 1 = t ∧ gi N' b 2 = nI k ∧ gi N' b 3 = nI 0 ∧ gi N' b 4 = -nI 1 ∧ gi N' b 5 = nI 0 ∧ gi N' b 6 = -nI 1 ∧ gi N' b 7 = nI 0) (hw : WT Y → WT Y') :
    DK Y' q' N' (plG pl (24 + R) 87 b A) H L (R + 1) T ops (sPut d (nI l) t (nI k)) ∧ GO Y q N pl H L R Y' q' N' (plG pl (24 + R) 87 b A) (R + 1) := by
  have hY := h.y
  have h6 := hY.H6
  have h8 := hY.L8
  have h60 := hY.R60
  have lt := fun g (hg : us H L L R g) => us_lt h.m hY hg
  have hl' : l < nL d := by rw [h.s.2.1]; exact hl
  have eR := h.s.2.2.1
  obtain ⟨p3, pf, p0, p1, p2, p4, p5, p6, p7, p8⟩ := sPut_at (d := d) (nI l) t (nI k)
  rw [eR] at p3 pf p0 p1 p2 p4 p5 p6 p7 p8
  obtain ⟨u1, u2⟩ := h.j.put (l := l) (k := k) (t := t) hl' hk (by omega)
  have lt0 := lt 0 (by unfold us; omega)
  refine ⟨⟨hm, ?_, ?_, ⟨(nH_same (pf 1 (by omega) (by omega))).trans h.s.1, (nL_same (pf 2 (by omega) (by omega))).trans h.s.2.1, u2.trans (by omega), fun j hj => (nT_same (pf _ (by omega) (by omega))).trans (h.s.2.2.2 j hj)⟩, u1, h.h4, h.l3⟩, ⟨⟨by omega, by omega⟩, ⟨?_, ?_⟩, fun e => absurd e (by omega), (low _ lt0).2.1 7 (Or.inr (by decide)), hw, fun a ha => ?_⟩, fun a ha => ?_, fun a ha => ?_⟩
  · refine hY.grow (b := b) (A := A) (gn := 24 + R) (G := 87) ⟨h6, h8, h8, by omega⟩ (fun g => by unfold us; omega) (by unfold us; omega) ⟨by unfold pg; (repeat' split) <;> omega, by omega, by omega, by omega, by unfold kg; (repeat' split) <;> omega⟩ (fun g hg hne => ?_) (fun g hg => ⟨by have := lt g hg; omega, by have := lt g hg; omega⟩) hAb (fun g hg _ => (low _ (lt g hg)).1) (fun g j hg hne hj => (low _ (lt g hg)).2.1 j ?_) ⟨kb.1, kb.2.trans ?_⟩ ⟨kA.1, kA.2.trans ?_⟩ g0 (fun g hg e => ?_) ?_
    · unfold ng
      unfold us at hg
      (repeat' split) <;> first | rfl | omega
    · rcases hj with hj | hj
      · exact Or.inl (fun e => hj (hY.P _ _ hg (by unfold us; omega) e))
      · exact Or.inr hj
    · unfold ng
      (repeat' split) <;> omega
    · unfold ng
      (repeat' split) <;> omega
    · have e2 : 24 ≤ g ∧ g < 84 := by
        unfold us at hg
        unfold pg at e
        (repeat' split at e) <;> omega
      have e3 : og g = g - 24 := by unfold og; (repeat' split) <;> omega
      rw [e3, gA _ (by unfold us at hg; omega), show 24 + (g - 24) = g by omega]
    · have e3 : og (24 + R) = R := by unfold og; (repeat' split) <;> omega
      rw [e3]
      exact gb
  · refine h.n.grow (gn := 24 + R) ⟨h6, h8, h8, by omega, h.n.1.2.2.2.2⟩ (fun g j hv => ?_) (fun g j hv hne => ⟨?_, ?_⟩) (fun j hv => ?_)
    · unfold vd at hv ⊢
      omega
    · have hg := vd_us hv
      have e : plG pl (24 + R) 87 b A g = pl g := by
        unfold plG
        rw [if_neg hne, if_neg (by unfold vd at hv; omega)]
      show gi N' (plG pl (24 + R) 87 b A g) j = gi N (pl g) j
      rw [e]
      exact (low _ (lt g hg)).2.2 j
    · have hb := ixg_cases h.n.1 hv
      refine pf _ ?_ ?_
      · rcases hb with ⟨a1, a2, a3⟩ | ⟨a1, a2, a3⟩ | ⟨a1, a2, a3⟩ | ⟨i, a0, a1, a2, a3⟩ | ⟨i, a0, a1, a2, a3⟩ | ⟨i, a0, a1, a2, a3⟩ | ⟨i, a0, a1, a2, a3⟩ <;> (rw [a3]; omega)
      · have hv' := hv
        unfold vd at hv'
        rcases hb with ⟨a1, a2, a3⟩ | ⟨a1, a2, a3⟩ | ⟨a1, a2, a3⟩ | ⟨i, a0, a1, a2, a3⟩ | ⟨i, a0, a1, a2, a3⟩ | ⟨i, a0, a1, a2, a3⟩ | ⟨i, a0, a1, a2, a3⟩ <;> (rw [a3]; omega)
    · have e : plG pl (24 + R) 87 b A (24 + R) = b := if_pos rfl
      have hj : j < 8 := by unfold vd at hv; omega
      have ei : ixg (24 + R) j = 104 + 8 * R + j := by unfold ixg; (repeat' split) <;> omega
      show gi N' (plG pl (24 + R) 87 b A (24 + R)) j = _
      rw [e, ei]
      obtain ⟨v0, v1, v2, v3, v4, v5, v6, v7⟩ := v
      rcases (by omega : j = 0 ∨ j = 1 ∨ j = 2 ∨ j = 3 ∨ j = 4 ∨ j = 5 ∨ j = 6 ∨ j = 7) with rfl | rfl | rfl | rfl | rfl | rfl | rfl | rfl
      · exact v0.trans p0.symm
      · rw [show 104 + 8 * R + 1 = 105 + 8 * R by omega]; exact v1.trans p1.symm
      · rw [show 104 + 8 * R + 2 = 106 + 8 * R by omega]; exact v2.trans p2.symm
      · rw [show 104 + 8 * R + 3 = 107 + 8 * R by omega]; exact v3.trans p4.symm
      · rw [show 104 + 8 * R + 4 = 108 + 8 * R by omega]; exact v4.trans p5.symm
      · rw [show 104 + 8 * R + 5 = 109 + 8 * R by omega]; exact v5.trans p6.symm
      · rw [show 104 + 8 * R + 6 = 110 + 8 * R by omega]; exact v6.trans p7.symm
      · rw [show 104 + 8 * R + 7 = 111 + 8 * R by omega]; exact v7.trans p8.symm
  · unfold plG; rw [if_neg (by omega), if_neg (by omega)]
  · unfold plG; rw [if_neg (by omega), if_neg (by omega)]
  · obtain ⟨g, g1, g3⟩ := ha
    unfold plG at g3
    by_cases e1 : g = 24 + R
    · rw [if_pos e1] at g3; exact Or.inr (by omega)
    · rw [if_neg e1] at g3
      by_cases e2 : g = 87
      · rw [if_pos e2] at g3; exact Or.inr (by omega)
      · rw [if_neg e2] at g3
        exact Or.inl ⟨g, by unfold us at g1 ⊢; omega, g3⟩
  · obtain ⟨g, g1, g2, g3⟩ := ha
    unfold plG at g3
    by_cases e1 : g = 24 + R
    · rw [if_pos e1] at g3; exact Or.inr (by omega)
    · rw [if_neg e1] at g3
      by_cases e2 : g = 87
      · rw [if_pos e2] at g3; exact Or.inr (by omega)
      · rw [if_neg e2] at g3
        exact Or.inl ⟨g, by unfold us at g1 ⊢; omega, g2, g3⟩
  · obtain ⟨c1, c2, c3⟩ := low a ha.1
    refine ⟨c1, fun j => c2 j (Or.inl (fun e => ha.2 ⟨0, by unfold us; omega, by unfold fx; omega, e.symm⟩)), c3⟩
/-- a desk's cells and references, and nothing else -/
theorem DQ.same (h : DQ Y N pl H L R T ops d) (e : ∀ g, us H L L R g → (kc Y' (pl g) = kc Y (pl g) ∧ kn Y' (pl g) = kn Y (pl g)) ∧ (∀ j, gr Y' (pl g) j = gr Y (pl g) j) ∧ ∀ j, gi N' (pl g) j = gi N (pl g) j) : DQ Y' N' pl H L R T ops d := by
  have hb := h.y.1
  refine ⟨⟨hb, h.y.P, fun g hg => ?_⟩, ⟨h.n.1, fun g k hv => ?_⟩, h.s, h.j, h.h4, h.l3⟩
  · obtain ⟨k1, k2⟩ := h.y.2.2 g hg
    obtain ⟨⟨e1, e2⟩, -, -⟩ := e g hg
    refine ⟨e1.trans k1, fun h0 => ?_⟩
    obtain ⟨k3, k4⟩ := k2 h0
    exact ⟨e2.trans k3, ((e _ (us_pg hb hg h0).1).2.1 _).trans k4⟩
  · exact ((e g (vd_us hv)).2.2 k).trans (h.n.2 g k hv)
theorem DQ.kgs (h : DQ Y N pl H L R T ops d) {g : Nat} (hg : us H L L R g) : kc Y (pl g) = 18 ∨ kc Y (pl g) = 8 ∨ kc Y (pl g) = 1 := by
  rw [(h.y.2.2 g hg).1]
  unfold kg
  (repeat' split) <;> omega
theorem yM_in {q : Nat} (g : ∀ a, vk (kc Y a) → a < q) {b : Nat} (hb : vk (kc Y b)) : kc (yM Y q) b = kc Y b ∧ kn (yM Y q) b = kn Y b := ⟨kc_yM g hb rfl, kn_yM g hb⟩
theorem y9_in {b : Nat} (hb : kc Y b ≠ 9) : kc (y9 Y) b = kc Y b ∧ kn (y9 Y) b = kn Y b := ⟨kc_y9 hb rfl, kn_y9 hb rfl⟩
theorem vk_9 {K : Nat} (h : vk K) : K ≠ 9 := by rcases h with h | h | h <;> omega
theorem WT.yMw {q : Nat} (h : WT Y) (g : ∀ a, vk (kc Y a) → a < q) : WT (yM Y q) := by
  refine h.keep (fun a ha => ?_) (fun b hb => yM_in g hb)
  by_cases e : a = q
  · rw [e, kc_yMq] at ha; omega
  · rcases kc_yMv (Y := Y) e with c | ⟨c1, c2, -, -⟩
    · rw [c] at ha; omega
    · exact ⟨c1.symm, c2.symm, fun _ => rfl⟩
theorem WT.y9w (h : WT Y) : WT (y9 Y) := by
  refine h.keep (fun a ha => ?_) (fun b hb => y9_in (vk_9 hb))
  by_cases e : kc Y a = 9
  · exfalso
    have e' : (Y.2 a).1 = 9 := e
    have : kc (y9 Y) a = 0 := by
      show (if (Y.2 a).1 = 9 then ((0, 0) : Nat × Nat) else Y.2 a).1 = 0
      rw [if_pos e']
    rw [this] at ha
    omega
  · exact ⟨(y9_in e).1.symm, (y9_in e).2.symm, fun _ => rfl⟩
end DR
