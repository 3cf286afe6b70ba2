/-! THE LAW'S LOOP, ALL -/
section LZ
variable {G : XG} {K4 : XY → Nat → Int32 → Nat → Nat → XN → Prop} {Y0 Y : XY} {N0 N : XN} {B rnd a7 H L R kb nb i D8 q kk nn m k p a10 : Nat} {ops : List Int32} {v2 : Int32} {pl T : Nat → Nat} {d : XD} {hd : Nat → XD}
theorem law_322 (IH : LI G K4 Y0 N0 B rnd a7 H L ops v2 kb nb (i + 1) D8) {x l : Nat} {s17 s0 : Int32} (h : LV Y0 N0 Y q N B rnd a7 pl H L R T ops d m k p hd a10 i kb nb kk nn) (hx : x < 2 ^ 30) (hl : l < 2 ^ 30) (hs : (s17 = 0 ∧ H ≤ x) ∨ (s17 = 1 ∧ x < H)) (hs0 : (s0 = 0 ∧ (H ≤ x ∨ (x < H ∧ L ≤ l))) ∨ (s0 = 1 ∧ x < H ∧ l < L)) : f_L_law_322 G K4 (f_L_law_190 G K4 D8) Y q v2 B rnd (pl 0) a7 (nI m) (nI i) a10 (-2000000097) (nI L) (nI x) (nI l) s17 s0 kk nn N := by
  obtain ⟨v, N1, v1, e1, h1⟩ := h.below (n := 10) (by omega) (by omega)
  have hu := h1.nu
  have hk := h1.dk
  have eH : nH d = H := hk.s.1
  have eL : nL d = L := hk.s.2.1
  unfold f_L_law_322
  refine ckP_i h.kr (ckP_i h.bud (bd2P_i e1 ?_))
  rcases (by omega : v = 0 ∨ v = 1 ∨ v = 2 ∨ v = 3 ∨ v = 4 ∨ v = 5 ∨ (6 ≤ v ∧ v < 10)) with rfl | rfl | rfl | rfl | rfl | rfl | hv
  · obtain ⟨w, N2, w1, e2, h2⟩ := h1.below (n := 6) (by omega) (by omega)
    rw [if_pos (show nI 0 = 0 from rfl)]
    refine bd2P_i e2 ?_
    by_cases c : nI w = 0
    · rw [if_pos c]
      exact law_388 IH h2 hx hs (n := 11000) rfl (by omega)
    · rw [if_neg c]
      exact law_388 IH h2 hx hs (n := 30) rfl (by omega)
  · rw [if_neg (show ¬ nI 1 = 0 by decide), if_pos (show nI 1 = 1 from rfl)]
    exact law_504 IH h1 hx hl hs0
  · rw [if_neg (show ¬ nI 2 = 0 by decide), if_neg (show ¬ nI 2 = 1 by decide), if_pos (show nI 2 = 2 from rfl)]
    exact law_504 IH h1 hx hl hs0
  · rw [if_neg (show ¬ nI 3 = 0 by decide), if_neg (show ¬ nI 3 = 1 by decide), if_neg (show ¬ nI 3 = 2 by decide), if_pos (show nI 3 = 3 from rfl)]
    rcases hs0 with ⟨rfl, ho⟩ | ⟨rfl, h3, h4⟩
    · have e := L_releaseO (x := nI x) (y := nI l) h1.lp.2.1.y9.1.2.1 h1.2.2.1 (by
        rcases ho with ho | ⟨ho, ho2⟩
        · exact Or.inl (out_ge (by omega) (by omega))
        · exact Or.inr ⟨⟨x, by omega, rfl⟩, out_ge (by omega) (by omega)⟩)
      rw [if_pos rfl]
      exact law_566n IH h1.lp hu e
    · rw [if_neg i10]
      exact law_rel IH h1 h3 h4
  · rw [if_neg (show ¬ nI 4 = 0 by decide), if_neg (show ¬ nI 4 = 1 by decide), if_neg (show ¬ nI 4 = 2 by decide), if_neg (show ¬ nI 4 = 3 by decide), if_pos (show nI 4 = 4 from rfl)]
    exact law_588 IH h1 hl
  · rw [if_neg (show ¬ nI 5 = 0 by decide), if_neg (show ¬ nI 5 = 1 by decide), if_neg (show ¬ nI 5 = 2 by decide), if_neg (show ¬ nI 5 = 3 by decide), if_neg (show ¬ nI 5 = 4 by decide), if_pos (show nI 5 = 5 from rfl)]
    exact law_588 IH h1 hl
  · have ne : ∀ j : Nat, j < 6 → ¬ nI v = nI j := fun j hj e => by have := (nI_eq (by omega) (by omega)).mp e; omega
    obtain ⟨w, N2, w1, e2, h2⟩ := h1.below (n := 5) (by omega) (by omega)
    rw [if_neg (show ¬ nI v = 0 from ne 0 (by omega)), if_neg (show ¬ nI v = 1 from ne 1 (by omega)), if_neg (show ¬ nI v = 2 from ne 2 (by omega)), if_neg (show ¬ nI v = 3 from ne 3 (by omega)), if_neg (show ¬ nI v = 4 from ne 4 (by omega)), if_neg (show ¬ nI v = 5 from ne 5 (by omega))]
    refine ckP_i (Or.inr ?_) (bd2P_i e2 ?_)
    · rw [nI_toInt (by omega)]; omega
    · by_cases c : nI w = 0
      · rw [if_pos c]
        exact law_816 IH h2 (n := 25) rfl (by omega)
      · rw [if_neg c]
        exact law_816 IH h2 (n := 5) rfl (by omega)
theorem law_303 (IH : LI G K4 Y0 N0 B rnd a7 H L ops v2 kb nb (i + 1) D8) {x l : Nat} {s17 : Int32} (h : LV Y0 N0 Y q N B rnd a7 pl H L R T ops d m k p hd a10 i kb nb kk nn) (hx : x < 2 ^ 30) (hl : l < 2 ^ 30) (hs : (s17 = 0 ∧ H ≤ x) ∨ (s17 = 1 ∧ x < H)) : f_L_law_303 G K4 (f_L_law_190 G K4 D8) Y q v2 B rnd (pl 0) a7 (nI m) (nI i) a10 (-2000000097) (nI L) (nI x) (nI l) s17 kk nn N := by
  have l3 := h.dk.l3
  have hs' := hs
  unfold f_L_law_303
  rcases hs' with ⟨rfl, ho⟩ | ⟨rfl, h1⟩
  · rw [if_pos rfl]
    exact law_322 IH h hx hl hs (Or.inl ⟨rfl, Or.inl ho⟩)
  · rw [if_neg i10]
    by_cases c : L ≤ l
    · have c1 : nI L ≤ nI l := nI_le c (by omega)
      rw [if_pos c1]
      exact law_322 IH h hx hl hs (Or.inl ⟨rfl, Or.inr ⟨h1, c⟩⟩)
    · have c1 : ¬ nI L ≤ nI l := nI_ge (by omega) (by omega)
      rw [if_neg c1]
      exact law_322 IH h hx hl hs (Or.inr ⟨rfl, h1, by omega⟩)
theorem law_255 (IH : LI G K4 Y0 N0 B rnd a7 H L ops v2 kb nb (i + 1) D8) {e : Nat} {s : Int32} (h : LV Y0 N0 Y q N B rnd a7 pl H L R T ops d m k p hd a10 i kb nb kk nn) (es : s = nI e) (he : e ≤ 1 ∧ 1 ≤ H + e) : f_L_law_255 G K4 (f_L_law_190 G K4 D8) Y q v2 B rnd (pl 0) a7 (nI m) (nI i) a10 (-2000000097) (nI H) (nI L) s (nI H) rnd kk nn N := by
  have h4 := h.dk.h4
  have l3 := h.dk.l3
  obtain ⟨x, N1, x1, e1, h1⟩ := h.below (n := H + e) (by omega) (by omega)
  obtain ⟨w, N2, w1, e2, h2⟩ := h1.below (n := 12) (by omega) (by omega)
  have go : ∀ (f : Nat) (t : Int32), t = nI f → f ≤ 1 → 1 ≤ L + f → f_L_law_285 G K4 (f_L_law_190 G K4 D8) Y q v2 B rnd (pl 0) a7 (nI m) (nI i) a10 (-2000000097) (nI H) (nI L) (nI x) t (nI L) rnd kk nn N2 := fun f t et hf hf2 => by
    obtain ⟨l, N3, l1, e3, h3⟩ := h2.below (n := L + f) (by omega) (by omega)
    unfold f_L_law_285
    rw [et, nI_add]
    refine ckP_i h2.kr (ckP_i h2.bud (bd2P_i e3 ?_))
    by_cases c : H ≤ x
    · have c1 : nI H ≤ nI x := nI_le c (by omega)
      rw [if_pos c1]
      exact law_303 IH h3 (by omega) (by omega) (Or.inl ⟨rfl, c⟩)
    · have c1 : ¬ nI H ≤ nI x := nI_ge (by omega) (by omega)
      rw [if_neg c1]
      exact law_303 IH h3 (by omega) (by omega) (Or.inr ⟨rfl, by omega⟩)
  unfold f_L_law_255
  rw [es, nI_add]
  refine ckP_i h.kr (ckP_i h.bud (bd2P_i e1 (ckP_i h1.kr (bd2P_i e2 ?_))))
  by_cases c : nI w = 0
  · rw [if_pos c]
    exact go 1 1 rfl (by omega) (by omega)
  · rw [if_neg c]
    by_cases c2 : L = 0
    · have c3 : nI L = 0 := by rw [c2]; rfl
      rw [if_pos c3]
      exact go 1 1 rfl (by omega) (by omega)
    · have c3 : ¬ nI L = 0 := fun z => c2 ((nI_eq (by omega) (by omega)).mp (z.trans (nI_lit 0)))
      rw [if_neg c3]
      exact go 0 0 rfl (by omega) (by omega)
/-- the loop of changes: it ends well -/
theorem law_190 (HK : LK K4 Y0 N0 v2 kb nb) (hkb : kb ≤ 370000 ∧ nb ≤ 6000000) : ∀ (z i D9 : Nat), i + z = 35 → z < D9 → LI G K4 Y0 N0 B rnd a7 H L ops v2 kb nb i D9 := by
  intro z
  induction z with
  | zero =>
    intro i D9 hi hD Y q N pl R T d m k p hd kk nn h hI h9 hR hT hm hk8 hk hn
    obtain ⟨D8, rfl⟩ : ∃ z, D9 = z + 1 := ⟨D9 - 1, by omega⟩
    have c : (35 : Int32) ≤ nI i := (nI_le (by omega) (by omega) : nI 35 ≤ nI i)
    rw [f_L_law_190, if_pos c]
    exact law_965 HK h9 hkb (by omega) hk8 (min m 8) 0 FU kk nn q N ops d p (by omega) (by unfold FU; omega) h hI (by omega) (by omega)
  | succ z ih =>
    intro i D9 hi hD Y q N pl R T d m k p hd kk nn h hI h9 hR hT hm hk8 hk hn
    obtain ⟨D8, rfl⟩ : ∃ z, D9 = z + 1 := ⟨D9 - 1, by omega⟩
    have IH := ih (i + 1) D8 (by omega) (by omega)
    have c : ¬ (35 : Int32) ≤ nI i := (nI_ge (by omega) (by omega) : ¬ nI 35 ≤ nI i)
    have h' := h
    obtain ⟨⟨c1, c2, c3, c4⟩, -⟩ := h'
    rw [f_L_law_190, if_neg c]
    refine ⟨⟨B, Or.inl (vk_of (by omega)), by rw [c1]; rfl⟩, fun q2 g => ?_⟩
    have hM : MK (yM Y q2) q2 := ⟨kc_yMq, fun a ha => kc_yMu ha⟩
    have hE := h.yM g
    obtain ⟨u1, u2, u3⟩ := hE.2.2.2.2.1
    have hK : DK (yM Y q2) q2 N pl H L R T ops d := ⟨hM, u1⟩
    obtain ⟨Y', q', N', pj, a1, a2, a3, a4, a5, a6, a7', a8, a9⟩ := K_dcopy hK
    obtain ⟨b1, b2⟩ := hK.ext a3.m a4 a9 a5
    have lt := fun g (hg : us H L L R g) => us_lt hM u1.y hg
    have ou := hE.2.2.2.2.2.1
    have lr := hM.inn (a := rnd) (by rw [hE.2.1.1]; decide) (by rw [hE.2.1.1]; decide)
    have rB := hE.2.1.2
    have hz : FZ Y' N' B pl H L R ops q2 d := ⟨pj, R, T, a2, a3.q, by omega, fun g hg => by
      by_cases e1 : g = 1
      · subst e1
        rw [a7']
        refine ⟨ou 1 hg, fun ho => ?_⟩
        obtain ⟨g', g1, g2, g3⟩ := ho
        have e := u1.y.P _ _ g1 hg g3
        exact g2 (by unfold fx; omega)
      · have := a6 g hg e1
        refine ⟨by omega, fun ho => ?_⟩
        obtain ⟨g', g1, g2, g3⟩ := ho
        have := lt g' g1
        omega⟩
    have hV : LV Y0 N0 Y' q' N' B rnd a7 pl H L R T ops d m k p hd q2 i kb nb (kk + 266) (nn + 2317) := ⟨a3.m, hE.go hM b2 b1.q u2, hI.same (fun a ha ha2 => funext (fun j => (a5 a (by omega)).2.2 j)), hz, hR, hT, hm, hk8, by omega, hkb, by omega, by omega⟩
    have hq := b1.y
    have b0 : kk + 266 ≤ 600086 ∧ nn + 2317 ≤ 7301442 := ⟨bu 599820 (by omega) (by decide), bu 7299125 (by omega) (by decide)⟩
    obtain ⟨w, N2, w1, e2, h2⟩ := hV.below (n := 12) (by omega) (by omega)
    have h4 := u1.h4
    refine ckP_i u1.y.k0 (ckP_i b0 (bd4P_i a1 (ckP_i hq.k0 (ckP_i (by rw [hq.p3]; exact hq.g3) (lt_i ?_)))))
    rw [hq.p3]
    refine ckP_i hq.k84 (lt_i (ckP_i (by rw [hq.p4]; exact hq.g4) (lt_i ?_)))
    rw [hq.p4, hq.n84]
    refine ckP_i hq.k85 (lt_i ?_)
    rw [hq.n85]
    refine ckP_i hV.kr (bd2P_i e2 ?_)
    by_cases cw : nI w = 0
    · rw [if_pos cw]
      exact law_255 IH h2 (e := 1) rfl (by omega)
    · rw [if_neg cw]
      by_cases c0 : H = 0
      · have c0' : Int32.ofNat H = 0 := by rw [c0]; rfl
        rw [if_pos c0']
        exact law_255 IH h2 (e := 1) rfl (by omega)
      · have c0' : ¬ Int32.ofNat H = 0 := fun z => c0 ((nI_eq (a := H) (b := 0) (by omega) (by omega)).mp z)
        rw [if_neg c0']
        exact law_255 IH h2 (e := 0) rfl (by omega)
end LZ
