/-! THE LAW'S LOOP: what a round draws -/
section LY
variable {G : XG} {K4 : XY → Nat → Int32 → Nat → Nat → XN → Prop} {Y0 Y Y' : XY} {N0 N N' : XN} {B rnd a7 H L R R' kb nb i D8 q q' kk nn m k p a10 : Nat} {ops : List Int32} {v2 : Int32} {pl pl' T T' : Nat → Nat} {d d' d1 : XD} {hd : Nat → XD}
theorem i10 : ¬ (1 : Int32) = 0 := by decide
theorem BK.put (hb : BK d) (hD : DJ ops d) {l t w : Int32} : BK (sPut d l t w) := by
  have h60 := hD.R60
  have h6 := hD.H6
  have h8 := hD.L8
  obtain ⟨p3, pf, p0, p1, p2, p4, p5, p6, p7, p8⟩ := sPut_at (d := d) l t w
  refine ⟨hb.1.same (pf 1 (by omega) (by omega)) (pf 2 (by omega) (by omega)) (fun j hj => Or.inl (pf _ (by omega) (by omega))) (fun l' k' hl' hk => ?_), fun r hr ho x hx ex => ?_⟩
  · have t3 := hD.t3 l' hl'
    rw [nT_same (pf _ (by omega) (by omega))] at hk
    exact ⟨k', hk, pf _ (by omega) (by omega)⟩
  · have e3 : nR (sPut d l t w) = nR d + 1 := by
      unfold nR at p3 ⊢
      rw [p3]
      exact nI_clamp (by unfold nR at h60; omega)
    rw [e3] at hr
    rw [nH_same (pf 1 (by omega) (by omega))] at hx
    rw [pf (14 + 6 * x) (by omega) (by omega)]
    by_cases e : r = nR d
    · subst e
      rw [p4] at ho
      exact absurd ho (by decide)
    · rw [pf _ (by omega) (by omega)] at ho ex
      exact hb.2 r (by omega) ho x hx ex
theorem law_696 (IH : LI G K4 Y0 N0 B rnd a7 H L ops v2 kb nb (i + 1) D8) {l w : Nat} (h : LPQ Y0 N0 Y q N B rnd a7 pl H L R T ops d d m k p hd a10) (hu : NU R d m k i kb nb kk nn 0 0) (hl : l < L) (hw : 1 ≤ w ∧ w ≤ 99) : f_L_law_696 G K4 (f_L_law_190 G K4 D8) Y q v2 B rnd (pl 0) a7 (nI m) (nI i) a10 1 (nI R) (nI l) (nI w) kk nn N := by
  have hk := h.dk
  have hb := h.bk
  have hY := hk.y
  have hu' := hu
  obtain ⟨u1, u2, u3, u4, u5, u6, u7, u8⟩ := hu'
  have lt := fun g (hg : us H L L R g) => us_lt hk.m hY hg
  have lt0 := lt 0 (by unfold us; omega)
  have lt87 := lt 87 (by unfold us; omega)
  have eR : nR d = R := hk.s.2.2.1
  have hl' : l < nL d := by rw [hk.s.2.1]; exact hl
  have hq9 : kc Y q = 9 ∧ kc Y (q + 1) = 0 := ⟨hk.m.1, hk.m.2 _ (Nat.lt_succ_self _)⟩
  have w0 : gi N (pl 0) 0 = d 0 := hk.n.w0
  -- the row
  have m7 := hk.m.nx (c := 1) (m := 8)
  have kq7 : kc (yK Y q 1 8) q = 1 := kcq rfl
  have nq7 : kn (yK Y q 1 8) q = 8 := knq rfl
  have g0 : gi (si (n0 N q) q 0 (nI l)) (pl 0) 0 = d 0 := (gi_si_n (Or.inl (by omega))).trans ((n0_ne (by omega) 0).trans w0)
  obtain ⟨N26, eN⟩ : ∃ N26, N26 = si (si (si (si (si (si (si (si (n0 N q) q 0 (nI l)) q 1 (d 0)) q 2 (nI w)) q 3 (nI 0)) q 4 (-nI 1)) q 5 (nI 0)) q 6 (-nI 1)) q 7 (nI 0) := ⟨_, rfl⟩
  have k87 : kc (yK Y q 1 8) (pl 87) = 8 := (yK_ne (by omega) (by omega)).1.trans hY.k87
  have n87 : kn (yK Y q 1 8) (pl 87) = R := (yK_ne (by omega) (by omega)).2.trans hY.n87
  obtain ⟨Y30, e1, e2, e3, e4, e5⟩ := D_with (N := N26) (b := q) (r := fun j => pl (24 + j)) m7 k87 n87 kq7 (by omega) (fun j hj => by
    have l9 := lt (24 + j) (by unfold us; omega)
    exact ⟨(yK_gr (by omega) j).trans (hY.gr' hj), (yK_ne (by omega) (by omega)).1.trans (hY.kr hj)⟩)
  have k2 : ∀ c, kc Y30 c = kc (yK (yK Y q 1 8) (q + 1) 8 (R + 1)) c ∧ kn Y30 c = kn (yK (yK Y q 1 8) (q + 1) 8 (R + 1)) c := fun c => ⟨kc_2 e2 c, kn_2 e2 c⟩
  have kl : ∀ c, c < q → kc Y30 c = kc Y c ∧ kn Y30 c = kn Y c := fun c hc => by
    rw [(k2 c).1, (k2 c).2]
    have a := yK_ne (Y := yK Y q 1 8) (q := q + 1) (c := 8) (m := R + 1) (b := c) (by omega) (by omega)
    have b := yK_ne (Y := Y) (q := q) (c := 1) (m := 8) (b := c) (by omega) (by omega)
    exact ⟨a.1.trans b.1, a.2.trans b.2⟩
  have k30 : kc Y30 (pl 0) = 18 := (kl _ lt0).1.trans hY.k0
  obtain ⟨Y34, eY⟩ : ∃ Y34, Y34 = sr Y30 (pl 0) 6 (some (q + 1)) := ⟨_, rfl⟩
  have kY : ∀ c, kc Y34 c = kc Y30 c ∧ kn Y34 c = kn Y30 c := fun c => by rw [eY]; exact ⟨rfl, rfl⟩
  have kA : kc Y34 (q + 1) = 8 ∧ kn Y34 (q + 1) = R + 1 := by
    rw [(kY _).1, (kY _).2, (k2 _).1, (k2 _).2]
    exact ⟨kcq rfl, knq rfl⟩
  have kb9 : kc Y34 q = 1 ∧ kn Y34 q = 8 := by
    rw [(kY _).1, (kY _).2, (k2 _).1, (k2 _).2]
    have a := yK_ne (Y := yK Y q 1 8) (q := q + 1) (c := 8) (m := R + 1) (b := q) (by omega) (by omega)
    exact ⟨a.1.trans kq7, a.2.trans nq7⟩
  have gr6 : gr Y34 (pl 0) 6 = some (q + 1) := by rw [eY]; exact gr_sr_s
  have gp6 : gp Y34 (pl 0) 6 = q + 1 := gp_of gr6
  have grA : gr Y34 (q + 1) R = some q := by rw [eY]; exact (gr_sr_ne (by omega) R).trans e5
  have hm34 : MK Y34 (q + 1 + 1) := by
    have a := m7.nx (c := 8) (m := R + 1)
    exact ⟨by rw [(kY _).1, (k2 _).1]; exact a.1, fun c hc => by rw [(kY _).1, (k2 _).1]; exact a.2 c hc⟩
  have nv : ∀ (c j : Nat), c < q → gi (n0 N26 (q + 1)) c j = gi N c j := fun c j hc => by
    rw [n0_ne (by omega), eN]
    simp (disch := omega) only [gi_si_n, n0_ne]
  have lR1 : nI (R + 1) - 1 = nI R := pk_sub (a := R + 1) (b := 1) (by omega)
  obtain ⟨f1, f2⟩ := hk.addR (b := q) (A := q + 1) (q' := q + 1 + 1) (Y' := Y34) (N' := n0 N26 (q + 1)) (l := l) (k := w) (t := d 0) hm34 ⟨by omega, by omega⟩ ⟨by omega, by omega⟩ (by omega) (by omega) hl hw.2 (fun c hc => ⟨⟨(kY c).1.trans (kl c hc).1, (kY c).2.trans (kl c hc).2⟩, fun j hj => by
      rw [eY]
      have a : gr Y30 c j = gr Y c j := (e3 c j (by omega)).trans (yK_gr (by omega) j)
      rcases hj with hj | hj
      · exact (gr_sr_ne hj j).trans a
      · exact (gr_sr_nf hj).trans a, fun j => nv c j hc⟩) kb9 kA gr6 (fun j hj => by rw [eY]; exact (gr_sr_ne (by omega) j).trans (e4 j hj)) grA (by
      rw [eN]
      refine ⟨?_, ?_, ?_, ?_, ?_, ?_, ?_, ?_⟩ <;> simp (disch := omega) only [n0_ne, gi_si_n, gi_si]) (fun ww => by
      rw [eY]
      refine (((ww.nx hk.m (c := 1) (m := 8) (Or.inl rfl)).nx m7 (c := 8) (m := R + 1) (Or.inr (Or.inr (Or.inl rfl)))).keep (fun c hc => ?_) (fun c _ => k2 c)).sr8 (Or.inr (by rw [k30]; omega))
      refine ⟨(k2 c).1.symm, (k2 c).2.symm, fun j => ?_⟩
      have ne : c ≠ q + 1 := fun e => by
        have : kc Y30 c = 8 := by rw [e, (k2 _).1]; exact kcq rfl
        omega
      exact (e3 c j ne).trans (yK_gr ne j).symm)
  have p4 : sPut d (nI l) (d 0) (nI w) (107 + 8 * R) = nI 0 := by
    rw [← eR]
    exact (sPut_at (d := d) (nI l) (d 0) (nI w)).2.2.2.2.2.1
  obtain ⟨N43, r1, r2, r3⟩ := K_raises f1 (r := R) (by omega) p4
  have pq : plG pl (24 + R) 87 q (q + 1) (24 + R) = q := if_pos rfl
  have p00 : plG pl (24 + R) 87 q (q + 1) 0 = pl 0 := by unfold plG; rw [if_neg (by omega), if_neg (by omega)]
  rw [pq, p00] at r1
  have er : sRaiseNow (sPut d (nI l) (d 0) (nI w)) R = sRaise d l w := by unfold sRaise; rw [eR]
  rw [er] at r2
  have hb2 : BK (sRaise d l w) := by
    rw [← er]
    exact (hb.put hk.j).raiseNow f1.j (by rw [f1.s.2.2.1]; omega) p4
  have fin := law_777c IH (h.go (f2.trans r3) r2 hb2) (kk := kk + 1 + 1) (nn := nn + 8 + 64) (show NU R d m k i kb nb (kk + 1 + 1) (nn + 8 + 64) 2 72 from ⟨u1, u2, u3, u4, u5, u6, by omega, by omega⟩) hl' hw eR
  rw [p00] at fin
  have b1 : kk + 1 ≤ 600086 := by omega
  have b2 : nn + 8 ≤ 7301442 := bu 7301434 (by omega) (by decide)
  have b3 : kk + 1 + 1 ≤ 600086 := by omega
  have b4 : nn + 8 + 64 ≤ 7301442 := bu 7301378 (bu 7301370 (by omega) (by decide)) (by decide)
  have x8 : ∀ x : Int32, x = 0 ∨ x = 1 ∨ x = 2 ∨ x = 3 ∨ x = 4 ∨ x = 5 ∨ x = 6 ∨ x = 7 → xb x (kn (yK Y q 1 8) q) = true := fun x hx => by
    rw [nq7]
    rcases hx with e | e | e | e | e | e | e | e <;> (subst e; decide)
  have eA : Int32.ofNat (kn Y34 (q + 1)) - 1 = nI R := by rw [kA.2]; exact lR1
  unfold f_L_law_696
  rw [if_neg i10]
  refine ckP_i hY.k0 (ckP_i (by rw [hY.p6]; exact hY.g6) (lt_i ?_))
  rw [hY.p6]
  refine ckP_i hq9 (ckP_i ⟨b1, b2⟩ (lt_i (lt_i (ckP_i (x8 _ (by decide)) (lt_i (ckP_i (x8 _ (by decide)) (lt_i ?_)))))))
  rw [g0]
  refine ckP_i (x8 _ (by decide)) (lt_i (ckP_i (x8 _ (by decide)) (lt_i (ckP_i (x8 _ (by decide)) (lt_i (ckP_i (x8 _ (by decide)) (lt_i (ckP_i (x8 _ (by decide)) (lt_i (ckP_i (x8 _ (by decide)) (lt_i (ckP_i ⟨b3, b4⟩ ?_))))))))))))
  have eN' : si (si (si (si (si (si (si (si (n0 N q) q 0 (nI l)) q 1 (d 0)) q 2 (nI w)) q 3 0) q 4 (-1)) q 5 0) q 6 (-1)) q 7 0 = N26 := eN.symm
  rw [eN']
  refine bd4P_i e1 (ckP_i k30 (lt_i ?_))
  rw [← eY]
  refine ckP_i (by rw [gp6]; exact gr6) (lt_i ?_)
  rw [gp6, eA, nI_clamp (by omega)]
  refine ckP_i kA.1 (ckP_i (by rw [kA.2]; exact xb_nI (by omega) (by omega)) (ckP_i (by rw [gp_of grA]; exact grA) (lt_i ?_)))
  rw [gp_of grA]
  exact bdP_i r1 fin
/-- requests of one's own -/
theorem law_629 (IH : LI G K4 Y0 N0 B rnd a7 H L ops v2 kb nb (i + 1) D8) {l w : Nat} {s0 : Int32} (h : LPQ Y0 N0 Y q N B rnd a7 pl H L R T ops d d m k p hd a10) (hu : NU R d m k i kb nb kk nn 0 0) (hl : l < 2 ^ 30) (hw : w < 2 ^ 30) (hs : (s0 = 0 ∧ (w = 0 ∨ 99 < w)) ∨ (s0 = 1 ∧ 1 ≤ w ∧ w ≤ 99)) : f_L_law_629 G K4 (f_L_law_190 G K4 D8) Y q v2 B rnd (pl 0) a7 (nI m) (nI i) a10 (-2000000097) (nI L) (nI l) (nI w) s0 kk nn N := by
  have hk := h.dk
  have hY := hk.y
  have l3 := hk.l3
  have hu' := hu
  obtain ⟨u1, u2, u3, u4, u5, u6, u7, u8⟩ := hu'
  have eL : nL d = L := hk.s.2.1
  unfold f_L_law_629
  by_cases cl : L ≤ l
  · have c1 : nI L ≤ nI l := nI_le cl (by omega)
    have e := L_raiseO (y := nI w) h.2.1.y9.1.2.1 h.2.2.1 (out_ge (n := nL d) (m := l) (by omega) (by omega))
    rw [if_pos c1]
    unfold f_L_law_659 f_L_law_696
    rw [if_pos c1, if_pos rfl]
    exact law_777n IH h hu e
  · have c1 : ¬ nI L ≤ nI l := nI_ge (by omega) (by omega)
    rw [if_neg c1]
    rcases hs with ⟨rfl, hw0⟩ | ⟨rfl, hw1⟩
    · have e := L_raiseN h.2.1.y9.1.2.1 h.2.2.1 (i := l) (c := w) (by omega) (by omega)
      rw [if_pos rfl]
      unfold f_L_law_659 f_L_law_696
      rw [if_neg c1, if_pos rfl, if_pos rfl]
      exact law_777n IH h hu e
    · have c60 : ¬ (60 : Int32) ≤ Int32.ofNat (kn Y (pl 87)) := by
        rw [hY.n87]
        exact (nI_ge (by omega) (by omega) : ¬ nI 60 ≤ nI R)
      rw [if_neg i10]
      refine ckP_i hY.k0 (ckP_i (by rw [hY.p6]; exact hY.g6) (lt_i ?_))
      rw [hY.p6]
      refine ckP_i hY.k87 ?_
      rw [if_neg c60]
      unfold f_L_law_659
      rw [if_neg c1, if_neg i10, if_neg i10]
      refine ckP_i hY.k0 (ckP_i (by rw [hY.p6]; exact hY.g6) (lt_i ?_))
      rw [hY.p6]
      refine ckP_i hY.k87 ?_
      rw [hY.n87]
      exact law_696 IH h hu (by omega) hw1
theorem law_588 (IH : LI G K4 Y0 N0 B rnd a7 H L ops v2 kb nb (i + 1) D8) {l : Nat} (h : LV Y0 N0 Y q N B rnd a7 pl H L R T ops d m k p hd a10 i kb nb kk nn) (hl : l < 2 ^ 30) : f_L_law_588 G K4 (f_L_law_190 G K4 D8) Y q v2 B rnd (pl 0) a7 (nI m) (nI i) a10 (-2000000097) (nI L) (nI l) kk nn N := by
  obtain ⟨v, N1, v1, e1, h1⟩ := h.below (n := 6) (by omega) (by omega)
  have go : ∀ (n : Nat) (s : Int32), s = nI n → 0 < n → n ≤ 120 → f_L_law_607 G K4 (f_L_law_190 G K4 D8) Y q v2 B rnd (pl 0) a7 (nI m) (nI i) a10 (-2000000097) (nI L) (nI l) s rnd kk nn N1 := fun n s es hn hn2 => by
    obtain ⟨w, N2, w1, e2, h2⟩ := h1.below (n := n) hn (by omega)
    unfold f_L_law_607
    rw [es]
    refine ckP_i h1.kr (ckP_i h1.bud (bd2P_i e2 ?_))
    by_cases c0 : w = 0
    · have c : nI w ≤ 0 := by rw [c0]; decide
      rw [if_pos c]
      exact law_629 IH h2.lp h2.nu hl (by omega) (Or.inl ⟨rfl, Or.inl c0⟩)
    · have c : ¬ nI w ≤ 0 := (nI_ge (by omega) (by omega) : ¬ nI w ≤ nI 0)
      rw [if_neg c]
      by_cases c9 : 100 ≤ w
      · have c' : (100 : Int32) ≤ nI w := (nI_le c9 (by omega) : nI 100 ≤ nI w)
        rw [if_pos c']
        exact law_629 IH h2.lp h2.nu hl (by omega) (Or.inl ⟨rfl, Or.inr (by omega)⟩)
      · have c' : ¬ (100 : Int32) ≤ nI w := (nI_ge (by omega) (by omega) : ¬ nI 100 ≤ nI w)
        rw [if_neg c']
        exact law_629 IH h2.lp h2.nu hl (by omega) (Or.inr ⟨rfl, by omega, by omega⟩)
  unfold f_L_law_588
  refine ckP_i h.kr (ckP_i h.bud (bd2P_i e1 ?_))
  by_cases c : nI v = 0
  · rw [if_pos c]
    exact go 120 120 rfl (by omega) (by omega)
  · rw [if_neg c]
    exact go 25 25 rfl (by omega) (by omega)
/-- leases -/
theorem law_504 (IH : LI G K4 Y0 N0 B rnd a7 H L ops v2 kb nb (i + 1) D8) {x l : Nat} {s : Int32} (h : LV Y0 N0 Y q N B rnd a7 pl H L R T ops d m k p hd a10 i kb nb kk nn) (hx : x < 2 ^ 30) (hl : l < 2 ^ 30) (hs : (s = 0 ∧ (H ≤ x ∨ (x < H ∧ L ≤ l))) ∨ (s = 1 ∧ x < H ∧ l < L)) : f_L_law_504 G K4 (f_L_law_190 G K4 D8) Y q v2 B rnd (pl 0) a7 (nI m) (nI i) a10 (-2000000097) (nI x) (nI l) s kk nn N := by
  have hk := h.dk
  have eH : nH d = H := hk.s.1
  have eL : nL d = L := hk.s.2.1
  have hu := h.nu
  have hu' := hu
  obtain ⟨u1, u2, u3, u4, u5, u6, u7, u8⟩ := hu'
  unfold f_L_law_504
  rcases hs with ⟨rfl, ho⟩ | ⟨rfl, h1, h2⟩
  · have e := L_leaseO (x := nI x) (y := nI l) h.lp.2.1.y9.1.2.1 h.2.2.1 (by
      rcases ho with ho | ⟨ho, ho2⟩
      · exact Or.inl (out_ge (by omega) (by omega))
      · exact Or.inr ⟨⟨x, by omega, rfl⟩, out_ge (by omega) (by omega)⟩)
    rw [if_pos rfl]
    exact law_524n IH h.lp hu e
  · obtain ⟨Y', q', N', pl', T', d', a1, a2, a3, a4, a5⟩ := K_lease hk h.bk h1 h2
    have hT : tM d' = tM d := by
      rw [a2]
      split
      · exact lease_T hk.j (by omega) (by assumption)
      · rfl
    have b1 : kk + 1 ≤ 600086 ∧ nn + 4 ≤ 7301442 := ⟨by omega, bu 7301438 (by omega) (by decide)⟩
    have fin := law_524c IH (h.lp.go a5 a3 a4) (kk := kk + 1) (nn := nn + 4) (x := x) (l := l) (show NU R d m k i kb nb (kk + 1) (nn + 4) 1 4 from ⟨u1, u2, u3, u4, u5, u6, by omega, by omega⟩) (by omega) (by omega) a2 hT
    rw [a5.p0] at fin
    rw [if_neg i10]
    exact ckP_i hk.y.k0 (ckP_i b1 (bd4P_i a1 fin))
theorem law_rel (IH : LI G K4 Y0 N0 B rnd a7 H L ops v2 kb nb (i + 1) D8) {x l : Nat} (h : LV Y0 N0 Y q N B rnd a7 pl H L R T ops d m k p hd a10 i kb nb kk nn) (h1 : x < H) (h2 : l < L) : ckP (kc Y (pl 0) = 18) (ckP (kk + 1 ≤ 600086 ∧ nn + 4 ≤ 7301442) (bd4P (f_X8_release Y q (pl 0) (nI x) (nI l) N) fun r16 Y18 q19 N20 => f_L_law_566 G K4 (f_L_law_190 G K4 D8) Y18 q19 v2 B rnd (pl 0) a7 (nI m) (nI i) a10 1 r16 (nI x) (nI l) (kk + 1) (nn + 4) N20)) := by
  have hk := h.dk
  have eH : nH d = H := hk.s.1
  have eL : nL d = L := hk.s.2.1
  have hu := h.nu
  have hu' := hu
  obtain ⟨u1, u2, u3, u4, u5, u6, u7, u8⟩ := hu'
  obtain ⟨Y', q', N', pl', T', d', a1, a2, a3, a4, a5⟩ := K_release hk h.bk h1 h2
  have hT : tM d' = tM d := by
    rw [a2]
    split
    · exact release_T hk.j (by omega)
    · rfl
  have b1 : kk + 1 ≤ 600086 ∧ nn + 4 ≤ 7301442 := ⟨by omega, bu 7301438 (by omega) (by decide)⟩
  have fin := law_566c IH (h.lp.go a5 a3 a4) (kk := kk + 1) (nn := nn + 4) (x := x) (l := l) (show NU R d m k i kb nb (kk + 1) (nn + 4) 1 4 from ⟨u1, u2, u3, u4, u5, u6, by omega, by omega⟩) (by omega) (by omega) a2 hT
  rw [a5.p0] at fin
  exact ckP_i hk.y.k0 (ckP_i b1 (bd4P_i a1 fin))
/-- funds -/
theorem law_411 (IH : LI G K4 Y0 N0 B rnd a7 H L ops v2 kb nb (i + 1) D8) {x c : Nat} {s17 s0 : Int32} (h : LV Y0 N0 Y q N B rnd a7 pl H L R T ops d m k p hd a10 i kb nb kk nn) (hx : x < 2 ^ 30) (hc : c < 2 ^ 30) (hs : (s17 = 0 ∧ H ≤ x) ∨ (s17 = 1 ∧ x < H)) (hs0 : (s0 = 0 ∧ (c = 0 ∨ 9999 < c)) ∨ (s0 = 1 ∧ 1 ≤ c ∧ c ≤ 9999)) : f_L_law_411 G K4 (f_L_law_190 G K4 D8) Y q v2 B rnd (pl 0) a7 (nI m) (nI i) a10 (-2000000097) (nI x) s17 (nI c) s0 kk nn N := by
  have hk := h.dk
  have eH : nH d = H := hk.s.1
  have hu := h.nu
  unfold f_L_law_411
  rcases hs with ⟨rfl, ho⟩ | ⟨rfl, h1⟩
  · have e := L_fundO (x := nI x) (y := nI c) h.lp.2.1.y9.1.2.1 h.2.2.1 (out_ge (by omega) (by omega))
    rw [if_pos rfl]
    unfold f_L_law_428 f_L_law_439
    rw [if_pos rfl, if_pos rfl]
    exact law_482n IH h.lp hu e
  · rw [if_neg i10]
    rcases hs0 with ⟨rfl, ho⟩ | ⟨rfl, h2⟩
    · have e := L_fundN h.lp.2.1.y9.1.2.1 h.2.2.1 (i := x) (c := c) (by omega) (by omega)
      rw [if_pos rfl]
      unfold f_L_law_428 f_L_law_439
      rw [if_neg i10, if_pos rfl]
      exact law_482n IH h.lp hu e
    · rw [if_neg i10]
      unfold f_L_law_428
      rw [if_neg i10]
      exact law_439 IH h.lp hu h1 h2
theorem law_388 (IH : LI G K4 Y0 N0 B rnd a7 H L ops v2 kb nb (i + 1) D8) {x n : Nat} {s17 s : Int32} (h : LV Y0 N0 Y q N B rnd a7 pl H L R T ops d m k p hd a10 i kb nb kk nn) (hx : x < 2 ^ 30) (hs : (s17 = 0 ∧ H ≤ x) ∨ (s17 = 1 ∧ x < H)) (es : s = nI n) (hn : 0 < n ∧ n ≤ 11000) : f_L_law_388 G K4 (f_L_law_190 G K4 D8) Y q v2 B rnd (pl 0) a7 (nI m) (nI i) a10 (-2000000097) (nI x) s17 s rnd kk nn N := by
  obtain ⟨c, N2, w1, e2, h2⟩ := h.below (n := n) hn.1 (by omega)
  unfold f_L_law_388
  rw [es]
  refine ckP_i h.kr (ckP_i h.bud (bd2P_i e2 ?_))
  by_cases c0 : c = 0
  · have c' : nI c ≤ 0 := by rw [c0]; decide
    rw [if_pos c']
    exact law_411 IH h2 hx (by omega) hs (Or.inl ⟨rfl, Or.inl c0⟩)
  · have c' : ¬ nI c ≤ 0 := (nI_ge (by omega) (by omega) : ¬ nI c ≤ nI 0)
    rw [if_neg c']
    by_cases c9 : 10000 ≤ c
    · have c2 : (10000 : Int32) ≤ nI c := (nI_le c9 (by omega) : nI 10000 ≤ nI c)
      rw [if_pos c2]
      exact law_411 IH h2 hx (by omega) hs (Or.inl ⟨rfl, Or.inr (by omega)⟩)
    · have c2 : ¬ (10000 : Int32) ≤ nI c := (nI_ge (by omega) (by omega) : ¬ nI 10000 ≤ nI c)
      rw [if_neg c2]
      exact law_411 IH h2 hx (by omega) hs (Or.inr ⟨rfl, by omega, by omega⟩)
/-- time passes -/
theorem law_844 (IH : LI G K4 Y0 N0 B rnd a7 H L ops v2 kb nb (i + 1) D8) {t : Nat} {v11 : Int32} (ht : t ≤ 24) (hv : (v11 = 0 ∧ t = 0) ∨ (v11 = 1 ∧ 1 ≤ t)) : ∀ (z j D9 : Nat) (Y : XY) (q : Nat) (N : XN) (pl : Nat → Nat) (T : Nat → Nat) (kk nn : Nat), j + z = t → z < D9 → LPQ Y0 N0 Y q N B rnd a7 pl H L R T ops (sTicks ops j d) d m k p hd a10 → NU R d m k i kb nb kk nn (224 * j) (832 * j) → f_L_law_844 G K4 (f_L_law_190 G K4 D8) D9 Y q v2 B rnd (pl 0) a7 (nI m) (nI i) a10 v11 (nI t) (nI (sCount d (nI 2))) (nI j) kk nn N := by
  intro z
  induction z with
  | zero =>
    intro j D9 Y q N pl T kk nn hj hD h hu
    obtain ⟨D8', rfl⟩ : ∃ z, D9 = z + 1 := ⟨D9 - 1, by omega⟩
    have ejt : j = t := by omega
    subst ejt
    have hu' := hu
    obtain ⟨u1, u2, u3, u4, u5, u6, u7, u8⟩ := hu'
    have hD := h.2.2.1.1
    obtain ⟨o1, o2⟩ := hu.ok ⟨by omega, by omega⟩
    have b1 : kk + 1 ≤ 600086 ∧ nn + 6 ≤ 7301442 := ⟨by omega, by omega⟩
    obtain ⟨⟨c1, c2, c3, c4⟩, -⟩ := h.2.1.y9
    have cc : nI j ≤ nI j := Int32.le_refl _
    rw [f_L_law_844, if_pos cc]
    refine lt_i (ckP_i c1 (ck9P_i c4 kc_y9n (ckP_i b1 ?_)))
    rcases hv with ⟨rfl, rfl⟩ | ⟨rfl, h1⟩
    · refine bd2P_i (L_pass0 (Y := y9 Y) (B := B) (N := N)) ?_
      rw [if_pos rfl]
      exact ckP_i rfl (law_nn IH h hu ⟨by omega, by omega⟩)
    · obtain ⟨N', e1, e2, e3, e4⟩ := L_pass c2 h.2.2.1 (t := j) ⟨h1, by omega⟩ (by omega)
      have tk := sTicks_keep (ops := ops) j d hD (by omega)
      have q2 := (h.2.1.y9.fb e3 e4).2.2.2.2.1.1
      have qc := Q_count q2 (s := nI 2)
      refine bd2P_i e1 ?_
      rw [if_neg i10]
      refine ckP_i q2.y.k0 (bd2P_i qc (ckP_i rfl ?_))
      exact law_cc IH h hu ⟨by omega, by omega⟩ (by omega) (by omega) e2 e3 e4
  | succ z ih =>
    intro j D9 Y q N pl T kk nn hj hD h hu
    obtain ⟨D8', rfl⟩ : ∃ z, D9 = z + 1 := ⟨D9 - 1, by omega⟩
    have hu' := hu
    obtain ⟨u1, u2, u3, u4, u5, u6, u7, u8⟩ := hu'
    have hD := h.2.2.1.1
    have tk := sTicks_keep (ops := ops) j d hD (by omega)
    obtain ⟨Y', q', N', pl', T', a1, a2, a3, a4⟩ := K_tick (by omega) h.dk h.bk h.tm (by omega)
    have es : sTick ops (sTicks ops j d) = sTicks ops (j + 1) d := by
      have : ∀ (j : Nat) (d : XD), sTick ops (sTicks ops j d) = sTicks ops (j + 1) d := by
        intro j
        induction j with
        | zero => intro d; rfl
        | succ j ihj => intro d; rw [sTicks_1, ihj, ← sTicks_1]
      exact this j d
    rw [es] at a2 a3
    have b1 : kk + 224 ≤ 600086 ∧ nn + 832 ≤ 7301442 := ⟨bu 599862 (by omega) (by decide), bu 7300610 (by omega) (by decide)⟩
    have fin := ih (j + 1) D8' Y' q' N' pl' T' (kk + 224) (nn + 832) (by omega) (by omega) (h.go a4 a2 a3) ⟨u1, u2, u3, u4, u5, u6, by omega, by omega⟩
    rw [a4.p0] at fin
    have cc : ¬ nI t ≤ nI j := nI_ge (by omega) (by omega)
    rw [f_L_law_844, if_neg cc]
    refine ckP_i h.dk.y.k0 (ckP_i b1 (bd3P_i a1 ?_))
    rw [show nI j + 1 = nI (j + 1) from nI_add j 1]
    exact fin
theorem law_816 (IH : LI G K4 Y0 N0 B rnd a7 H L ops v2 kb nb (i + 1) D8) {n : Nat} {s : Int32} (h : LV Y0 N0 Y q N B rnd a7 pl H L R T ops d m k p hd a10 i kb nb kk nn) (es : s = nI n) (hn : 0 < n ∧ n ≤ 25) : f_L_law_816 G K4 (f_L_law_190 G K4 D8) Y q v2 B rnd (pl 0) a7 (nI m) (nI i) a10 s rnd kk nn N := by
  obtain ⟨t, N2, w1, e2, h2⟩ := h.below (n := n) hn.1 (by omega)
  have qc := Q_count h2.dq (s := nI 2)
  have hu := h2.nu
  unfold f_L_law_816
  rw [es]
  refine ckP_i h.kr (ckP_i h.bud (bd2P_i e2 ?_))
  by_cases c0 : t = 0
  · have c : nI t ≤ 0 := by rw [c0]; decide
    rw [if_pos c]
    refine ckP_i h2.dq.y.k0 (bd2P_i qc ?_)
    exact law_844 IH (t := t) (by omega) (Or.inl ⟨rfl, c0⟩) t 0 FU Y q N2 pl T kk nn (by omega) (by unfold FU; omega) h2.lp hu
  · have c : ¬ nI t ≤ 0 := (nI_ge (by omega) (by omega) : ¬ nI t ≤ nI 0)
    rw [if_neg c]
    refine ckP_i h2.dq.y.k0 (bd2P_i qc ?_)
    exact law_844 IH (t := t) (by omega) (Or.inr ⟨rfl, by omega⟩) t 0 FU Y q N2 pl T kk nn (by omega) (by unfold FU; omega) h2.lp hu
end LY
