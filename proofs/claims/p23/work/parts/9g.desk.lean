/-! THE DESK'S TICK -/
section TMS
variable {Y Y' : XY} {q q' : Nat} {N N' : XN} {pl pl' : Nat → Nat} {H L M R R' : Nat} {T T' : Nat → Nat} {ops : List Int32} {d : XD}
/-- the fine of a desk -/
def TM (Y : XY) (N : XN) (a0 : Nat) (ops : List Int32) : Prop := (gr Y a0 7 = none ∧ ops = []) ∨ ∃ a tx vl, gr Y a0 7 = some a ∧ ND 3 Y N a ops tx vl
theorem ow_kind (hY : DY Y pl H L M R T) {a : Nat} (h : ow pl H L M R a) : kc Y a = 18 ∨ kc Y a = 8 ∨ kc Y a = 1 := by
  obtain ⟨g, g1, -, g3⟩ := h
  rw [← g3, (hY.2.2 g g1).1]
  unfold kg
  (repeat' split) <;> omega
theorem MK.inn (hm : MK Y q) {a : Nat} (h : kc Y a ≠ 0) (h9 : kc Y a ≠ 9) : a < q := by
  rcases Nat.lt_trichotomy a q with e | e | e
  · exact e
  · rw [e] at h9; exact absurd hm.1 h9
  · exact absurd (hm.2 a e) h
theorem TM.go (h : TM Y N (pl 0) ops) (hm : MK Y q) (hY : DY Y pl H L L R T) (hg : GO Y q N pl H L R Y' q' N' pl' R') : TM Y' N' (pl' 0) ops := by
  rw [hg.p0]
  rcases h with ⟨h1, h2⟩ | ⟨a, tx, vl, h1, h2⟩
  · exact Or.inl ⟨hg.g7.trans h1, h2⟩
  · refine Or.inr ⟨a, tx, vl, hg.g7.trans h1, h2.keep 3 (fun b hb => ?_)⟩
    obtain ⟨e1, e2, e3⟩ := hg.2.2 b ⟨hm.inn (by omega) (by omega), fun ho => by
      rcases ow_kind hY ho with e | e | e <;> omega⟩
    exact ⟨e1.1.trans hb, e2, e3⟩
end TMS
theorem fine3 {Y : XY} {M : XN} (x : Int32) : ∃ w1 w2, f_J9_min_f86c9 Y 9999 x.toInt64 M = some (w1, M) ∧ f_J9_max_f86c9 Y 0 w1 M = some (w2, M) ∧ Int64.toInt32 w2 = fnV x.toInt :=
  ⟨_, _, rfl, rfl, congrArg Prod.fst (Option.some.inj (fine64 (Y := Y) (M := M) x))⟩
section DT
variable {H L R : Nat} {ops : List Int32} {l r i x : Nat}
theorem K_383 {Y : XY} {q : Nat} {N : XN} {pl : Nat → Nat} {T : Nat → Nat} {d : XD} (h : DK Y q N pl H L R T ops d) (hb : BK d) (hr : r < R) (hx : x < H) (ho : d (107 + 8 * r) = nI 1) (w : Int32) {k n : Nat} (hk : k + 3 ≤ 224 ∧ n + 12 ≤ 832) :
    ∃ Y' q' N' pl' T', (∀ K p1 v2 v3, f_X8_tick_383 K Y q (pl 0) p1 v2 v3 (pl (24 + r)) (nI x) w.toInt64 k n N = K Y' q' (pl 0) p1 v2 (v3 + nI 1) (k + 3) (n + 12) N') ∧ DK Y' q' N' pl' H L R T' ops (sProg (sMustPay d x (fnV w.toInt) 3 (50 + 7 * lR d r)) r) ∧ GO Y q N pl H L R Y' q' N' pl' R := by
  have hY := h.y
  have h6 := hY.H6
  have h60 := hY.R60
  have h3 := h.l3
  have hx' : x < nH d := by rw [h.s.1]; exact hx
  have hr' : r < nR d := by rw [h.s.2.2.1]; exact hr
  obtain ⟨hl, el⟩ := h.j.line hr'
  rw [h.s.2.1] at hl
  obtain ⟨w1, w2, f1, f2, f3⟩ := fine3 (Y := Y) (M := N) w
  obtain ⟨Y1, q1, N1, pl1, T1, a1, a2, a3⟩ := K_pays h hx (amt := fnV w.toInt)
  have hY1 := a2.y
  obtain ⟨z1, z2, z3, z4⟩ := sTake_kept h.j hx' (amt := fnV w.toInt)
  have tp : toP (50 + 7 * lR d r) := by unfold toP; omega
  have t15 := sTake_far h.j hx' (amt := fnV w.toInt) (j := 15 + 6 * x) (by omega)
  have t50 := sTake_far h.j hx' (amt := fnV w.toInt) (j := 50 + 7 * lR d r) (by omega)
  have t0 := sTake_far h.j hx' (amt := fnV w.toInt) (j := 0) (by omega)
  have em := sMustPay_take h.j (h := x) (acc := 3) (to := 50 + 7 * lR d r) (amt := fnV w.toInt) (Or.inl rfl) tp hx'
  rw [show 12 + 6 * x + 3 = 15 + 6 * x by omega] at em
  have D3 : DJ ops (upd (sTake d x (fnV w.toInt)) (12 + 6 * x + 3) (d (15 + 6 * x) + mn (fnV w.toInt) (d (12 + 6 * x)))) := DJ_F a2.j (fun j hj => by unfold FX at hj; exact upd_n (by omega))
  obtain ⟨b1, b2⟩ := a2.uh (i := x) (k := 3) (v := d (15 + 6 * x) + mn (fnV w.toInt) (d (12 + 6 * x))) hx (by omega) D3
  have D4 : DJ ops (upd (upd (sTake d x (fnV w.toInt)) (12 + 6 * x + 3) (d (15 + 6 * x) + mn (fnV w.toInt) (d (12 + 6 * x)))) (48 + 7 * lR d r + 2) (d (50 + 7 * lR d r) + mn (fnV w.toInt) (d (12 + 6 * x)))) := DJ_F D3 (fun j hj => by unfold FX at hj; exact upd_n (by omega))
  obtain ⟨c1, c2⟩ := b1.ul (l := lR d r) (k := 2) (v := d (50 + 7 * lR d r) + mn (fnV w.toInt) (d (12 + 6 * x))) hl (by omega) D4
  have e4 : upd (upd (sTake d x (fnV w.toInt)) (12 + 6 * x + 3) (d (15 + 6 * x) + mn (fnV w.toInt) (d (12 + 6 * x)))) (48 + 7 * lR d r + 2) (d (50 + 7 * lR d r) + mn (fnV w.toInt) (d (12 + 6 * x))) = sMustPay d x (fnV w.toInt) 3 (50 + 7 * lR d r) := by
    rw [em, show 12 + 6 * x + 3 = 15 + 6 * x by omega, show 48 + 7 * lR d r + 2 = 50 + 7 * lR d r by omega]
  rw [e4] at c1
  have m0 : sMustPay d x (fnV w.toInt) 3 (50 + 7 * lR d r) 0 = d 0 := (mustPay_kept h.j (Or.inl rfl) tp hx').2.2.2.1
  have D5 : DJ ops (upd (sMustPay d x (fnV w.toInt) 3 (50 + 7 * lR d r)) (104 + 8 * r + 7) (d 0)) := by
    have := c1.j.prog (r := r) (by rw [c1.s.2.2.1]; exact hr)
    unfold sProg at this
    rw [m0] at this
    rw [show 104 + 8 * r + 7 = 111 + 8 * r by omega]
    exact this
  obtain ⟨g1, g2⟩ := c1.ur (r := r) (k := 7) (v := d 0) hr (by omega) D5
  have ep : upd (sMustPay d x (fnV w.toInt) 3 (50 + 7 * lR d r)) (104 + 8 * r + 7) (d 0) = sProg (sMustPay d x (fnV w.toInt) 3 (50 + 7 * lR d r)) r := by
    unfold sProg
    rw [m0, show 104 + 8 * r + 7 = 111 + 8 * r by omega]
  rw [ep] at g1
  refine ⟨Y1, q1, _, pl1, T1, fun K p1 v2 v3 => ?_, g1, ((a3.trans b2).trans c2).trans g2⟩
  have hk0 : k ≤ 224 ∧ n ≤ 832 := ⟨by omega, by omega⟩
  have p0 : pl1 0 = pl 0 := a3.p0
  have pr : pl1 (24 + r) = pl (24 + r) := a3.pg (by unfold us; omega) (by omega)
  have q3 : gi N1 (pl1 (2 + x)) 3 = d (15 + 6 * x) := by
    have := a2.n.h3 hx
    exact this.trans t15
  have lr0 : gi (si N1 (pl1 (2 + x)) 3 (d (15 + 6 * x) + mn (fnV w.toInt) (d (12 + 6 * x)))) (pl1 (24 + r)) 0 = nI (lR d r) := by
    have := b1.n.r0 hr
    refine this.trans ?_
    rw [upd_n (by omega), z4, el]
  have q2 : gi (si N1 (pl1 (2 + x)) 3 (d (15 + 6 * x) + mn (fnV w.toInt) (d (12 + 6 * x)))) (pl1 (8 + lR d r)) 2 = d (50 + 7 * lR d r) := by
    have := b1.n.l2 hl
    refine this.trans ?_
    rw [upd_n (by omega), t50]
  have q0 : gi (si (si N1 (pl1 (2 + x)) 3 (d (15 + 6 * x) + mn (fnV w.toInt) (d (12 + 6 * x)))) (pl1 (8 + lR d r)) 2 (d (50 + 7 * lR d r) + mn (fnV w.toInt) (d (12 + 6 * x)))) (pl1 0) 0 = d 0 := c1.n.w0.trans m0
  have kk0 : kc Y (pl1 0) = 18 := by rw [p0]; exact h.y.k0
  have hY := hY1
  unfold f_X8_tick_383
  rw [← p0, ← pr]
  rw [← p0, ← f3] at a1
  simp (disch := omega) only [↓ck, ↓lt_eq, bd_some, bd2_some, ofN, nI_lit, nI_clamp, nI_add, xb_nI, hY.k0, hY.g2, hY.g3, hY.g4, hY.g5, hY.g6, hY.p2, hY.p3, hY.p4, hY.p5, hY.p6, hY.k1, hY.n1, hY.k84, hY.n84, hY.k85, hY.n85, hY.k86, hY.n86, hY.k87, hY.n87, hY.gh, hY.ph, hY.kh, hY.nh, hY.gl, hY.pl', hY.kl, hY.nl, hY.gt, hY.pt, hY.kt, hY.nt, hY.gr', hY.pr, hY.kr, hY.nr, ↓reduceIte, pLEt, pLEf, pLTt, pLTf, pEQf, pML, pMG, pMf, pMg, kk0, eq_true hk0, eq_true hk, ↓bd2_of f1, ↓bd2_of f2, ↓bd4_of a1, f3, q3, lr0, q2, q0]
theorem K_528 {Y : XY} {q : Nat} {N : XN} {pl : Nat → Nat} {T : Nat → Nat} {d : XD} {a0 j many : Nat} {s0 s1 : Int32} (h : DK Y q N pl H L R T ops d) (hx : x < H) (ha : a0 < q ∧ ¬ ow pl H L L R a0) (hv : kc Y a0 = 1 ∧ kn Y a0 = many ∧ gi N a0 j = nI x) (hj : j < many ∧ many ≤ 3) {k n : Nat} (hk : k + 3 ≤ 224 ∧ n + 12 ≤ 832) :
    ∃ Y' q' N' pl' T', (∀ K453 K487 v1, f_X8_tick_528 K453 K487 Y q (pl 0) v1 a0 (nI j) s0 s1 (nI x) (pl 0) k n N = K487 Y' q' (pl 0) v1 a0 (nI (j + 1)) (k + 3) (n + 12) N') ∧ DK Y' q' N' pl' H L R T' ops (sMustPay d x (s1 + s0) 4 4) ∧ GO Y q N pl H L R Y' q' N' pl' R := by
  have hY := h.y
  have h6 := hY.H6
  have h60 := hY.R60
  have hx' : x < nH d := by rw [h.s.1]; exact hx
  obtain ⟨Y1, q1, N1, pl1, T1, a1, a2, a3⟩ := K_pays h hx (amt := s1 + s0)
  have hY1 := a2.y
  obtain ⟨z1, z2, z3, z4⟩ := sTake_kept h.j hx' (amt := s1 + s0)
  have tp : toP 4 := Or.inl rfl
  have t16 := sTake_far h.j hx' (amt := s1 + s0) (j := 16 + 6 * x) (by omega)
  have t4 := sTake_far h.j hx' (amt := s1 + s0) (j := 4) (by omega)
  have em := sMustPay_take h.j (h := x) (acc := 4) (to := 4) (amt := s1 + s0) (Or.inr rfl) tp hx'
  rw [show 12 + 6 * x + 4 = 16 + 6 * x by omega] at em
  have D3 : DJ ops (upd (sTake d x (s1 + s0)) (12 + 6 * x + 4) (d (16 + 6 * x) + mn (s1 + s0) (d (12 + 6 * x)))) := DJ_F a2.j (fun j hj => by unfold FX at hj; exact upd_n (by omega))
  obtain ⟨b1, b2⟩ := a2.uh (i := x) (k := 4) (v := d (16 + 6 * x) + mn (s1 + s0) (d (12 + 6 * x))) hx (by omega) D3
  have D4 : DJ ops (upd (upd (sTake d x (s1 + s0)) (12 + 6 * x + 4) (d (16 + 6 * x) + mn (s1 + s0) (d (12 + 6 * x)))) 4 (d 4 + mn (s1 + s0) (d (12 + 6 * x)))) := DJ_F D3 (fun j hj => by unfold FX at hj; exact upd_n (by omega))
  obtain ⟨c1, c2⟩ := b1.u4 (v := d 4 + mn (s1 + s0) (d (12 + 6 * x))) D4
  have e4 : upd (upd (sTake d x (s1 + s0)) (12 + 6 * x + 4) (d (16 + 6 * x) + mn (s1 + s0) (d (12 + 6 * x)))) 4 (d 4 + mn (s1 + s0) (d (12 + 6 * x))) = sMustPay d x (s1 + s0) 4 4 := by
    rw [em, show 12 + 6 * x + 4 = 16 + 6 * x by omega]
  rw [e4] at c1
  refine ⟨Y1, q1, _, pl1, T1, fun K453 K487 v1 => ?_, c1, (a3.trans b2).trans c2⟩
  have p0 : pl1 0 = pl 0 := a3.p0
  obtain ⟨f1, f2, f3⟩ := a3.2.2 a0 ha
  have fk : kc Y1 a0 = 1 := f1.1.trans hv.1
  have fn : kn Y1 a0 = many := f1.2.trans hv.2.1
  have fv : gi N1 a0 j = nI x := (f3 j).trans hv.2.2
  have q3 : gi N1 (pl1 (2 + x)) 4 = d (16 + 6 * x) := (a2.n.h4 hx).trans t16
  have q4 : gi (si N1 (pl1 (2 + x)) 4 (d (16 + 6 * x) + mn (s1 + s0) (d (12 + 6 * x)))) (pl1 0) 1 = d 4 := by
    have := b1.n.w1
    refine this.trans ?_
    rw [upd_n (by omega), t4]
  have kk0 : kc Y (pl1 0) = 18 := by rw [p0]; exact h.y.k0
  have hY := hY1
  unfold f_X8_tick_528
  rw [← p0]
  rw [← p0] at a1
  simp (disch := omega) only [↓ck, ↓lt_eq, bd_some, bd2_some, ofN, nI_lit, nI_clamp, nI_add, xb_nI, hY.k0, hY.g2, hY.g3, hY.g4, hY.g5, hY.g6, hY.p2, hY.p3, hY.p4, hY.p5, hY.p6, hY.k1, hY.n1, hY.k84, hY.n84, hY.k85, hY.n85, hY.k86, hY.n86, hY.k87, hY.n87, hY.gh, hY.ph, hY.kh, hY.nh, hY.gl, hY.pl', hY.kl, hY.nl, hY.gt, hY.pt, hY.kt, hY.nt, hY.gr', hY.pr, hY.kr, hY.nr, ↓reduceIte, pLEt, pLEf, pLTt, pLTf, pEQf, pML, pMG, pMf, pMg, kk0, eq_true hk, ↓bd4_of a1, fk, fn, fv, q3, q4]
theorem K_487 {rent : Int32} {many a0 : Nat} {P : Nat → Int32} (hl : l < L) (hm3 : many ≤ 3) (hP : ∀ j, j < many → ∃ h, h < H ∧ P j = nI h) (hd : ∀ i j, i < j → j < many → P i ≠ P j) : ∀ (z j D9 k n : Nat) (Y : XY) (q : Nat) (N : XN) (pl : Nat → Nat) (T : Nat → Nat) (d : XD), j + z = many → z < D9 → DK Y q N pl H L R T ops d → BK d → d (48 + 7 * l) = rent → (a0 < q ∧ ¬ ow pl H L L R a0) → (kc Y a0 = 1 ∧ kn Y a0 = many ∧ ∀ i, i < many → gi N a0 i = P i) → (∀ i, j ≤ i → i < many → TN d l (P i)) → k + 3 * z ≤ 224 ∧ n + 12 * z ≤ 832 →
    ∃ Y' q' N' pl' T', (∀ K453, f_X8_tick_487 K453 D9 Y q (pl 0) (nI l) a0 (nI j) k n N = K453 Y' q' (pl 0) (nI (l + 1)) (k + 3 * z) (n + 12 * z) N') ∧ DK Y' q' N' pl' H L R T' ops (fo (sRentF rent l many P) j z d) ∧ BK (fo (sRentF rent l many P) j z d) ∧ GO Y q N pl H L R Y' q' N' pl' R := by
  intro z
  induction z with
  | zero =>
    intro j D9 k n Y q N pl T d hj hD9 h hb hr ha hv ht hk
    have hY := h.y
    have h3 := h.l3
    obtain ⟨D8, rfl⟩ : ∃ z, D9 = z + 1 := ⟨D9 - 1, by omega⟩
    obtain ⟨v1, v2, v3⟩ := hv
    refine ⟨Y, q, N, pl, T, fun K453 => ?_, h, hb, GO.rfl'⟩
    rw [f_X8_tick_487]
    simp (disch := omega) only [↓ck, ↓lt_eq, bd_some, bd2_some, ofN, nI_lit, nI_clamp, nI_add, xb_nI, hY.k0, hY.g2, hY.g3, hY.g4, hY.g5, hY.g6, hY.p2, hY.p3, hY.p4, hY.p5, hY.p6, hY.k1, hY.n1, hY.k84, hY.n84, hY.k85, hY.n85, hY.k86, hY.n86, hY.k87, hY.n87, hY.gh, hY.ph, hY.kh, hY.nh, hY.gl, hY.pl', hY.kl, hY.nl, hY.gt, hY.pt, hY.kt, hY.nt, hY.gr', hY.pr, hY.kr, hY.nr, ↓reduceIte, pLEt, pLEf, pLTt, pLTf, pEQf, pML, pMG, pMf, pMg, v1, v2, Nat.mul_zero, Nat.add_zero]
  | succ z ih =>
    intro j D9 k n Y q N pl T d hj hD9 h hb hr ha hv ht hk
    have hY := h.y
    have h3 := h.l3
    have h6 := hY.H6
    obtain ⟨D8, rfl⟩ : ∃ z, D9 = z + 1 := ⟨D9 - 1, by omega⟩
    obtain ⟨v1, v2, v3⟩ := hv
    obtain ⟨x, x1, x2⟩ := hP j (by omega)
    have hx' : x < nH d := by rw [h.s.1]; exact x1
    have hl' : l < nL d := by rw [h.s.2.1]; exact hl
    have r0 : gi N (pl (8 + l)) 0 = rent := (h.n.l0 hl).trans hr
    have aj : gi N a0 j = nI x := (v3 j (by omega)).trans x2
    have isS := TN_some (ht j (Nat.le_refl _) (by omega))
    have mi : (nI many = nI 0) = False := eq_false (fun q => by have := (nI_eq (by omega) (by omega)).mp q; omega)
    have es : ∀ s0 s1 : Int32, s1 + s0 = sShare rent many j → sRentF rent l many P j d = sMustPay d x (s1 + s0) 4 4 := fun s0 s1 e => by
      unfold sRentF
      rw [if_pos isS, e, x2, nI_clamp (by omega)]
    have tp : toP 4 := Or.inl rfl
    have step : ∀ s0 s1 : Int32, s1 + s0 = sShare rent many j → ∃ Y' q' N' pl' T', (∀ K453, f_X8_tick_528 K453 (f_X8_tick_487 K453 D8) Y q (pl 0) (nI l) a0 (nI j) s0 s1 (nI x) (pl 0) k n N = K453 Y' q' (pl 0) (nI (l + 1)) (k + 3 * (z + 1)) (n + 12 * (z + 1)) N') ∧ DK Y' q' N' pl' H L R T' ops (fo (sRentF rent l many P) j (z + 1) d) ∧ BK (fo (sRentF rent l many P) j (z + 1) d) ∧ GO Y q N pl H L R Y' q' N' pl' R := by
      intro s0 s1 e
      obtain ⟨Y1, q1, N1, pl1, T1, a1, a2, a3⟩ := K_528 (s0 := s0) (s1 := s1) (k := k) (n := n) h x1 ha ⟨v1, v2, aj⟩ ⟨by omega, hm3⟩ ⟨by omega, by omega⟩
      obtain ⟨m1, m2⟩ := hb.mustPay h.j (amt := s1 + s0) (Or.inr rfl) tp hx'
      have mk := mustPay_kept h.j (amount := s1 + s0) (Or.inr rfl) tp hx'
      obtain ⟨f1, f2, f3⟩ := a3.2.2 a0 ha
      obtain ⟨Y', q', N', pl', T', b1, b2, b3, b4⟩ := ih (j + 1) D8 (k + 3) (n + 12) Y1 q1 N1 pl1 T1 (sMustPay d x (s1 + s0) 4 4) (by omega) (by omega) a2 m1 ((mk.2.2.2.2.2.1 l (by omega)).trans hr) ⟨Nat.lt_of_lt_of_le ha.1 a3.le, fun ho => by
          rcases a3.2.1 a0 ho with e | e
          · exact ha.2 e
          · have := ha.1; omega⟩ ⟨f1.1.trans v1, f1.2.trans v2, fun i hi => (f3 i).trans (v3 i hi)⟩ (fun i h1 h2 => m2 l (P i) hl' (fun e => hd j i (by omega) h2 (by rw [x2, e])) (ht i (by omega) h2)) ⟨by omega, by omega⟩
      rw [a3.p0] at b1
      rw [fo, es s0 s1 e]
      refine ⟨Y', q', N', pl', T', fun K453 => ?_, b2, b3, a3.trans b4⟩
      rw [a1, b1, show k + 3 + 3 * z = k + 3 * (z + 1) by omega, show n + 12 + 12 * z = n + 12 * (z + 1) by omega]
    by_cases p : rent - rent / nI many * nI many ≤ nI j
    · obtain ⟨Y', q', N', pl', T', b1, b2, b3, b4⟩ := step (nI 0) (rent / nI many) (by unfold sShare; rw [if_pos p])
      refine ⟨Y', q', N', pl', T', fun K453 => ?_, b2, b3, b4⟩
      rw [f_X8_tick_487]
      simp (disch := omega) only [↓ck, ↓lt_eq, bd_some, bd2_some, ofN, nI_lit, nI_clamp, nI_add, xb_nI, hY.k0, hY.g2, hY.g3, hY.g4, hY.g5, hY.g6, hY.p2, hY.p3, hY.p4, hY.p5, hY.p6, hY.k1, hY.n1, hY.k84, hY.n84, hY.k85, hY.n85, hY.k86, hY.n86, hY.k87, hY.n87, hY.gh, hY.ph, hY.kh, hY.nh, hY.gl, hY.pl', hY.kl, hY.nl, hY.gt, hY.pt, hY.kt, hY.nt, hY.gr', hY.pr, hY.kr, hY.nr, ↓reduceIte, pLEt, pLEf, pLTt, pLTf, pEQf, pML, pMG, pMf, pMg, v1, v2, r0, aj, mi, not_false_eq_true, eq_true p]
      exact b1 K453
    · obtain ⟨Y', q', N', pl', T', b1, b2, b3, b4⟩ := step (nI 1) (rent / nI many) (by unfold sShare; rw [if_neg p])
      refine ⟨Y', q', N', pl', T', fun K453 => ?_, b2, b3, b4⟩
      rw [f_X8_tick_487]
      simp (disch := omega) only [↓ck, ↓lt_eq, bd_some, bd2_some, ofN, nI_lit, nI_clamp, nI_add, xb_nI, hY.k0, hY.g2, hY.g3, hY.g4, hY.g5, hY.g6, hY.p2, hY.p3, hY.p4, hY.p5, hY.p6, hY.k1, hY.n1, hY.k84, hY.n84, hY.k85, hY.n85, hY.k86, hY.n86, hY.k87, hY.n87, hY.gh, hY.ph, hY.kh, hY.nh, hY.gl, hY.pl', hY.kl, hY.nl, hY.gt, hY.pt, hY.kt, hY.nt, hY.gr', hY.pr, hY.kr, hY.nr, ↓reduceIte, pLEt, pLEf, pLTt, pLTf, pEQf, pML, pMG, pMf, pMg, v1, v2, r0, aj, mi, not_false_eq_true, eq_false p]
      exact b1 K453
/-- rent is due at the end of this tick -/
def duR (d : XD) : Prop := (d 0 + nI 1) - (d 0 + nI 1) / d 8 * d 8 = nI 0
theorem K_453 : ∀ (z l D9 k n : Nat) (Y : XY) (q : Nat) (N : XN) (pl : Nat → Nat) (T : Nat → Nat) (d : XD), l + z = L → z < D9 → DK Y q N pl H L R T ops d → BK d → tM d < 2000000 → k + 9 * z ≤ 224 ∧ n + 36 * z ≤ 832 →
    ∃ Y' q' N' pl' T', f_X8_tick_453 D9 Y q (pl 0) (nI l) k n N = some (Y', q', N') ∧ DK Y' q' N' pl' H L R T' ops (sT5 (@ite _ (duR d) (Classical.propDecidable _) (fo (fun l e => sRent e l) l z d) d)) ∧ BK (sT5 (@ite _ (duR d) (Classical.propDecidable _) (fo (fun l e => sRent e l) l z d) d)) ∧ GO Y q N pl H L R Y' q' N' pl' R := by
  intro z
  induction z with
  | zero =>
    intro l D9 k n Y q N pl T d hl hD9 h hb hT hk
    have hY := h.y
    have h3 := h.l3
    obtain ⟨D8, rfl⟩ : ∃ z, D9 = z + 1 := ⟨D9 - 1, by omega⟩
    have hk0 : k ≤ 224 ∧ n ≤ 832 := ⟨by omega, by omega⟩
    have e : (@ite _ (duR d) (Classical.propDecidable _) (fo (fun l e => sRent e l) l 0 d) d) = d := by
      split <;> rfl
    rw [e]
    obtain ⟨a1, a2⟩ := h.u0 (v := d 0 + nI 1) (t5_keep h.j hT).1
    have w0 : gi N (pl 0) 0 = d 0 := h.n.w0
    refine ⟨Y, q, _, pl, T, ?_, a1, hb.time h.j, a2⟩
    rw [f_X8_tick_453]
    simp (disch := omega) only [↓ck, ↓lt_eq, bd_some, bd2_some, ofN, nI_lit, nI_clamp, nI_add, xb_nI, hY.k0, hY.g2, hY.g3, hY.g4, hY.g5, hY.g6, hY.p2, hY.p3, hY.p4, hY.p5, hY.p6, hY.k1, hY.n1, hY.k84, hY.n84, hY.k85, hY.n85, hY.k86, hY.n86, hY.k87, hY.n87, hY.gh, hY.ph, hY.kh, hY.nh, hY.gl, hY.pl', hY.kl, hY.nl, hY.gt, hY.pt, hY.kt, hY.nt, hY.gr', hY.pr, hY.kr, hY.nr, ↓reduceIte, pLEt, pLEf, pLTt, pLTf, pEQf, pML, pMG, pMf, pMg, w0, eq_true hk0]
  | succ z ih =>
    intro l D9 k n Y q N pl T d hl hD9 h hb hT hk
    have hY := h.y
    have h3 := h.l3
    have h6 := hY.H6
    obtain ⟨D8, rfl⟩ : ∃ z, D9 = z + 1 := ⟨D9 - 1, by omega⟩
    have hk0 : k ≤ 224 ∧ n ≤ 832 := ⟨by omega, by omega⟩
    have hl9 : l < L := by omega
    have hl' : l < nL d := by rw [h.s.2.1]; exact hl9
    have w0 : gi N (pl 0) 0 = d 0 := h.n.w0
    have n3 : gi N (pl 1) 3 = d 8 := h.n.n3
    obtain ⟨p8, p1, p2, p3⟩ := h.j.P
    have z8 : (d 8 = nI 0) = False := eq_false (fun q => by rw [p3] at q; have := (nI_eq (by omega) (by omega)).mp q; omega)
    by_cases du : duR d
    · have du' : ((d 0 + nI 1) - (d 0 + nI 1) / d 8 * d 8 = nI 0) = True := eq_true du
      obtain ⟨t1, t2, t3, t4⟩ := h.j.ln l hl'
      have hTl : nT d l = T l := h.s.2.2.2 l hl9
      have a0 := us_lt h.m hY (g := 16 + l) (by unfold us; omega)
      obtain ⟨Y1, q1, N1, pl1, T1, a1, a2, a3, a4⟩ := K_487 (rent := d (48 + 7 * l)) (many := nT d l) (a0 := pl (16 + l)) (P := fun k => d (52 + 7 * l + k)) hl9 t2 (fun j hj => by rw [← h.s.1]; exact t3 j hj) t4 (nT d l) 0 FU k n Y q N pl T d (by omega) (by unfold FU; omega) h hb rfl ⟨a0, fun ⟨g, g1, g2, g3⟩ => g2 (by
          have := hY.P g (16 + l) g1 (by unfold us; omega) g3
          unfold fx; omega)⟩ ⟨hY.kt hl9, by rw [hTl]; exact hY.nt hl9, fun i hi => h.n.t hl9 (by rw [← hTl]; exact hi)⟩ (fun i _ hi => ⟨i, hi, rfl⟩) ⟨by omega, by omega⟩
      have kr := (h.j.rent hl').2
      have e1 : fo (sRentF (d (48 + 7 * l)) l (nT d l) fun k => d (52 + 7 * l + k)) 0 (nT d l) d = sRent d l := rfl
      rw [e1] at a2 a3
      have du2 : duR (sRent d l) := by
        unfold duR
        rw [kr.2.2.2.1, kr.2.2.2.2.1]; exact du
      obtain ⟨Y', q', N', pl', T', b1, b2, b3, b4⟩ := ih (l + 1) D8 (k + 3 * nT d l) (n + 12 * nT d l) Y1 q1 N1 pl1 T1 (sRent d l) (by omega) (by omega) a2 a3 (by rw [kr.T]; exact hT) ⟨by omega, by omega⟩
      rw [a4.p0] at b1
      rw [if_pos du2] at b2 b3
      rw [if_pos du, fo]
      refine ⟨Y', q', N', pl', T', ?_, b2, b3, a4.trans b4⟩
      rw [f_X8_tick_453]
      simp (disch := omega) only [↓ck, ↓lt_eq, bd_some, bd2_some, ofN, nI_lit, nI_clamp, nI_add, xb_nI, hY.k0, hY.g2, hY.g3, hY.g4, hY.g5, hY.g6, hY.p2, hY.p3, hY.p4, hY.p5, hY.p6, hY.k1, hY.n1, hY.k84, hY.n84, hY.k85, hY.n85, hY.k86, hY.n86, hY.k87, hY.n87, hY.gh, hY.ph, hY.kh, hY.nh, hY.gl, hY.pl', hY.kl, hY.nl, hY.gt, hY.pt, hY.kt, hY.nt, hY.gr', hY.pr, hY.kr, hY.nr, ↓reduceIte, pLEt, pLEf, pLTt, pLTf, pEQf, pML, pMG, pMf, pMg, w0, n3, z8, not_false_eq_true, du']
      rw [a1]
      exact b1
    · have du' : ((d 0 + nI 1) - (d 0 + nI 1) / d 8 * d 8 = nI 0) = False := eq_false du
      obtain ⟨a1, a2⟩ := h.u0 (v := d 0 + nI 1) (t5_keep h.j hT).1
      rw [if_neg du]
      refine ⟨Y, q, _, pl, T, ?_, a1, hb.time h.j, a2⟩
      rw [f_X8_tick_453]
      simp (disch := omega) only [↓ck, ↓lt_eq, bd_some, bd2_some, ofN, nI_lit, nI_clamp, nI_add, xb_nI, hY.k0, hY.g2, hY.g3, hY.g4, hY.g5, hY.g6, hY.p2, hY.p3, hY.p4, hY.p5, hY.p6, hY.k1, hY.n1, hY.k84, hY.n84, hY.k85, hY.n85, hY.k86, hY.n86, hY.k87, hY.n87, hY.gh, hY.ph, hY.kh, hY.nh, hY.gl, hY.pl', hY.kl, hY.nl, hY.gt, hY.pt, hY.kt, hY.nt, hY.gr', hY.pr, hY.kr, hY.nr, ↓reduceIte, pLEt, pLEf, pLTt, pLTf, pEQf, pML, pMG, pMf, pMg, w0, n3, z8, not_false_eq_true, du', eq_true hk0]
end DT
