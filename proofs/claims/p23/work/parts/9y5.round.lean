/-! THE LAW'S HEAD: a round, to the loop of changes -/
section LR
variable {G : XG} {Y0 Y : XY} {N0 N : XN} {q v D8 kk nn : Nat}
/-- from the random desk on -/
theorem law_tail {Y : XY} {N : XN} {B q0 q : Nat} {pl T : Nat → Nat} {H L R p0 : Nat} {ops : List Int32} {e' d0 : XD} {hd0 : Nat → XD} (hk : kk ≤ 226000 ∧ nn ≤ 1010000) (HK : LK (f_L_law_4 G D8) Y0 N0 (nI v) (kk + 2442) (nn + 63583)) (h : RD9 (xS G) (xSv G) Y0 N0 B (B + 908) (B + 909) q0 d0 0 p0 hd0 Y q N pl H L R T ops e') (p00 : pl 0 = q0) (hR : R ≤ 9) :
    lt (y9 Y) fun Y105 =>
        ckWP Y105 <|
        ckP (kk + 1 + 907 + 1 + 1 + 1 + 5 + 560 + 1 + 1 + 1 + 1 + 1 + 400 + 560 ≤ 600086 ∧ nn + 10 + 16792 + 8 + 1 + 8 + 5 + 3360 + 6 + 6 + 6 + 6 + 6 + 40000 + 3360 ≤ 7301442) <|
        bd4P (f_L_agrees Y105 q B q0 N) fun r108 Y110 q111 N112 =>
        ckP (¬ (r108 = 0)) <|
        mkP Y110 fun q114 Y115 =>
        ckP (kc Y115 q114 = 9 ∧ kc Y115 (q114 + 1) = 0) <|
        ckP (kk + 1 + 907 + 1 + 1 + 1 + 5 + 560 + 1 + 1 + 1 + 1 + 1 + 400 + 560 + 1 ≤ 600086 ∧ nn + 10 + 16792 + 8 + 1 + 8 + 5 + 3360 + 6 + 6 + 6 + 6 + 6 + 40000 + 3360 + 9 ≤ 7301442) <|
        lt (yK Y115 q114 43 9) fun Y119 =>
        lt (n0 N112 q114) fun N120 =>
        lt (y9 Y119) fun Y122 =>
        f_L_law_190 G (f_L_law_4 G D8) FU Y122 (q114 + 1) (nI v) B (B + 909) q0 q114 0 0 (kk + 1 + 907 + 1 + 1 + 1 + 5 + 560 + 1 + 1 + 1 + 1 + 1 + 400 + 560 + 1) (nn + 10 + 16792 + 8 + 1 + 8 + 5 + 3360 + 6 + 6 + 6 + 6 + 6 + 40000 + 3360 + 9) N120 := by
  obtain ⟨⟨m1, m2⟩, ⟨dq, bkk, tm⟩, ou, hE, hI, t1, t0⟩ := h
  have hE9 := hE.y9
  obtain ⟨⟨c1, c2, c3, c4⟩, ⟨b1, b2, b3, b4⟩, ⟨r1, r2, r3⟩, -, -⟩ := id hE9
  have dq9 : DQ (y9 Y) N pl H L R T ops e' := dq.same (fun g hg => ⟨y9_in (by have := dq.kgs hg; omega), fun _ => rfl, fun _ => rfl⟩)
  have hx := A_agrees (q := q) ⟨c4, fun a => kc_y9n a⟩ c1 c2 hI dq9 (by omega)
  rw [p00] at hx
  refine lt_i (ckWP_i c4 (ckP_i ⟨Nat.le_trans (Nat.add_le_add_right (Nat.add_le_add_right (Nat.add_le_add_right (Nat.add_le_add_right (Nat.add_le_add_right (Nat.add_le_add_right (Nat.add_le_add_right (Nat.add_le_add_right (Nat.add_le_add_right (Nat.add_le_add_right (Nat.add_le_add_right (Nat.add_le_add_right (Nat.add_le_add_right (Nat.add_le_add_right (hk.1) 1) 907) 1) 1) 1) 5) 560) 1) 1) 1) 1) 1) 400) 560) (by decide), Nat.le_trans (Nat.add_le_add_right (Nat.add_le_add_right (Nat.add_le_add_right (Nat.add_le_add_right (Nat.add_le_add_right (Nat.add_le_add_right (Nat.add_le_add_right (Nat.add_le_add_right (Nat.add_le_add_right (Nat.add_le_add_right (Nat.add_le_add_right (Nat.add_le_add_right (Nat.add_le_add_right (Nat.add_le_add_right (hk.2) 10) 16792) 8) 1) 8) 5) 3360) 6) 6) 6) 6) 6) 40000) 3360) (by decide)⟩ (bd4P_i hx (ckP_i i10 ?_))))
  refine ⟨⟨B, Or.inl (vk_of (by omega)), by rw [c1]; rfl⟩, fun q1 g => ?_⟩
  have mM : MK (yM (y9 Y) q1) q1 := MK.yM
  have hEM := hE9.yM g
  have k0 : kc (y9 Y) q0 = 18 := by rw [← p00]; exact dq9.y.k0
  have l0 : q0 < q1 := g q0 (vk_of (by omega))
  have yk : ∀ c, c < q1 → kc (yK (yM (y9 Y) q1) q1 43 9) c = kc (yM (y9 Y) q1) c ∧ kn (yK (yM (y9 Y) q1) q1 43 9) c = kn (yM (y9 Y) q1) c := fun c hc => yK_ne (by omega) (by omega)
  have rf : RF (B + 909) q0 (yM (y9 Y) q1) N (yK (yM (y9 Y) q1) q1 43 9) (n0 N q1) := fun a ha => ⟨yk a (by omega), fun j => yK_gr (by omega) j, fun j _ => n0_ne (by omega) j⟩
  have hEZ := hEM.rf rf (fun w => w.nx mM (by omega))
  have dqZ : DQ (yK (yM (y9 Y) q1) q1 43 9) (n0 N q1) pl H L R T ops e' := dq9.same (fun g' hg => by
    have kk9 := dq9.kgs hg
    have lg := g (pl g') (vk_of (by omega))
    have e := yM_in (Y := y9 Y) (q := q1) g (b := pl g') (vk_of (by omega))
    have y := yk (pl g') lg
    exact ⟨⟨y.1.trans e.1, y.2.trans e.2⟩, fun j => yK_gr (by omega) j, fun j => n0_ne (by omega) j⟩)
  have tmZ : TM (yK (yM (y9 Y) q1) q1 43 9) (n0 N q1) (pl 0) ops := tm.vk9 (yK_gr (by omega) 7) (fun c hc => by
    have e9 := y9_in (Y := y9 Y) (b := c)
    have k9 : kc (y9 Y) c = 19 := (y9_in (by omega)).1.trans hc
    have lc := g c (vk_of (by omega))
    have e := yM_in (Y := y9 Y) (q := q1) g (b := c) (vk_of (by omega))
    exact ⟨(yk c lc).1.trans (e.1.trans k9), fun j => yK_gr (by omega) j, fun j => n0_ne (by omega) j⟩)
  obtain ⟨z1, ⟨z2, z3, z4, z5⟩, ⟨z6, z7, z8⟩, ⟨z9, -⟩, -⟩ := id hEZ
  have hIZ := hI.same (N' := n0 N q1) (fun a h1 h2 => funext (fun j => n0_ne (by omega) j))
  have hLE : LE Y0 N0 (yK (yM (y9 Y) q1) q1 43 9) (n0 N q1) B (B + 909) q1 pl H L R T ops e' 0 (min (0 + 1) 8) (nhd 0 hd0 d0) := ⟨z1, ⟨z6, z7⟩, ⟨kcq rfl, knq rfl, fun j b hb => by
    have : gr (yK (yM (y9 Y) q1) q1 43 9) q1 j = none := by
      unfold gr yK
      exact if_pos rfl
    rw [this] at hb
    exact absurd hb (by simp)⟩, (n0_ne (by omega) 1).trans t1, ⟨dqZ, bkk, tmZ⟩, fun g' hg => by have := ou g' hg; omega, z9, fun j hj => by omega⟩
  have te : tM e' = 0 := by
    unfold tM
    rw [t0]
    exact nI_clamp (by omega)
  have f := law_190 (G := G) (B := B) (rnd := B + 909) (a7 := q1) (H := H) (L := L) (ops := ops) HK ⟨by omega, by omega⟩ 35 0 FU (by omega) (by unfold FU; omega) (y9 (yK (yM (y9 Y) q1) q1 43 9)) (q1 + 1) (n0 N q1) pl R T e' 0 (min (0 + 1) 8) _ _ (kk + 2442) (nn + 63583) hLE.y9 hIZ (fun a => kc_y9n a) (by omega) (by omega) (by omega) rfl (by omega) (by omega)
  rw [p00] at f
  have ek : kk + 1 + 907 + 1 + 1 + 1 + 5 + 560 + 1 + 1 + 1 + 1 + 1 + 400 + 560 + 1 = kk + 2442 := by simp only [Nat.add_assoc, Nat.reduceAdd]
  have en : nn + 10 + 16792 + 8 + 1 + 8 + 5 + 3360 + 6 + 6 + 6 + 6 + 6 + 40000 + 3360 + 9 = nn + 63583 := by simp only [Nat.add_assoc, Nat.reduceAdd]
  refine ckP_i ⟨mM.1, mM.2 _ (Nat.lt_succ_self _)⟩ (ckP_i ⟨Nat.le_trans (Nat.add_le_add_right (Nat.add_le_add_right (Nat.add_le_add_right (Nat.add_le_add_right (Nat.add_le_add_right (Nat.add_le_add_right (Nat.add_le_add_right (Nat.add_le_add_right (Nat.add_le_add_right (Nat.add_le_add_right (Nat.add_le_add_right (Nat.add_le_add_right (Nat.add_le_add_right (Nat.add_le_add_right (Nat.add_le_add_right (hk.1) 1) 907) 1) 1) 1) 5) 560) 1) 1) 1) 1) 1) 400) 560) 1) (by decide), Nat.le_trans (Nat.add_le_add_right (Nat.add_le_add_right (Nat.add_le_add_right (Nat.add_le_add_right (Nat.add_le_add_right (Nat.add_le_add_right (Nat.add_le_add_right (Nat.add_le_add_right (Nat.add_le_add_right (Nat.add_le_add_right (Nat.add_le_add_right (Nat.add_le_add_right (Nat.add_le_add_right (Nat.add_le_add_right (Nat.add_le_add_right (hk.2) 10) 16792) 8) 1) 8) 5) 3360) 6) 6) 6) 6) 6) 40000) 3360) 9) (by decide)⟩ (lt_i (lt_i (lt_i ?_))))
  rw [ek, en]
  exact f
theorem law_round (hC : ∀ B, (∀ a, 40 ≤ kc Y0 a → kc Y0 a ≤ 42 → a < B) → CZ (xS G) (xSv G) Y0 N0 B) (hv : v < 2 ∧ v < xSl G) (hl : xSl G ≤ 260) (hk : kk ≤ 226000 ∧ nn ≤ 1010000) (HK : LK (f_L_law_4 G D8) Y0 N0 (nI v) (kk + 2442) (nn + 63583)) (hF : FR Y0 N0 Y N) (hw : ∃ a, (vk (kc Y a) ∨ kc Y a = 9) ∧ frz (kc Y a) = false) : f_L_law_4 G (D8 + 1) Y q (nI v) kk nn N := by
  have c1 : ¬ Int32.ofNat (xSl G) ≤ nI v := (nI_ge (by omega) (by omega) : ¬ nI (xSl G) ≤ nI v)
  have c2 : ¬ (2 : Int32) ≤ nI v := (nI_ge (by omega) (by omega) : ¬ nI 2 ≤ nI v)
  rw [f_L_law_4, if_neg c1, if_neg c2]
  refine ⟨hw, fun B g => ?_⟩
  obtain ⟨k1, k2, k3, k4, k5, e1, Y37, N39, e2, hE, dq, hI, t1, t2, t3⟩ := H_made (sd := xSx G (nI v).toNatClampNeg) hC hF g
  have hE9 := hE.y9
  obtain ⟨⟨c1, c2, c3, c4⟩, ⟨b1, b2, b3, b4⟩, ⟨r1, r2, r3⟩, ⟨f1, f2⟩, -⟩ := id hE9
  have h9 : ∀ a, kc (y9 Y37) a ≠ 9 := fun a => kc_y9n a
  have dq9 : DQ (y9 Y37) N39 (plU (B + 910)) 0 0 0 (fun _ => 0) [] eU := dq.same (fun g hg => ⟨y9_in (by have := dq.kgs hg; omega), fun _ => rfl, fun _ => rfl⟩)
  have hI0 := hI (fun _ => eU)
  have hx := A_agrees (q := B + 916) ⟨c4, h9⟩ c1 c2 hI0 dq9 (by omega)
  rw [show plU (B + 910) 0 = B + 910 from if_pos rfl] at hx
  obtain ⟨n1, n2, n3, n4⟩ := eU_n
  obtain ⟨N7, p1, p2, p3, p4⟩ := L_pass c2 hI0 (t := 7) ⟨by omega, by omega⟩ (by omega)
  obtain ⟨w1, w2, w3, w4, w5⟩ := sTicks_keep 7 eU hI0.1 (by omega)
  rw [sCount_0 (w4.trans n3), sCount_0 n3] at p1
  have p1' : f_L_pass (y9 Y37) B 7 N39 = some (0, N7) := p1
  obtain ⟨N9, ops9, u1, u2, u3, u4⟩ := L_undo c2 p2 (by decide)
  have en : nhd 0 (fun _ => eU) eU (min (0 + 1) 8 - 1) = eU := by
    unfold nhd
    rw [if_neg (by decide), if_pos (by decide)]
  rw [en] at u2
  have fb : FB B N39 N9 := p3.trans u3
  have t1' : gi N9 B 1 = nI 0 := u4.trans (p4.trans t1)
  have o0 : outR (0 : Int32) 0 := out_ge (n := 0) (m := 0) (by omega) (by omega)
  refine ckP_i k1 (ckP_i ⟨Nat.le_trans (Nat.add_le_add_right (hk.1) 1) (by decide), Nat.le_trans (Nat.add_le_add_right (hk.2) 10) (by decide)⟩ (lt_i (lt_i (ckP_i k2 (ckP_i ⟨Nat.le_trans (Nat.add_le_add_right (Nat.add_le_add_right (hk.1) 1) 907) (by decide), Nat.le_trans (Nat.add_le_add_right (Nat.add_le_add_right (hk.2) 10) 16792) (by decide)⟩ (lt_i (lt_i (ckP_i k3 (ckP_i ⟨Nat.le_trans (Nat.add_le_add_right (Nat.add_le_add_right (Nat.add_le_add_right (hk.1) 1) 907) 1) (by decide), Nat.le_trans (Nat.add_le_add_right (Nat.add_le_add_right (Nat.add_le_add_right (hk.2) 10) 16792) 8) (by decide)⟩ (lt_i (lt_i (ckP_i k4 (ckP_i ⟨Nat.le_trans (Nat.add_le_add_right (Nat.add_le_add_right (Nat.add_le_add_right (Nat.add_le_add_right (hk.1) 1) 907) 1) 1) (by decide), Nat.le_trans (Nat.add_le_add_right (Nat.add_le_add_right (Nat.add_le_add_right (Nat.add_le_add_right (hk.2) 10) 16792) 8) 1) (by decide)⟩ (lt_i (lt_i (ckP_i (xb_nI hv.2 (by omega)) (bdP_i e1 ?_)))))))))))))))))
  refine ckP_i k5 (ckP_i ⟨Nat.le_trans (Nat.add_le_add_right (Nat.add_le_add_right (Nat.add_le_add_right (Nat.add_le_add_right (Nat.add_le_add_right (hk.1) 1) 907) 1) 1) 1) (by decide), Nat.le_trans (Nat.add_le_add_right (Nat.add_le_add_right (Nat.add_le_add_right (Nat.add_le_add_right (Nat.add_le_add_right (hk.2) 10) 16792) 8) 1) 8) (by decide)⟩ (lt_i (lt_i (ckP_i ⟨Nat.le_trans (Nat.add_le_add_right (Nat.add_le_add_right (Nat.add_le_add_right (Nat.add_le_add_right (Nat.add_le_add_right (Nat.add_le_add_right (hk.1) 1) 907) 1) 1) 1) 5) (by decide), Nat.le_trans (Nat.add_le_add_right (Nat.add_le_add_right (Nat.add_le_add_right (Nat.add_le_add_right (Nat.add_le_add_right (Nat.add_le_add_right (hk.2) 10) 16792) 8) 1) 8) 5) (by decide)⟩ (bd3P_i e2 (lt_i (ckWP_i c4 (ckP_i ⟨Nat.le_trans (Nat.add_le_add_right (Nat.add_le_add_right (Nat.add_le_add_right (Nat.add_le_add_right (Nat.add_le_add_right (Nat.add_le_add_right (Nat.add_le_add_right (hk.1) 1) 907) 1) 1) 1) 5) 560) (by decide), Nat.le_trans (Nat.add_le_add_right (Nat.add_le_add_right (Nat.add_le_add_right (Nat.add_le_add_right (Nat.add_le_add_right (Nat.add_le_add_right (Nat.add_le_add_right (hk.2) 10) 16792) 8) 1) 8) 5) 3360) (by decide)⟩ (bd4P_i hx (ckP_i i10 ?_))))))))))
  refine ckP_i c1 (ckWP_i c4 (lt_i (ckP_i t2 (ckWP_i c4 (bd2P_i (L_undo0 hI0) (ckP_i (by decide) ?_))))))
  refine ck9P_i c4 h9 (ckP_i ⟨Nat.le_trans (Nat.add_le_add_right (Nat.add_le_add_right (Nat.add_le_add_right (Nat.add_le_add_right (Nat.add_le_add_right (Nat.add_le_add_right (Nat.add_le_add_right (Nat.add_le_add_right (hk.1) 1) 907) 1) 1) 1) 5) 560) 1) (by decide), Nat.le_trans (Nat.add_le_add_right (Nat.add_le_add_right (Nat.add_le_add_right (Nat.add_le_add_right (Nat.add_le_add_right (Nat.add_le_add_right (Nat.add_le_add_right (Nat.add_le_add_right (hk.2) 10) 16792) 8) 1) 8) 5) 3360) 6) (by decide)⟩ (bd2P_i L_pass0 (ckP_i rfl ?_)))
  refine ck9P_i c4 h9 (ckP_i ⟨Nat.le_trans (Nat.add_le_add_right (Nat.add_le_add_right (Nat.add_le_add_right (Nat.add_le_add_right (Nat.add_le_add_right (Nat.add_le_add_right (Nat.add_le_add_right (Nat.add_le_add_right (Nat.add_le_add_right (hk.1) 1) 907) 1) 1) 1) 5) 560) 1) 1) (by decide), Nat.le_trans (Nat.add_le_add_right (Nat.add_le_add_right (Nat.add_le_add_right (Nat.add_le_add_right (Nat.add_le_add_right (Nat.add_le_add_right (Nat.add_le_add_right (Nat.add_le_add_right (Nat.add_le_add_right (hk.2) 10) 16792) 8) 1) 8) 5) 3360) 6) 6) (by decide)⟩ (bd2P_i p1' (ckP_i rfl (ckWP_i c4 (bd2P_i u1 (ckP_i (by decide) ?_))))))
  refine ck9P_i c4 h9 (ckP_i ⟨Nat.le_trans (Nat.add_le_add_right (Nat.add_le_add_right (Nat.add_le_add_right (Nat.add_le_add_right (Nat.add_le_add_right (Nat.add_le_add_right (Nat.add_le_add_right (Nat.add_le_add_right (Nat.add_le_add_right (Nat.add_le_add_right (hk.1) 1) 907) 1) 1) 1) 5) 560) 1) 1) 1) (by decide), Nat.le_trans (Nat.add_le_add_right (Nat.add_le_add_right (Nat.add_le_add_right (Nat.add_le_add_right (Nat.add_le_add_right (Nat.add_le_add_right (Nat.add_le_add_right (Nat.add_le_add_right (Nat.add_le_add_right (Nat.add_le_add_right (hk.2) 10) 16792) 8) 1) 8) 5) 3360) 6) 6) 6) (by decide)⟩ (bd2P_i (L_raiseO c2 u2 (by rw [n2]; exact o0)) (ckP_i rfl ?_)))
  refine ck9P_i c4 h9 (ckP_i ⟨Nat.le_trans (Nat.add_le_add_right (Nat.add_le_add_right (Nat.add_le_add_right (Nat.add_le_add_right (Nat.add_le_add_right (Nat.add_le_add_right (Nat.add_le_add_right (Nat.add_le_add_right (Nat.add_le_add_right (Nat.add_le_add_right (Nat.add_le_add_right (hk.1) 1) 907) 1) 1) 1) 5) 560) 1) 1) 1) 1) (by decide), Nat.le_trans (Nat.add_le_add_right (Nat.add_le_add_right (Nat.add_le_add_right (Nat.add_le_add_right (Nat.add_le_add_right (Nat.add_le_add_right (Nat.add_le_add_right (Nat.add_le_add_right (Nat.add_le_add_right (Nat.add_le_add_right (Nat.add_le_add_right (hk.2) 10) 16792) 8) 1) 8) 5) 3360) 6) 6) 6) 6) (by decide)⟩ (bd2P_i (L_leaseO c2 u2 (Or.inl (by rw [n1]; exact o0))) (ckP_i rfl ?_)))
  refine ck9P_i c4 h9 (ckP_i ⟨Nat.le_trans (Nat.add_le_add_right (Nat.add_le_add_right (Nat.add_le_add_right (Nat.add_le_add_right (Nat.add_le_add_right (Nat.add_le_add_right (Nat.add_le_add_right (Nat.add_le_add_right (Nat.add_le_add_right (Nat.add_le_add_right (Nat.add_le_add_right (Nat.add_le_add_right (hk.1) 1) 907) 1) 1) 1) 5) 560) 1) 1) 1) 1) 1) (by decide), Nat.le_trans (Nat.add_le_add_right (Nat.add_le_add_right (Nat.add_le_add_right (Nat.add_le_add_right (Nat.add_le_add_right (Nat.add_le_add_right (Nat.add_le_add_right (Nat.add_le_add_right (Nat.add_le_add_right (Nat.add_le_add_right (Nat.add_le_add_right (Nat.add_le_add_right (hk.2) 10) 16792) 8) 1) 8) 5) 3360) 6) 6) 6) 6) 6) (by decide)⟩ (bd2P_i L_finesInX (ckP_i rfl ?_)))
  refine ⟨⟨B, Or.inl (vk_of (by omega)), by rw [c1]; rfl⟩, fun q1 g1 => ?_⟩
  have lr : B + 909 < q1 := g1 _ (vk_of (by omega))
  have hE1 := ((hE9.fb fb).yM g1).le (q1 := q1) (by omega)
  have b9 : ∀ j, gi N9 (B + 908) j = nI 0 := fun j => by
    have := t3 j
    unfold gi at this ⊢
    rw [fb (B + 908) (Or.inr (Nat.le_refl _))]
    exact this
  obtain ⟨Y', q', N', pl, H, L, R, T, ops, e', x1, x2, x3, x4⟩ := E_desk MK.yM hE1 (TXT.nil (b9 0) t1' (fun w _ => b9 _)) u2
  refine ckWP_i hE1.1.2.2.2 (ckP_i ⟨Nat.le_trans (Nat.add_le_add_right (Nat.add_le_add_right (Nat.add_le_add_right (Nat.add_le_add_right (Nat.add_le_add_right (Nat.add_le_add_right (Nat.add_le_add_right (Nat.add_le_add_right (Nat.add_le_add_right (Nat.add_le_add_right (Nat.add_le_add_right (Nat.add_le_add_right (Nat.add_le_add_right (hk.1) 1) 907) 1) 1) 1) 5) 560) 1) 1) 1) 1) 1) 400) (by decide), Nat.le_trans (Nat.add_le_add_right (Nat.add_le_add_right (Nat.add_le_add_right (Nat.add_le_add_right (Nat.add_le_add_right (Nat.add_le_add_right (Nat.add_le_add_right (Nat.add_le_add_right (Nat.add_le_add_right (Nat.add_le_add_right (Nat.add_le_add_right (Nat.add_le_add_right (Nat.add_le_add_right (hk.2) 10) 16792) 8) 1) 8) 5) 3360) 6) 6) 6) 6) 6) 40000) (by decide)⟩ (bd4P_i x1 ?_))
  exact law_tail hk HK x3 x2 x4
/-- all rounds -/
theorem law_4 (hC : ∀ B, (∀ a, 40 ≤ kc Y0 a → kc Y0 a ≤ 42 → a < B) → CZ (xS G) (xSv G) Y0 N0 B) (hl : xSl G ≤ 260) : ∀ (z v D9 : Nat) {Y : XY} {q : Nat} {N : XN} {k n : Nat}, v + z = 2 → z < D9 → k ≤ 226000 * v → n ≤ 1010000 * v → FR Y0 N0 Y N → (∃ a, (vk (kc Y a) ∨ kc Y a = 9) ∧ frz (kc Y a) = false) → f_L_law_4 G D9 Y q (nI v) k n N := by
  intro z
  induction z with
  | zero =>
    intro v D9 Y q N k n hv hD hk hn hF hw
    obtain ⟨D8, rfl⟩ : ∃ z, D9 = z + 1 := ⟨D9 - 1, by omega⟩
    obtain rfl : v = 2 := by omega
    have hb : k ≤ 600086 ∧ n ≤ 7301442 := ⟨by omega, by omega⟩
    rw [f_L_law_4]
    by_cases c : Int32.ofNat (xSl G) ≤ nI 2
    · rw [if_pos c]
      exact ⟨hb, trivial⟩
    · rw [if_neg c, if_pos (show (2 : Int32) ≤ nI 2 by decide)]
      exact ⟨hb, trivial⟩
  | succ z ih =>
    intro v D9 Y q N k n hv hD hk hn hF hw
    obtain ⟨D8, rfl⟩ : ∃ z, D9 = z + 1 := ⟨D9 - 1, by omega⟩
    by_cases c : Int32.ofNat (xSl G) ≤ nI v
    · have hb : k ≤ 600086 ∧ n ≤ 7301442 := ⟨by omega, by omega⟩
      rw [f_L_law_4, if_pos c]
      exact ⟨hb, trivial⟩
    · have hv2 : v < xSl G := by
        rcases Nat.lt_or_ge v (xSl G) with h | h
        · exact h
        · exact absurd (nI_le h (by omega) : nI (xSl G) ≤ nI v) c
      refine law_round hC ⟨by omega, hv2⟩ hl ⟨by omega, by omega⟩ (fun Y' q' N' k' n' h1 h2 h3 h4 => ?_) hF hw
      obtain ⟨a, a1, a2⟩ := h2
      have ev : nI v + 1 = nI (v + 1) := nI_add v 1
      rw [ev]
      exact ih (v + 1) D8 (by omega) (by omega) (by omega) (by omega) h1 ⟨a, Or.inl a1, a2⟩
theorem law_all (hC : ∀ B, (∀ a, 40 ≤ kc Y0 a → kc Y0 a ≤ 42 → a < B) → CZ (xS G) (xSv G) Y0 N0 B) (hl : xSl G ≤ 260) (hF : FR Y0 N0 Y N) (hw : ∃ a, (vk (kc Y a) ∨ kc Y a = 9) ∧ frz (kc Y a) = false) : f_L_law G Y q N := by
  unfold f_L_law
  exact law_4 hC hl 2 0 FU (by omega) (by unfold FU; omega) (by omega) (by omega) hF hw
end LR
