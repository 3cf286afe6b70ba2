/-! THE LAW'S LOOP: fund, lease, release, raise, pass -/
/-- the desk has moved to d', the class shows d yet -/
def LPQ (Y0 : XY) (N0 : XN) (Y : XY) (q : Nat) (N : XN) (B rnd a7 : Nat) (pl : Nat → Nat) (H L R : Nat) (T : Nat → Nat) (ops : List Int32) (d' d : XD) (m k p : Nat) (hd : Nat → XD) (a10 : Nat) : Prop := MK Y q ∧ LE Y0 N0 Y N B rnd a7 pl H L R T ops d' m k hd ∧ IK B N ops d k p hd ∧ FZ Y N B pl H L R ops a10 d
section LX
variable {G : XG} {K4 : XY → Nat → Int32 → Nat → Nat → XN → Prop} {Y0 Y Y' : XY} {N0 N N' : XN} {B rnd a7 H L R R' kb nb i D8 q q' kk nn m k p a10 : Nat} {ops : List Int32} {v2 : Int32} {pl pl' T T' : Nat → Nat} {d d' d1 : XD} {hd : Nat → XD}
theorem LV.lp (h : LV Y0 N0 Y q N B rnd a7 pl H L R T ops d m k p hd a10 i kb nb kk nn) : LPQ Y0 N0 Y q N B rnd a7 pl H L R T ops d d m k p hd a10 := ⟨h.1, h.2.1, h.2.2.1, h.2.2.2.1⟩
theorem LPQ.go (h : LPQ Y0 N0 Y q N B rnd a7 pl H L R T ops d1 d m k p hd a10) (hg : GO Y q N pl H L R Y' q' N' pl' R') (hk : DK Y' q' N' pl' H L R' T' ops d') (hb : BK d') : LPQ Y0 N0 Y' q' N' B rnd a7 pl' H L R' T' ops d' d m k p hd a10 := by
  obtain ⟨h1, h2, h3, h4⟩ := h
  refine ⟨hk.m, h2.go h1 hg hk.q hb, h3.same (fun a ha ha2 => ?_), h4.go h1 hg⟩
  obtain ⟨-, ⟨r1, r2⟩, -, -, ⟨u1, -, -⟩, v, -, -⟩ := h2
  have lr := h1.inn (a := rnd) (by omega) (by omega)
  exact funext (fun j => (hg.2.2 a ⟨by omega, fun z => by
    obtain ⟨g, g1, -, g3⟩ := z
    have := v g g1
    omega⟩).2.2 j)
theorem LPQ.dk (h : LPQ Y0 N0 Y q N B rnd a7 pl H L R T ops d' d m k p hd a10) : DK Y q N pl H L R T ops d' := ⟨h.1, h.2.1.2.2.2.2.1.1⟩
theorem LPQ.bk (h : LPQ Y0 N0 Y q N B rnd a7 pl H L R T ops d' d m k p hd a10) : BK d' := h.2.1.2.2.2.2.1.2.1
theorem LPQ.tm (h : LPQ Y0 N0 Y q N B rnd a7 pl H L R T ops d' d m k p hd a10) : TM Y N (pl 0) ops := h.2.1.2.2.2.2.1.2.2
/-- the numbers of a round -/
def NU (R : Nat) (d : XD) (m k i kb nb kk nn x y : Nat) : Prop := R ≤ 9 + i ∧ tM d ≤ 24 * i ∧ m ≤ i ∧ k = min (m + 1) 8 ∧ i < 35 ∧ (kb ≤ 370000 ∧ nb ≤ 6000000) ∧ kk ≤ kb + 6203 * i + 266 + x ∧ nn ≤ nb + 26000 * i + 2317 + y
theorem LV.nu (h : LV Y0 N0 Y q N B rnd a7 pl H L R T ops d m k p hd a10 i kb nb kk nn) : NU R d m k i kb nb kk nn 0 0 := h.2.2.2.2
/-- the class's call behind the desk's -/
theorem law_call {f : Option (Int32 × XN)} {r v : Int32} (h : LPQ Y0 N0 Y q N B rnd a7 pl H L R T ops d' d m k p hd a10) (hu : kk ≤ kb + 6203 * 34 + 266 + 5376 ∧ nn ≤ nb + 26000 * 34 + 2317 + 19968) (hkb : kb ≤ 370000 ∧ nb ≤ 6000000) {K : XN → Prop} (hf : f = some (r, N')) (hv : r = v) (hK : K N') : ckP (kc (y9 Y) B = 17) (ck9P (y9 Y) (ckP (kk + 1 ≤ 600086 ∧ nn + 6 ≤ 7301442) (bd2P f fun r N1 => ckP (r = v) (K N1)))) := by
  obtain ⟨⟨c1, c2, c3, c4⟩, -⟩ := h.2.1.y9
  have b1 : kk + 1 ≤ 600086 ∧ nn + 6 ≤ 7301442 := ⟨by omega, by omega⟩
  exact ckP_i c1 (ck9P_i c4 kc_y9n (ckP_i b1 (bd2P_i hf (ckP_i hv hK))))
theorem law_cc (IH : LI G K4 Y0 N0 B rnd a7 H L ops v2 kb nb (i + 1) D8) (h : LPQ Y0 N0 Y q N B rnd a7 pl H L R T ops d' d m k p hd a10) {x y : Nat} (hu : NU R' d m k i kb nb kk nn x y) (hx : x ≤ 5376 ∧ y ≤ 19968) (hR : R ≤ 10 + i) (hT : tM d' ≤ 24 * (i + 1)) (hI : IK B N' ops d' (min (k + 1) 8) ((p + 1) % 8) (nhd k hd d)) (hf : FB B N N') (h1 : gi N' B 1 = gi N B 1) : f_L_law_896 G K4 (f_L_law_190 G K4 D8) (y9 Y) q v2 B rnd (pl 0) a7 (nI m) (nI i) a10 1 (kk + 1) (nn + 6) N' := by
  obtain ⟨u1, u2, u3, u4, u5, u6, u7, u8⟩ := hu
  exact law_c IH (h.2.1.y9.fb hf h1) hI (h.2.2.2.y9.fb hf) kc_y9n hR hT u3 u4 u5 u6 (by omega) (by omega)
theorem law_nn (IH : LI G K4 Y0 N0 B rnd a7 H L ops v2 kb nb (i + 1) D8) (h : LPQ Y0 N0 Y q N B rnd a7 pl H L R T ops d d m k p hd a10) {x y : Nat} (hu : NU R d m k i kb nb kk nn x y) (hx : x ≤ 5376 ∧ y ≤ 19968) : f_L_law_896 G K4 (f_L_law_190 G K4 D8) (y9 Y) q v2 B rnd (pl 0) a7 (nI m) (nI i) a10 0 (kk + 1) (nn + 6) N := by
  obtain ⟨u1, u2, u3, u4, u5, u6, u7, u8⟩ := hu
  exact law_n IH h.2.1.y9 h.2.2.1 kc_y9n (by omega) (by omega) u3 u4 u5 u6 (by omega) (by omega)
theorem NU.ok {x y : Nat} (hu : NU R d m k i kb nb kk nn x y) (hx : x ≤ 5376 ∧ y ≤ 19968) : (kk ≤ kb + 6203 * 34 + 266 + 5376 ∧ nn ≤ nb + 26000 * 34 + 2317 + 19968) ∧ (kb ≤ 370000 ∧ nb ≤ 6000000) := by
  obtain ⟨u1, u2, u3, u4, u5, u6, u7, u8⟩ := hu
  exact ⟨⟨by omega, by omega⟩, u6⟩
/-! fund -/
theorem law_482c (IH : LI G K4 Y0 N0 B rnd a7 H L ops v2 kb nb (i + 1) D8) {x c : Nat} (h : LPQ Y0 N0 Y q N B rnd a7 pl H L R T ops (sFund d x (nI c)) d m k p hd a10) (hu : NU R d m k i kb nb kk nn 0 0) (hx : x < nH d) (hc : 1 ≤ c ∧ c ≤ 9999) : f_L_law_482 G K4 (f_L_law_190 G K4 D8) Y q v2 B rnd (pl 0) a7 (nI m) (nI i) a10 1 (d (12 + 6 * x) + nI c) (nI x) (nI c) kk nn N := by
  obtain ⟨N', e1, e2, e3, e4⟩ := L_fund h.2.1.y9.1.2.1 h.2.2.1 hx hc
  obtain ⟨o1, o2⟩ := hu.ok ⟨by omega, by omega⟩
  have hu' := hu
  obtain ⟨u1, u2, -⟩ := hu'
  unfold f_L_law_482
  exact lt_i (law_call h o1 o2 e1 rfl (law_cc IH h hu ⟨by omega, by omega⟩ (by omega) (by rw [(h.2.2.1.1.fund hx).2]; omega) e2 e3 e4))
theorem law_482n (IH : LI G K4 Y0 N0 B rnd a7 H L ops v2 kb nb (i + 1) D8) {x y v : Int32} (h : LPQ Y0 N0 Y q N B rnd a7 pl H L R T ops d d m k p hd a10) (hu : NU R d m k i kb nb kk nn 0 0) (e1 : f_L_fund (y9 Y) B x y N = some (v, N)) : f_L_law_482 G K4 (f_L_law_190 G K4 D8) Y q v2 B rnd (pl 0) a7 (nI m) (nI i) a10 0 v x y kk nn N := by
  obtain ⟨o1, o2⟩ := hu.ok ⟨by omega, by omega⟩
  unfold f_L_law_482
  exact lt_i (law_call h o1 o2 e1 rfl (law_nn IH h hu ⟨by omega, by omega⟩))
theorem K_fundD {x : Nat} {v : Int32} (h : DK Y q N pl H L R T ops d) (hb : BK d) (hx : x < H) : DK Y q (si (si N (pl (2 + x)) 0 (d (12 + 6 * x) + v)) (pl (2 + x)) 2 (nI 0)) pl H L R T ops (sFund d x v) ∧ BK (sFund d x v) ∧ GO Y q N pl H L R Y q (si (si N (pl (2 + x)) 0 (d (12 + 6 * x) + v)) (pl (2 + x)) 2 (nI 0)) pl R := by
  have h6 := h.j.H6
  have h4 := h.h4
  have hx' : x < nH d := by rw [h.s.1]; exact hx
  have hD1 : DJ ops (upd d (12 + 6 * x + 0) (d (12 + 6 * x) + v)) := DJ_F h.j (fun y hy => by unfold FX at hy; exact upd_n (by omega))
  obtain ⟨a1, a2⟩ := h.uh (i := x) (k := 0) hx (by omega) hD1
  have e : upd (upd d (12 + 6 * x + 0) (d (12 + 6 * x) + v)) (12 + 6 * x + 2) (nI 0) = sFund d x v := by
    unfold sFund
    rw [show 12 + 6 * x + 2 = 14 + 6 * x by omega]
    rfl
  obtain ⟨b1, b2⟩ := a1.uh (i := x) (k := 2) (v := nI 0) hx (by omega) (by rw [e]; exact (h.j.fund hx').1)
  rw [e] at b1
  refine ⟨b1, ?_, a2.trans b2⟩
  have far : ∀ j, j ≠ 12 + 6 * x → j ≠ 14 + 6 * x → sFund d x v j = d j := fun j h1 h2 => by unfold sFund; rw [upd_n h2, upd_n h1]
  refine hb.same h6 (far 1 (by omega) (by omega)) (far 2 (by omega) (by omega)) (far 3 (by omega) (by omega)) (fun j hj => ?_) h.j.t3 (fun l j hl hj => far _ (by omega) (by omega)) (fun r hr => Or.inl ⟨far _ (by omega) (by omega), far _ (by omega) (by omega)⟩)
  by_cases e2 : j = x
  · subst e2
    refine Or.inr ?_
    unfold sFund
    exact upd_s _ _ _
  · exact Or.inl (far _ (by omega) (by omega))
theorem law_439 (IH : LI G K4 Y0 N0 B rnd a7 H L ops v2 kb nb (i + 1) D8) {x c : Nat} {v12 : Int32} (h : LPQ Y0 N0 Y q N B rnd a7 pl H L R T ops d d m k p hd a10) (hu : NU R d m k i kb nb kk nn 0 0) (hx : x < H) (hc : 1 ≤ c ∧ c ≤ 9999) : f_L_law_439 G K4 (f_L_law_190 G K4 D8) Y q v2 B rnd (pl 0) a7 (nI m) (nI i) a10 1 v12 (nI x) (nI c) kk nn N := by
  have hk := h.dk
  have hY := hk.y
  have h6 := hY.H6
  obtain ⟨f1, f2, f3⟩ := K_fundD (v := nI c) hk h.bk hx
  have r0 : gi N (pl (2 + x)) 0 = d (12 + 6 * x) := hk.n.h0 hx
  have p3 : gp Y (pl 0) 3 = pl 84 := hY.p3
  have px : gp Y (pl 84) (nI x).toNatClampNeg = pl (2 + x) := by rw [nI_clamp (by omega)]; exact hY.ph hx
  have gx : gr Y (pl 84) (nI x).toNatClampNeg = some (pl (2 + x)) := by rw [nI_clamp (by omega)]; exact hY.gh hx
  have x1 : xb (nI x) (kn Y (pl 84)) = true := by rw [hY.n84]; exact xb_nI hx (by omega)
  have x2 : xb 0 (kn Y (pl (2 + x))) = true := by rw [hY.nh hx]; decide
  have x3 : xb 2 (kn Y (pl (2 + x))) = true := by rw [hY.nh hx]; decide
  have g9 : gi (si (si N (pl (2 + x)) 0 (d (12 + 6 * x) + nI c)) (pl (2 + x)) 2 (nI 0)) (pl (2 + x)) 0 = d (12 + 6 * x) + nI c := by rw [gi_si_n (Or.inr (by omega)), gi_si]
  unfold f_L_law_439
  rw [if_neg (by decide)]
  refine ckP_i hY.k0 (ckP_i (by rw [p3]; exact hY.g3) (lt_i ?_))
  rw [p3]
  refine ckP_i hY.k84 (ckP_i x1 (ckP_i (by rw [px]; exact gx) (lt_i ?_)))
  rw [px]
  refine ckP_i (hY.kh hx) (ckP_i x2 (ckP_i x2 (lt_i (ckP_i x1 (ckP_i x3 (lt_i (ckP_i x1 (ckP_i x2 ?_))))))))
  rw [r0]
  have e0 : (0 : Int32) = nI 0 := rfl
  rw [e0, g9]
  exact law_482c IH (h.go f3 f1 f2) hu (by rw [hk.s.1]; exact hx) hc
/-! lease and release -/
theorem law_524c (IH : LI G K4 Y0 N0 B rnd a7 H L ops v2 kb nb (i + 1) D8) {x l : Nat} (h : LPQ Y0 N0 Y q N B rnd a7 pl H L R T ops d' d m k p hd a10) (hu : NU R d m k i kb nb kk nn 1 4) (hx : x < nH d) (hl : l < nL d) (hd' : d' = (if sMay d x l = true then (sLease d x l).2 else d)) (hT : tM d' = tM d) : f_L_law_524 G K4 (f_L_law_190 G K4 D8) Y q v2 B rnd (pl 0) a7 (nI m) (nI i) a10 1 (if sMay d x l = true then nI (sLease d x l).1 else -nI 1) (nI x) (nI l) kk nn N := by
  obtain ⟨N', e1, e2, e3, e4⟩ := L_lease h.2.1.y9.1.2.1 h.2.2.1 hx hl
  obtain ⟨o1, o2⟩ := hu.ok ⟨by omega, by omega⟩
  have hu' := hu
  obtain ⟨u1, u2, u3, u4, u5, -⟩ := hu'
  unfold f_L_law_524
  exact lt_i (law_call h o1 o2 e1 rfl (law_cc IH h hu ⟨by omega, by omega⟩ (by omega) (by omega) (e2 d' hd' h.dk.j (by omega)) e3 e4))
theorem law_524n (IH : LI G K4 Y0 N0 B rnd a7 H L ops v2 kb nb (i + 1) D8) {x y v : Int32} (h : LPQ Y0 N0 Y q N B rnd a7 pl H L R T ops d d m k p hd a10) (hu : NU R d m k i kb nb kk nn 0 0) (e1 : f_L_lease (y9 Y) B x y N = some (v, N)) : f_L_law_524 G K4 (f_L_law_190 G K4 D8) Y q v2 B rnd (pl 0) a7 (nI m) (nI i) a10 0 v x y kk nn N := by
  obtain ⟨o1, o2⟩ := hu.ok ⟨by omega, by omega⟩
  unfold f_L_law_524
  exact lt_i (law_call h o1 o2 e1 rfl (law_nn IH h hu ⟨by omega, by omega⟩))
theorem law_566c (IH : LI G K4 Y0 N0 B rnd a7 H L ops v2 kb nb (i + 1) D8) {x l : Nat} (h : LPQ Y0 N0 Y q N B rnd a7 pl H L R T ops d' d m k p hd a10) (hu : NU R d m k i kb nb kk nn 1 4) (hx : x < nH d) (hl : l < nL d) (hd' : d' = (if (sTP d l (nI x)).isSome = true then (sRelease d x l).2 else d)) (hT : tM d' = tM d) : f_L_law_566 G K4 (f_L_law_190 G K4 D8) Y q v2 B rnd (pl 0) a7 (nI m) (nI i) a10 1 (if (sTP d l (nI x)).isSome = true then nI (sRelease d x l).1 else -nI 1) (nI x) (nI l) kk nn N := by
  obtain ⟨N', e1, e2, e3, e4⟩ := L_release h.2.1.y9.1.2.1 h.2.2.1 hx hl
  obtain ⟨o1, o2⟩ := hu.ok ⟨by omega, by omega⟩
  have hu' := hu
  obtain ⟨u1, u2, u3, u4, u5, -⟩ := hu'
  unfold f_L_law_566
  exact lt_i (law_call h o1 o2 e1 rfl (law_cc IH h hu ⟨by omega, by omega⟩ (by omega) (by omega) (e2 d' hd' h.dk.j (by omega)) e3 e4))
theorem law_566n (IH : LI G K4 Y0 N0 B rnd a7 H L ops v2 kb nb (i + 1) D8) {x y v : Int32} (h : LPQ Y0 N0 Y q N B rnd a7 pl H L R T ops d d m k p hd a10) (hu : NU R d m k i kb nb kk nn 0 0) (e1 : f_L_release (y9 Y) B x y N = some (v, N)) : f_L_law_566 G K4 (f_L_law_190 G K4 D8) Y q v2 B rnd (pl 0) a7 (nI m) (nI i) a10 0 v x y kk nn N := by
  obtain ⟨o1, o2⟩ := hu.ok ⟨by omega, by omega⟩
  unfold f_L_law_566
  exact lt_i (law_call h o1 o2 e1 rfl (law_nn IH h hu ⟨by omega, by omega⟩))
/-- assignments keep the time -/
theorem those_T {l h : Int32} : ∀ (z i : Nat) (s : Nat × XD), i + z ≤ 60 → (fo (sThoseF l h) i z s).2 0 = s.2 0 := by
  intro z
  induction z with
  | zero => intro i s _; rfl
  | succ z ih =>
    intro i s hi
    rw [fo, ih (i + 1) _ (by omega)]
    unfold sThoseF
    split
    · exact (sAssign_at (d := s.2) i).2.2 0 (by omega) (by omega)
    · rfl
theorem lease_T {x l : Nat} (hD : DJ ops d) (hl : l < nL d) (hm : sMay d x l = true) : tM (sLease d x l).2 = tM d := by
  have h8 := hD.L8
  obtain ⟨-, -, h3⟩ := sMay_of hm
  obtain ⟨-, -, a3⟩ := sAddT_at (d := d) x l
  have e : nR (sAddT d x l) = nR d := nR_same (a3 3 (by omega) (by omega))
  have h60 := hD.R60
  refine tM_same ?_
  unfold sLease sThose
  rw [those_T _ _ _ (by omega)]
  exact a3 0 (by omega) (by omega)
theorem release_T {x l : Nat} (hD : DJ ops d) (hl : l < nL d) : tM (sRelease d x l).2 = tM d := by
  have hn := hD.ln l hl
  have e : nR (sLeave d (nI x) l) = nR d := nR_same (sLeave_far hn _ (by omega))
  have h60 := hD.R60
  refine tM_same ?_
  unfold sRelease sThose
  rw [those_T _ _ _ (by omega)]
  exact sLeave_far hn _ (by omega)
/-! raise -/
theorem law_777c (IH : LI G K4 Y0 N0 B rnd a7 H L ops v2 kb nb (i + 1) D8) {l w : Nat} (h : LPQ Y0 N0 Y q N B rnd a7 pl H L (R + 1) T ops (sRaise d l w) d m k p hd a10) (hu : NU R d m k i kb nb kk nn 2 72) (hl : l < nL d) (hw : 1 ≤ w ∧ w ≤ 99) (hn : nR d = R) : f_L_law_777 G K4 (f_L_law_190 G K4 D8) Y q v2 B rnd (pl 0) a7 (nI m) (nI i) a10 1 (nI R) (nI l) (nI w) kk nn N := by
  have hu' := hu
  obtain ⟨u1, u2, u3, u4, u5, -⟩ := hu'
  obtain ⟨N', e1, e2, e3, e4⟩ := L_raise h.2.1.y9.1.2.1 h.2.2.1 hl hw (by omega)
  rw [hn] at e1
  obtain ⟨o1, o2⟩ := hu.ok ⟨by omega, by omega⟩
  unfold f_L_law_777
  exact lt_i (law_call h o1 o2 e1 rfl (law_cc IH h hu ⟨by omega, by omega⟩ (by omega) (by rw [(h.2.2.1.1.raise hl hw.2 (by omega)).2.1]; omega) e2 e3 e4))
theorem law_777n (IH : LI G K4 Y0 N0 B rnd a7 H L ops v2 kb nb (i + 1) D8) {x y v : Int32} (h : LPQ Y0 N0 Y q N B rnd a7 pl H L R T ops d d m k p hd a10) (hu : NU R d m k i kb nb kk nn 0 0) (e1 : f_L_raise (y9 Y) B x y N = some (v, N)) : f_L_law_777 G K4 (f_L_law_190 G K4 D8) Y q v2 B rnd (pl 0) a7 (nI m) (nI i) a10 0 v x y kk nn N := by
  obtain ⟨o1, o2⟩ := hu.ok ⟨by omega, by omega⟩
  unfold f_L_law_777
  exact lt_i (law_call h o1 o2 e1 rfl (law_nn IH h hu ⟨by omega, by omega⟩))
end LX
