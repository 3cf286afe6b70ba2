/-! PRUNED: of whole -/
theorem i32_self (a : Int32) : a - a = nI 0 := by
  have : a - a = 0 := by simp
  rw [this]; rfl
section CC1
variable {P : Nat → Int32} {Y : XY} {w : Nat} {N : XN} {c : Nat → Nat → Int32} {d : XD} {ops : List Int32}
theorem upd_comm {a b : Nat} {x y : Int32} (h : a ≠ b) : upd (upd d a x) b y = upd (upd d b y) a x := by
  funext j
  unfold upd
  (repeat' split) <;> first | rfl | (exfalso; omega)
theorem CR.open_one (hD : DJ ops d) (hC : CR P ops d c) {r : Nat} (hr : r < nR d) (ho : d (107 + 8 * r) = nI 0) : CR P ops (sOpened d r) (up2 (up2 c (30 + r) 3 (nI 1)) (30 + r) 5 (d (106 + 8 * r))) := by
  have h6 := hD.H6
  have h8 := hD.L8
  have h60 := hD.R60
  obtain ⟨hC1, hC2, hC3⟩ := hC
  have at1 : ∀ j, j ≠ 107 + 8 * r → j ≠ 109 + 8 * r → sOpened d r j = d j := fun j q1 q2 => by unfold sOpened; rw [upd_n q2, upd_n q1]
  refine ⟨((hC1.ur3 h6 h8 hr).ur5 h6 h8 hr).row (at1 1 (by omega) (by omega)) (at1 2 (by omega) (by omega)) (at1 3 (by omega) (by omega)) (fun l hl => at1 _ (by omega) (by omega)), (hC2.up (by omega) (by omega)).up (by omega) (by omega), fun i hi => ?_⟩
  have eH : nH (sOpened d r) = nH d := nH_same (at1 1 (by omega) (by omega))
  have := sHeld_one (d := d) (d' := sOpened d r) (h := nI i) (nR_same (at1 3 (by omega) (by omega))) hr (fun j hj => ⟨at1 _ (by omega) (by omega), at1 _ (by omega) (by omega)⟩)
  unfold sHolds sOpen at this
  rw [at1 (108 + 8 * r) (by omega) (by omega), (hD.comes hr ho).1, decide_eq_false (neg1_nI (n := i) (by omega)), Bool.and_false, Bool.and_false] at this
  rw [up2_n _ _ (by omega), up2_n _ _ (by omega), hC3 i (by omega)]
  congr 1
  simpa using this.symm
theorem C_openOrRefuse (hY : WY Y w) (hD : DJ ops d) (hC : CR P ops d c) {r : Nat} (hr : r < nR d) (ho : d (107 + 8 * r) = nI 0) : ∃ c', f_X6_openOrRefuse Y w (w + (30 + r)) (sw N w c) = some (sw N w c') ∧ CR P ops (sRaiseNow d r) c' := by
  have h6 := hD.H6
  have h8 := hD.L8
  have h60 := hD.R60
  obtain ⟨hl, el⟩ := hD.line hr
  obtain ⟨t1, t2, t3, -⟩ := hD.ln _ hl
  obtain ⟨z1, z2⟩ := hD.comes hr ho
  have hO := hD.opened hr ho
  have hCO := hC.open_one hD hr ho
  have hC' := hC
  obtain ⟨hC1, hC2, hC3⟩ := hC'
  have at1 : ∀ j, j ≠ 107 + 8 * r → j ≠ 109 + 8 * r → sOpened d r j = d j := fun j q1 q2 => by unfold sOpened; rw [upd_n q2, upd_n q1]
  have eR : nR (sOpened d r) = nR d := nR_same (at1 3 (by omega) (by omega))
  have rr := C_raised (N := N) hY hD hC1 (l := nI (lR d r))
  have hsl : f_X6_hasLine Y w (nI (lR d r)) (sw N w c) = nI 1 := hC1.hsL hD.L h8 hl
  unfold f_X6_openOrRefuse
  by_cases q : nI (sRaised d (nI (lR d r)) + 1) ≤ d (49 + 7 * lR d r)
  · obtain ⟨c', a1, a2⟩ := C_assign (N := N) hY hO hCO (r := r) (by rw [eR]; exact hr) (by unfold sOpened; rw [upd_n (by omega), upd_s]) (by
      intro k hk
      have e1 : lR (sOpened d r) r = lR d r := by unfold lR; rw [at1 _ (by omega) (by omega)]
      rw [e1] at hk ⊢
      have e2 : nT (sOpened d r) (lR d r) = nT d (lR d r) := nT_same (at1 _ (by omega) (by omega))
      rw [e2] at hk
      rw [at1 _ (by omega) (by omega), at1 _ (by omega) (by omega), z1]
      obtain ⟨t, q1, q2⟩ := t3 k hk
      rw [q2]
      exact nI_neg1 (by omega))
    refine ⟨c', ?_, ?_⟩
    · simp (disch := omega) only [↓lt_eq, bd, bd2, Option.bind_some, nI_lit, nI_clamp, nI_add, xb_nI, if_true, gi_sw, gi_sw0, si_sw, si_sw0, hY.g0, hY.g2, hY.g4, hY.g13, hY.g14, hY.f0, hY.f2, hY.h, hY.l, hY.t, hY.r, ↓reduceIte, pLEt, pLEf, pLTt, pLTf, pEQf, pML, pMG, pMf, pMg, hC1.r0, el, hsl, rr, hC1.l1, eq_true q, up2_n, hC1.r2, a1]
    · unfold sRaiseNow
      rw [el, if_pos q]
      exact a2
  · have er : sRaiseNow d r = upd (upd (upd (upd d (50 + 7 * lR d r) (d (50 + 7 * lR d r) - mn (d 7) (d (50 + 7 * lR d r)))) 4 (d 4 + mn (d 7) (d (50 + 7 * lR d r)))) (107 + 8 * r) (nI 3)) (110 + 8 * r) (d 0) := by
      unfold sRaiseNow
      rw [el, if_neg q]
    have hx := ((((hC1.ur3 h6 h8 hr (v := nI 3)).ur7 h6 h8 hr (v := d 0)).ul2 h6 h8 hl (v := d (50 + 7 * lR d r) - mn (d 7) (d (50 + 7 * lR d r)))).uw7 h6 h8 (v := d 4 + mn (d 7) (d (50 + 7 * lR d r))))
    have es : upd (upd (upd (upd d (107 + 8 * r) (nI 3)) (110 + 8 * r) (d 0)) (50 + 7 * lR d r) (d (50 + 7 * lR d r) - mn (d 7) (d (50 + 7 * lR d r)))) 4 (d 4 + mn (d 7) (d (50 + 7 * lR d r))) = sRaiseNow d r := by
      rw [er]
      funext j
      unfold upd
      (repeat' split) <;> first | rfl | (exfalso; omega)
    rw [es] at hx
    have at2 : ∀ j, j ≠ 50 + 7 * lR d r → j ≠ 4 → j ≠ 107 + 8 * r → j ≠ 110 + 8 * r → sRaiseNow d r j = d j := fun j q1 q2 q3 q4 => by rw [er, upd_n q4, upd_n q3, upd_n q2, upd_n q1]
    have pm := C_payAtMost (N := N) (c := up2 (up2 c (30 + r) 3 (nI 3)) (30 + r) 7 (d 0)) hY (l := lR d r) (a := d 7) (by omega)
    rw [up2_n _ _ (by omega), up2_n _ _ (by omega), hC1.l2 hl] at pm
    refine ⟨_, ?_, hx.row (at2 1 (by omega) (by omega) (by omega) (by omega)) (at2 2 (by omega) (by omega) (by omega) (by omega)) (at2 3 (by omega) (by omega) (by omega) (by omega)) (fun l hl => at2 _ (by omega) (by omega) (by omega) (by omega)), (((hC2.up (by omega) (by omega)).up (by omega) (by omega)).up (by omega) (by omega)).up (by omega) (by omega), fun i hi => ?_⟩
    · simp (disch := omega) only [↓lt_eq, bd, bd2, Option.bind_some, nI_lit, nI_clamp, nI_add, xb_nI, if_true, gi_sw, gi_sw0, si_sw, si_sw0, hY.g0, hY.g2, hY.g4, hY.g13, hY.g14, hY.f0, hY.f2, hY.h, hY.l, hY.t, hY.r, ↓reduceIte, pLEt, pLEf, pLTt, pLTf, pEQf, pML, pMG, pMf, pMg, hC1.r0, el, hsl, rr, hC1.l1, eq_false q, up2_n, hC1.w6, hC1.w10, hC1.w7, pm]
    · have eH : nH (sRaiseNow d r) = nH d := nH_same (at2 1 (by omega) (by omega) (by omega) (by omega))
      have := sHeld_one (d := d) (d' := sRaiseNow d r) (h := nI i) (nR_same (at2 3 (by omega) (by omega) (by omega) (by omega))) hr (fun j hj => ⟨at2 _ (by omega) (by omega) (by omega) (by omega), at2 _ (by omega) (by omega) (by omega) (by omega)⟩)
      unfold sHolds sOpen at this
      rw [at2 (108 + 8 * r) (by omega) (by omega) (by omega) (by omega), z1, decide_eq_false (neg1_nI (n := i) (by omega)), Bool.and_false, Bool.and_false] at this
      rw [up2_n _ _ (by omega), up2_n _ _ (by omega), up2_n _ _ (by omega), up2_n _ _ (by omega), hC3 i (by omega)]
      congr 1
      simpa using this.symm
theorem CR.leave (hY : WY Y w) (hD : DJ ops d) (hC : CR P ops d c) {l : Nat} (hl : l < nL d) (h : Int32) : ∃ c', f_X2_removeTenant Y (w + (14 + 2 * l)) h (sw N w c) = some (sw N w c') ∧ CR P ops (sLeave d h l) c' := by
  have h6 := hD.H6
  have h8 := hD.L8
  obtain ⟨hC1, hC2, hC3⟩ := hC
  have hn := hD.ln l hl
  obtain ⟨c', a1, a2, a3⟩ := C_removeTenant (N := N) (h := h) hY hC1 hl h6 h8 hn rfl
  have far := fun j hj => sLeave_far hn h (j := j) hj
  refine ⟨c', a1, ?_, hC2.same (fun k => a3 _ _ (by omega) (by omega)) (fun k => a3 _ _ (by omega) (by omega)) (fun k => a3 _ _ (by omega) (by omega)), fun i hi => ?_⟩
  · have e1 := far 1 (by omega)
    have e2 := far 2 (by omega)
    have e3 := far 3 (by omega)
    rw [nH_same e1, nL_same e2, nR_same e3]
    refine a2.less (Nat.le_refl _) (Nat.le_refl _) (Nat.le_refl _) (fun l' hl' => ?_)
    by_cases q : l' = l
    · rw [if_pos q, q]; exact Nat.le_refl _
    · rw [if_neg q, nT_same (far _ (by omega))]; exact Nat.le_refl _
  · have e1 := far 1 (by omega)
    rw [nH_same e1] at hi
    rw [a3 _ _ (by omega) (by omega), hC3 i hi]
    congr 1
    exact (sHeld_same (nR_same (far 3 (by omega))) (fun j hj => ⟨far _ (by omega), far _ (by omega)⟩)).symm
theorem C_bankrupt_R (hY : WY Y w) {h : Nat} {n : Nat} (hn : n ≤ 60) : ∀ (z i D9 : Nat) (e : XD) (c : Nat → Nat → Int32), DJ ops e → CR P ops e c → nR e = n → h < nH e → (∀ l k, l < nL e → k < nT e l → e (52 + 7 * l + k) ≠ nI h) → i + z = n → z < D9 → ∃ c', f_X6_goBankrupt_38 Y D9 w (nI h) (nI i) (sw N w c) = some (sw N w c') ∧ CR P ops (fo (fun r e => if sHolds e (nI h) r then sAssign e r else e) i z e) c' := by
  intro z
  induction z with
  | zero =>
    intro i D9 e c hE hC hR hh hg hi hD9
    obtain ⟨D8, rfl⟩ : ∃ z, D9 = z + 1 := ⟨D9 - 1, by omega⟩
    refine ⟨c, ?_, hC⟩
    rw [f_X6_goBankrupt_38]
    simp (disch := omega) only [↓lt_eq, bd, bd2, Option.bind_some, nI_lit, nI_clamp, nI_add, xb_nI, if_true, gi_sw, gi_sw0, si_sw, si_sw0, hY.g0, hY.g2, hY.g4, hY.g13, hY.g14, hY.f0, hY.f2, hY.h, hY.l, hY.t, hY.r, ↓reduceIte, pLEt, pLEf, pLTt, pLTf, pEQf, pML, pMG, pMf, pMg, hC.1.w5, hE.R]
  | succ z ih =>
    intro i D9 e c hE hC hR hh hg hi hD9
    obtain ⟨D8, rfl⟩ : ∃ z, D9 = z + 1 := ⟨D9 - 1, by omega⟩
    have h6 := hE.H6
    have h8 := hE.L8
    rw [f_X6_goBankrupt_38]
    unfold fo
    by_cases q1 : e (107 + 8 * i) = nI 1
    · by_cases q2 : e (108 + 8 * i) = nI h
      · have hs : sHolds e (nI h) i = true := by unfold sHolds sOpen; rw [decide_eq_true q1, decide_eq_true q2]; rfl
        obtain ⟨hl, el⟩ := hE.line (r := i) (by omega)
        obtain ⟨c1, b1, b2⟩ := C_assign (N := N) hY hE hC (r := i) (by omega) q1 (fun k hk => by rw [q2]; exact hg _ k hl hk)
        obtain ⟨s1, s2, s3⟩ := sAssign_at (d := e) i
        have eT : ∀ l, l < nL e → nT (sAssign e i) l = nT e l := fun l hl => nT_same (s3 _ (by omega) (by omega))
        have eL : nL (sAssign e i) = nL e := nL_same (s3 2 (by omega) (by omega))
        obtain ⟨c2, f1, f2⟩ := ih (i + 1) D8 (sAssign e i) c1 (hE.assign (by omega) q1).1 b2 ((nR_same (s3 3 (by omega) (by omega))).trans hR) (by rw [nH_same (s3 1 (by omega) (by omega))]; exact hh) (fun l k hl hk => by
          rw [eL] at hl
          rw [eT l hl] at hk
          have := (hE.ln l hl).2.1
          rw [s3 _ (by omega) (by omega)]
          exact hg l k hl hk) (by omega) (by omega)
        refine ⟨c2, ?_, ?_⟩
        · simp (disch := omega) only [↓lt_eq, bd, bd2, Option.bind_some, nI_lit, nI_clamp, nI_add, xb_nI, if_true, gi_sw, gi_sw0, si_sw, si_sw0, hY.g0, hY.g2, hY.g4, hY.g13, hY.g14, hY.f0, hY.f2, hY.h, hY.l, hY.t, hY.r, ↓reduceIte, pLEt, pLEf, pLTt, pLTf, pEQf, pML, pMG, pMf, pMg, hC.1.w5, hE.R, hC.1.r3, hC.1.r4, eq_true q1, eq_true q2, b1]
          exact f1
        · simp only [hs, if_true]
          exact f2
      · have hs : sHolds e (nI h) i = false := by unfold sHolds; rw [decide_eq_false q2, Bool.and_false]
        obtain ⟨c2, f1, f2⟩ := ih (i + 1) D8 e c hE hC hR hh hg (by omega) (by omega)
        refine ⟨c2, ?_, ?_⟩
        · simp (disch := omega) only [↓lt_eq, bd, bd2, Option.bind_some, nI_lit, nI_clamp, nI_add, xb_nI, if_true, gi_sw, gi_sw0, si_sw, si_sw0, hY.g0, hY.g2, hY.g4, hY.g13, hY.g14, hY.f0, hY.f2, hY.h, hY.l, hY.t, hY.r, ↓reduceIte, pLEt, pLEf, pLTt, pLTf, pEQf, pML, pMG, pMf, pMg, hC.1.w5, hE.R, hC.1.r3, hC.1.r4, eq_true q1, eq_false q2]
          exact f1
        · simp only [hs, Bool.false_eq_true, if_false]
          exact f2
    · have hs : sHolds e (nI h) i = false := by unfold sHolds sOpen; rw [decide_eq_false q1, Bool.false_and]
      obtain ⟨c2, f1, f2⟩ := ih (i + 1) D8 e c hE hC hR hh hg (by omega) (by omega)
      refine ⟨c2, ?_, ?_⟩
      · simp (disch := omega) only [↓lt_eq, bd, bd2, Option.bind_some, nI_lit, nI_clamp, nI_add, xb_nI, if_true, gi_sw, gi_sw0, si_sw, si_sw0, hY.g0, hY.g2, hY.g4, hY.g13, hY.g14, hY.f0, hY.f2, hY.h, hY.l, hY.t, hY.r, ↓reduceIte, pLEt, pLEf, pLTt, pLTf, pEQf, pML, pMG, pMf, pMg, hC.1.w5, hE.R, hC.1.r3, eq_false q1]
        exact f1
      · simp only [hs, Bool.false_eq_true, if_false]
        exact f2
theorem C_bankrupt_L (hY : WY Y w) {h : Nat} {n : Nat} (hn : n ≤ 8) : ∀ (z i D9 : Nat) (e : XD) (c : Nat → Nat → Int32), DJ ops e → CR P ops e c → nL e = n → h < nH e → (∀ l k, l < i → k < nT e l → e (52 + 7 * l + k) ≠ nI h) → i + z = n → z < D9 → ∃ c', f_X6_goBankrupt_12 Y D9 w (nI h) (nI i) (sw N w c) = some (sw N w c') ∧ CR P ops (sReAll (fo (fun l e => sLeave e (nI h) l) i z e) (nI h)) c' := by
  intro z
  induction z with
  | zero =>
    intro i D9 e c hE hC hL hh hg hi hD9
    obtain ⟨D8, rfl⟩ : ∃ z, D9 = z + 1 := ⟨D9 - 1, by omega⟩
    obtain ⟨c2, f1, f2⟩ := C_bankrupt_R (N := N) hY (h := h) hE.R60 (nR e) 0 FU e c hE hC rfl hh (fun l k hl hk => hg l k (by omega) hk) (Nat.zero_add _) (by have := hE.R60; unfold FU; omega)
    refine ⟨c2, ?_, f2⟩
    rw [f_X6_goBankrupt_12]
    simp (disch := omega) only [↓lt_eq, bd, bd2, Option.bind_some, nI_lit, nI_clamp, nI_add, xb_nI, if_true, gi_sw, gi_sw0, si_sw, si_sw0, hY.g0, hY.g2, hY.g4, hY.g13, hY.g14, hY.f0, hY.f2, hY.h, hY.l, hY.t, hY.r, ↓reduceIte, pLEt, pLEf, pLTt, pLTf, pEQf, pML, pMG, pMf, pMg, hC.1.w3, hE.L]
    exact f1
  | succ z ih =>
    intro i D9 e c hE hC hL hh hg hi hD9
    obtain ⟨D8, rfl⟩ : ∃ z, D9 = z + 1 := ⟨D9 - 1, by omega⟩
    have hn' := hE.ln i (by omega)
    have far := fun j hj => sLeave_far hn' (nI h) (j := j) hj
    obtain ⟨g1, g2, g3⟩ := sLeave_LN hn' (nI h)
    obtain ⟨c1, b1, b2⟩ := CR.leave (N := N) hY hE hC (l := i) (by omega) (nI h)
    obtain ⟨c2, f1, f2⟩ := ih (i + 1) D8 (sLeave e (nI h) i) c1 (hE.leave (by omega) (nI h)) b2 ((nL_same (far 2 (by omega))).trans hL) (by rw [nH_same (far 1 (by omega))]; exact hh) (fun l k hl hk => by
      by_cases q : l = i
      · subst q; exact g2 k hk
      · have et : nT (sLeave e (nI h) i) l = nT e l := nT_same (far _ (by omega))
        rw [et] at hk
        have := (hE.ln l (by omega)).2.1
        rw [far _ (by omega)]
        exact hg l k (by omega) hk) (by omega) (by omega)
    refine ⟨c2, ?_, f2⟩
    rw [f_X6_goBankrupt_12]
    simp (disch := omega) only [↓lt_eq, bd, bd2, Option.bind_some, nI_lit, nI_clamp, nI_add, xb_nI, if_true, gi_sw, gi_sw0, si_sw, si_sw0, hY.g0, hY.g2, hY.g4, hY.g13, hY.g14, hY.f0, hY.f2, hY.h, hY.l, hY.t, hY.r, ↓reduceIte, pLEt, pLEf, pLTt, pLTf, pEQf, pML, pMG, pMf, pMg, hC.1.w3, hE.L, b1]
    exact f1
/-- a handler goes bankrupt -/
def sBankrupt (d : XD) (h : Nat) : XD := sReAll (sLeaveAll (upd d (14 + 6 * h) (nI 1)) (nI h)) (nI h)
theorem CR.free_h (hD : DJ ops d) (hC : CR P ops d c) {i k j : Nat} {v : Int32} (hi : i < nH d) (hp : Hp k j) : CR P ops (upd d (j + 6 * i) v) (up2 c (8 + i) k v) := by
  have h6 := hD.H6
  have h8 := hD.L8
  have b := hp.b
  obtain ⟨hC1, hC2, hC3⟩ := hC
  refine ⟨(hC1.upH h6 h8 hi hp).row (upd_n (by omega)) (upd_n (by omega)) (upd_n (by omega)) (fun l hl => upd_n (by omega)), hC2.up (by omega) (by omega), fun x hx => ?_⟩
  have eH : nH (upd d (j + 6 * i) v) = nH d := nH_same (upd_n (by omega))
  rw [up2_n _ _ (by omega), hC3 x (by omega)]
  congr 1
  exact (sHeld_same (nR_same (upd_n (by omega))) (fun y hy => ⟨upd_n (by omega), upd_n (by omega)⟩)).symm
theorem CR.free_w (hD : DJ ops d) (hC : CR P ops d c) {k j : Nat} {v : Int32} (hp : Wp k j) (h1 : j ≠ 1) (h2 : j ≠ 2) (h3 : j ≠ 3) : CR P ops (upd d j v) (up2 c 0 k v) := by
  have h6 := hD.H6
  have h8 := hD.L8
  have b := hp.b
  obtain ⟨hC1, hC2, hC3⟩ := hC
  refine ⟨(hC1.upW h6 h8 hp).row (upd_n (by omega)) (upd_n (by omega)) (upd_n (by omega)) (fun l hl => upd_n (by omega)), hC2.up (by omega) (by omega), fun x hx => ?_⟩
  have eH : nH (upd d j v) = nH d := nH_same (upd_n (by omega))
  rw [up2_n _ _ (by omega), hC3 x (by omega)]
  congr 1
  exact (sHeld_same (nR_same (upd_n (by omega))) (fun y hy => ⟨upd_n (by omega), upd_n (by omega)⟩)).symm
theorem CR.free_l (hD : DJ ops d) (hC : CR P ops d c) {i : Nat} {v : Int32} (hi : i < nL d) : CR P ops (upd d (50 + 7 * i) v) (up2 c (14 + 2 * i) 2 v) := by
  have h6 := hD.H6
  have h8 := hD.L8
  obtain ⟨hC1, hC2, hC3⟩ := hC
  refine ⟨(hC1.ul2 h6 h8 hi).row (upd_n (by omega)) (upd_n (by omega)) (upd_n (by omega)) (fun l hl => upd_n (by omega)), hC2.up (by omega) (by omega), fun x hx => ?_⟩
  have eH : nH (upd d (50 + 7 * i) v) = nH d := nH_same (upd_n (by omega))
  rw [up2_n _ _ (by omega), hC3 x (by omega)]
  congr 1
  exact (sHeld_same (nR_same (upd_n (by omega))) (fun y hy => ⟨upd_n (by omega), upd_n (by omega)⟩)).symm
theorem CR.free_r (hD : DJ ops d) (hC : CR P ops d c) {r k j : Nat} {v : Int32} (hr : r < nR d) (hp : Rp k j) (h3 : j ≠ 107) (h4 : j ≠ 108) : CR P ops (upd d (j + 8 * r) v) (up2 c (30 + r) k v) := by
  have h6 := hD.H6
  have h8 := hD.L8
  have b := hp.b
  obtain ⟨hC1, hC2, hC3⟩ := hC
  refine ⟨(hC1.upR h6 h8 hr hp).row (upd_n (by omega)) (upd_n (by omega)) (upd_n (by omega)) (fun l hl => upd_n (by omega)), hC2.up (by omega) (by omega), fun x hx => ?_⟩
  have eH : nH (upd d (j + 8 * r) v) = nH d := nH_same (upd_n (by omega))
  rw [up2_n _ _ (by omega), hC3 x (by omega)]
  congr 1
  exact (sHeld_same (nR_same (upd_n (by omega))) (fun y hy => ⟨upd_n (by omega), upd_n (by omega)⟩)).symm
set_option maxRecDepth 100000 in
theorem C_goBankrupt (hY : WY Y w) (hD : DJ ops d) (hC : CR P ops d c) {h : Nat} (hh : h < nH d) : ∃ c', f_X6_goBankrupt Y w (nI h) (sw N w c) = some (sw N w c') ∧ CR P ops (sBankrupt d h) c' := by
  have h6 := hD.H6
  have hB := hD.broke hh
  have hCB := hC.free_h hD (k := 2) (j := 14) (v := nI 1) hh (by unfold Hp; decide)
  have eH : nH (upd d (14 + 6 * h) (nI 1)) = nH d := nH_same (upd_n (by omega))
  obtain ⟨c2, f1, f2⟩ := C_bankrupt_L (N := N) hY (h := h) hB.L8 (nL (upd d (14 + 6 * h) (nI 1))) 0 FU _ _ hB hCB rfl (by rw [eH]; exact hh) (fun l k hl _ => absurd hl (by omega)) (Nat.zero_add _) (by have := hB.L8; unfold FU; omega)
  refine ⟨c2, ?_, f2⟩
  unfold f_X6_goBankrupt
  simp (disch := omega) only [↓lt_eq, bd, bd2, Option.bind_some, nI_lit, nI_clamp, nI_add, xb_nI, if_true, gi_sw, gi_sw0, si_sw, si_sw0, hY.g0, hY.g2, hY.g4, hY.g13, hY.g14, hY.f0, hY.f2, hY.h, hY.l, hY.t, hY.r, ↓reduceIte, pLEt, pLEf, pLTt, pLTf, pEQf, pML, pMG, pMf, pMg]
  exact f1
/-- behind taking from a purse -/
def sTake (d : XD) (h : Nat) (amt : Int32) : XD := if mn amt (d (12 + 6 * h)) = amt then upd d (12 + 6 * h) (d (12 + 6 * h) - mn amt (d (12 + 6 * h))) else sBankrupt (upd d (12 + 6 * h) (d (12 + 6 * h) - mn amt (d (12 + 6 * h)))) h
theorem C_takeFrom (hY : WY Y w) (hD : DJ ops d) (hC : CR P ops d c) {h : Nat} {amt : Int32} (hh : h < nH d) : ∃ c', f_X6_takeFrom Y w (nI h) amt (sw N w c) = some (mn amt (d (12 + 6 * h)), sw N w c') ∧ CR P ops (sTake d h amt) c' := by
  have h6 := hD.H6
  have e0 := hC.1.h0 hh
  unfold f_X6_takeFrom sTake
  by_cases q : d (12 + 6 * h) < amt
  · have q2 : d (12 + 6 * h) ≤ amt := by rw [Int32.lt_iff_toInt_lt] at q; rw [Int32.le_iff_toInt_le]; omega
    have em : mn amt (d (12 + 6 * h)) = d (12 + 6 * h) := by unfold mn; rw [if_pos q2]
    have q3 : ¬ d (12 + 6 * h) = amt := fun z => by rw [z, Int32.lt_iff_toInt_lt] at q; omega
    rw [em, if_neg q3, i32_self]
    have hD1 : DJ ops (upd d (12 + 6 * h) (nI 0)) := DJ_F hD (fun j hj => by unfold FX at hj; exact upd_n (by omega))
    have hC1 := hC.free_h hD (k := 0) (j := 12) (v := nI 0) hh (by unfold Hp; decide)
    obtain ⟨c2, f1, f2⟩ := C_goBankrupt (N := N) hY hD1 hC1 (h := h) (by rw [nH_same (upd_n (by omega))]; exact hh)
    refine ⟨c2, ?_, f2⟩
    simp (disch := omega) only [↓lt_eq, bd, bd2, Option.bind_some, nI_lit, nI_clamp, nI_add, xb_nI, if_true, gi_sw, gi_sw0, si_sw, si_sw0, hY.g0, hY.g2, hY.g4, hY.g13, hY.g14, hY.f0, hY.f2, hY.h, hY.l, hY.t, hY.r, ↓reduceIte, pLEt, pLEf, pLTt, pLTf, pEQf, pML, pMG, pMf, pMg, e0, eq_true q, f1]
  · have em : mn amt (d (12 + 6 * h)) = amt := by
      unfold mn
      by_cases z : d (12 + 6 * h) ≤ amt
      · rw [if_pos z]
        refine Int32.le_antisymm z ?_
        rw [Int32.lt_iff_toInt_lt] at q
        rw [Int32.le_iff_toInt_le]
        omega
      · rw [if_neg z]
    rw [em, if_pos rfl]
    refine ⟨_, ?_, hC.free_h hD (k := 0) (j := 12) hh (by unfold Hp; decide)⟩
    simp (disch := omega) only [↓lt_eq, bd, bd2, Option.bind_some, nI_lit, nI_clamp, nI_add, xb_nI, if_true, gi_sw, gi_sw0, si_sw, si_sw0, hY.g0, hY.g2, hY.g4, hY.g13, hY.g14, hY.f0, hY.f2, hY.h, hY.l, hY.t, hY.r, ↓reduceIte, pLEt, pLEf, pLTt, pLTf, pEQf, pML, pMG, pMf, pMg, e0, eq_false q]
end CC1

