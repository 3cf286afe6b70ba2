/-! THE CLASS'S WORLD: raising, leaving, going bankrupt, paying -/
theorem i32_self (a : Int32) : a - a = nI 0 := by
  have : a - a = 0 := by simp
  rw [this]; rfl
section CC1
variable {Y : XY} {w : Nat} {N : XN} {c : Nat → Nat → Int32} {d : XD} {ops : List Int32}
theorem upd_comm {a b : Nat} {x y : Int32} (h : a ≠ b) : upd (upd d a x) b y = upd (upd d b y) a x := by
  funext j
  unfold upd
  (repeat' split) <;> first | rfl | (exfalso; omega)
theorem CR.open_one (hD : DJ ops d) (hC : CR ops d c) {r : Nat} (hr : r < nR d) (ho : d (107 + 8 * r) = nI 0) : CR ops (sOpened d r) (up2 (up2 c (30 + r) 3 (nI 1)) (30 + r) 5 (d (106 + 8 * r))) := by
  have h6 := hD.H6
  have h8 := hD.L8
  have h60 := hD.R60
  obtain ⟨hC1, hC2, hC3⟩ := hC
  have at1 : ∀ j, j ≠ 107 + 8 * r → j ≠ 109 + 8 * r → sOpened d r j = d j := fun j q1 q2 => by unfold sOpened; rw [upd_n q2, upd_n q1]
  refine ⟨((hC1.ur3 h6 h8 hr).ur5 h6 h8 hr).row (at1 1 (by omega) (by omega)) (at1 2 (by omega) (by omega)) (at1 3 (by omega) (by omega)) (fun l hl => at1 _ (by omega) (by omega)), (hC2.up (by omega) (by omega)).up (by omega) (by omega), fun i hi => ?_⟩
  have eH : nH (sOpened d r) = nH d := nH_same (at1 1 (by omega) (by omega))
  have := sHeld_one (d := d) (d' := sOpened d r) (h := nI i) (nR_same (at1 3 (by omega) (by omega))) hr (fun j hj => ⟨at1 _ (by omega) (by omega), at1 _ (by omega) (by omega)⟩)
  unfold sHolds sOpen at this
  rw [at1 (108 + 8 * r) (by omega) (by omega), (hD.comes hr ho).1, decide_eq_false (neg1_nI (n := i) (by omega)), Bool.and_false, Bool.and_false] at this
  rw [up2_n _ _ (by omega), up2_n _ _ (by omega), hC3 i (by omega)]
  congr 1
  simpa using this.symm
theorem C_openOrRefuse (hY : WY Y w) (hD : DJ ops d) (hC : CR ops d c) {r : Nat} (hr : r < nR d) (ho : d (107 + 8 * r) = nI 0) : ∃ c', f_X6_openOrRefuse Y w (w + (30 + r)) (sw N w c) = some (sw N w c') ∧ CR ops (sRaiseNow d r) c' := by
  have h6 := hD.H6
  have h8 := hD.L8
  have h60 := hD.R60
  obtain ⟨hl, el⟩ := hD.line hr
  obtain ⟨t1, t2, t3, -⟩ := hD.ln _ hl
  obtain ⟨z1, z2⟩ := hD.comes hr ho
  have hO := hD.opened hr ho
  have hCO := hC.open_one hD hr ho
  have hC' := hC
  obtain ⟨hC1, hC2, hC3⟩ := hC'
  have at1 : ∀ j, j ≠ 107 + 8 * r → j ≠ 109 + 8 * r → sOpened d r j = d j := fun j q1 q2 => by unfold sOpened; rw [upd_n q2, upd_n q1]
  have eR : nR (sOpened d r) = nR d := nR_same (at1 3 (by omega) (by omega))
  have rr := C_raised (N := N) hY hD hC1 (l := nI (lR d r))
  unfold f_X6_openOrRefuse sRaiseNow
  by_cases q : nI (sRaised d (nI (lR d r)) + 1) ≤ d (49 + 7 * lR d r)
  · obtain ⟨c', a1, a2⟩ := C_assign (N := N) hY hO hCO (r := r) (by rw [eR]; exact hr) (by unfold sOpened; rw [upd_n (by omega), upd_s]) (by
      intro k hk
      have e1 : lR (sOpened d r) r = lR d r := by unfold lR; rw [at1 _ (by omega) (by omega)]
      rw [e1] at hk ⊢
      have e2 : nT (sOpened d r) (lR d r) = nT d (lR d r) := nT_same (at1 _ (by omega) (by omega))
      rw [e2] at hk
      rw [at1 _ (by omega) (by omega), at1 _ (by omega) (by omega), z1]
      obtain ⟨t, q1, q2⟩ := t3 k hk
      rw [q2]
      exact nI_neg1 (by omega))
    refine ⟨c', ?_, ?_⟩
    · simp (disch := omega) only [↓lt_eq, bd, bd2, Option.bind_some, nI_lit, nI_clamp, nI_add, xb_nI, if_true, gi_sw, gi_sw0, si_sw, si_sw0, hY.g0, hY.g2, hY.g4, hY.g13, hY.g14, hY.f0, hY.f2, hY.h, hY.l, hY.t, hY.r, ↓reduceIte, pLEt, pLEf, pLTt, pLTf, pEQf, pML, pMG, pMf, pMg, hC1.r0, el, rr, hC1.l1, eq_true q, up2_n, hC1.r2, a1]
    · rw [el, if_pos q]
      exact a2
  · have hx := ((((hC1.ur3 h6 h8 hr (v := nI 3)).ur7 h6 h8 hr (v := d 0)).ul2 h6 h8 hl (v := d (50 + 7 * lR d r) - mn (d 7) (d (50 + 7 * lR d r)))).uw7 h6 h8 (v := d 4 + mn (d 7) (d (50 + 7 * lR d r))))
    have es : upd (upd (upd (upd d (107 + 8 * r) (nI 3)) (110 + 8 * r) (d 0)) (50 + 7 * lR d r) (d (50 + 7 * lR d r) - mn (d 7) (d (50 + 7 * lR d r)))) 4 (d 4 + mn (d 7) (d (50 + 7 * lR d r))) = upd (upd (upd (upd d (50 + 7 * lR d r) (d (50 + 7 * lR d r) - mn (d 7) (d (50 + 7 * lR d r)))) 4 (d 4 + mn (d 7) (d (50 + 7 * lR d r)))) (107 + 8 * r) (nI 3)) (110 + 8 * r) (d 0) := by
      funext j
      unfold upd
      (repeat' split) <;> first | rfl | (exfalso; omega)
    rw [es] at hx
    have pm := C_payAtMost (N := N) (c := up2 (up2 c (30 + r) 3 (nI 3)) (30 + r) 7 (d 0)) hY (l := lR d r) (a := d 7) (by omega)
    rw [up2_n _ _ (by omega), up2_n _ _ (by omega), hC1.l2 hl] at pm
    refine ⟨_, ?_, hx.row ?_ ?_ ?_ (fun l hl => ?_), (((hC2.up (by omega) (by omega)).up (by omega) (by omega)).up (by omega) (by omega)).up (by omega) (by omega), fun i hi => ?_⟩
    · simp (disch := omega) only [↓lt_eq, bd, bd2, Option.bind_some, nI_lit, nI_clamp, nI_add, xb_nI, if_true, gi_sw, gi_sw0, si_sw, si_sw0, hY.g0, hY.g2, hY.g4, hY.g13, hY.g14, hY.f0, hY.f2, hY.h, hY.l, hY.t, hY.r, ↓reduceIte, pLEt, pLEf, pLTt, pLTf, pEQf, pML, pMG, pMf, pMg, hC1.r0, el, rr, hC1.l1, eq_false q, up2_n, hC1.w6, hC1.w10, hC1.w7, pm]
      rfl
    · rw [el, if_neg q]; simp (disch := omega) only [upd_n]
    · rw [el, if_neg q]; simp (disch := omega) only [upd_n]
    · rw [el, if_neg q]; simp (disch := omega) only [upd_n]
    · rw [el, if_neg q]; simp (disch := omega) only [upd_n]
    · sorry
end CC1
