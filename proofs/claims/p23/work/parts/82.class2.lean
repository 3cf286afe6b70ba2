/-! PRUNED: of whole -/
section CM
variable {ops : List Int32} {d : XD}
theorem sTPF_cong {d' : XD} {l : Nat} {h : Int32} : ∀ {c k : Nat}, (∀ j, k ≤ j → j < k + c → d' (52 + 7 * l + j) = d (52 + 7 * l + j)) → sTPF d' l h k c = sTPF d l h k c := by
  intro c
  induction c with
  | zero => intro k _; rfl
  | succ c ih =>
    intro k hs
    unfold sTPF
    rw [hs k (Nat.le_refl k) (by omega), ih (fun j h1 h2 => hs j (by omega) (by omega))]
theorem FX_n {j l k : Nat} (hj : FX j) (hl : l < 8) (hk : k < 4) : 51 + 7 * l + k ≠ j := fun q => FXl hl hk (q ▸ hj)
theorem sLeave_FX {H l j : Nat} {v h : Int32} (hn : LN H d l) (hl : l < 8) (hj : FX j) : sLeave (upd d j v) h l = upd (sLeave d h l) j v := by
  have hn' : LN H (upd d j v) l := LN_same (fun k hk => upd_n (FX_n hj hl hk)) hn
  have et : nT (upd d j v) l = nT d l := nT_same (upd_n (FX_n hj hl (k := 0) (by omega)))
  have h3 := hn.2.1
  have ek : ∀ k, k < 3 → upd d j v (52 + 7 * l + k) = d (52 + 7 * l + k) := fun k hk => upd_n (by
    have := FX_n hj hl (k := k + 1) (by omega)
    omega)
  have ep : sTP (upd d j v) l h = sTP d l h := by
    unfold sTP
    rw [et]
    exact sTPF_cong (fun k _ hk => ek k (by omega))
  rcases sLeave_or hn h with ⟨a1, a2, a3⟩ | ⟨k, a1, a2, a3, a4⟩
  · rcases sLeave_or hn' h with ⟨b1, b2, b3⟩ | ⟨k', b1, b2, b3, b4⟩
    · rw [a3, b3]
    · rw [ep, a1] at b1; cases b1
  · rcases sLeave_or hn' h with ⟨b1, b2, b3⟩ | ⟨k', b1, b2, b3, b4⟩
    · rw [ep, a1] at b1; cases b1
    · rw [ep, a1] at b1
      cases b1
      funext i
      rw [b4, et]
      by_cases q : i = j
      · subst q
        have n0 := FX_n hj hl (k := 0) (by omega)
        have n1 := FX_n hj hl (k := 1) (by omega)
        have n2 := FX_n hj hl (k := 2) (by omega)
        have n3 := FX_n hj hl (k := 3) (by omega)
        rw [upd_s, upd_s, if_neg (by omega), if_neg (by omega)]
      · rw [upd_n q, upd_n q, a4]
        by_cases q2 : i = 51 + 7 * l
        · rw [if_pos q2, if_pos q2]
        · rw [if_neg q2, if_neg q2]
          by_cases q3 : 52 + 7 * l + k ≤ i ∧ i < 52 + 7 * l + (nT d l - 1)
          · rw [if_pos q3, if_pos q3]
            have := ek (i + 1 - (52 + 7 * l)) (by omega)
            rw [show 52 + 7 * l + (i + 1 - (52 + 7 * l)) = i + 1 by omega] at this
            exact this
          · rw [if_neg q3, if_neg q3]
theorem FXm {j : Nat} (hj : FX j) : j < 104 ∧ j ≠ 0 ∧ j ≠ 1 ∧ j ≠ 2 ∧ j ≠ 3 := by unfold FX at hj; omega
theorem sLeaveAll_FX (hD : DJ ops d) {j : Nat} {v h : Int32} (hj : FX j) : sLeaveAll (upd d j v) h = upd (sLeaveAll d h) j v := by
  have h8 := hD.L8
  obtain ⟨m1, m2, m3, m4, m5⟩ := FXm hj
  have key : ∀ (c i : Nat) (e : XD), DJ ops e → i + c = nL e → fo (fun l e => sLeave e h l) i c (upd e j v) = upd (fo (fun l e => sLeave e h l) i c e) j v := by
    intro c
    induction c with
    | zero => intro i e _ _; rfl
    | succ c ih =>
      intro i e hE hi
      have hn := hE.ln i (by omega)
      show fo _ (i + 1) c (sLeave (upd e j v) h i) = upd (fo _ (i + 1) c (sLeave e h i)) j v
      rw [sLeave_FX hn (by have := hE.L8; omega) hj]
      exact ih (i + 1) _ (hE.leave (by omega) h) (by rw [nL_same (sLeave_far hn h (by omega))]; omega)
  have eL : nL (upd d j v) = nL d := nL_same (upd_n (by omega))
  unfold sLeaveAll
  rw [eL]
  exact key (nL d) 0 d hD (Nat.zero_add _)
theorem fo_cong {σ : Type} {f g : Nat → σ → σ} : ∀ {c i : Nat} {s : σ}, (∀ k s, i ≤ k → k < i + c → f k s = g k s) → fo f i c s = fo g i c s := by
  intro c
  induction c with
  | zero => intro i s _; rfl
  | succ c ih =>
    intro i s h
    unfold fo
    rw [h i s (Nat.le_refl i) (by omega)]
    exact ih (fun k s h1 h2 => h k s (by omega) (by omega))
theorem sHeld_FX {j : Nat} {v h : Int32} (hj : FX j) : sHeld (upd d j v) h = sHeld d h := by
  obtain ⟨m1, m2, m3, m4, m5⟩ := FXm hj
  exact sHeld_same (nR_same (upd_n (by omega))) (fun y hy => ⟨upd_n (by omega), upd_n (by omega)⟩)
theorem sBest_FX {j l : Nat} {v : Int32} (h3 : nT d l ≤ 3) (hl : l < 8) (hj : FX j) : sBest (upd d j v) l = sBest d l := by
  have et : nT (upd d j v) l = nT d l := nT_same (upd_n (FX_n hj hl (k := 0) (by omega)))
  unfold sBest
  rw [et]
  congr 1
  refine fo_cong (fun k s _ hk => ?_)
  have ek : upd d j v (52 + 7 * l + k) = d (52 + 7 * l + k) := upd_n (by
    have := FX_n hj hl (k := k + 1) (by omega)
    omega)
  unfold sBestF
  rw [ek, sHeld_FX hj]
theorem sAssign_FX (hD : DJ ops d) {r j : Nat} {v : Int32} (hr : r < nR d) (hj : FX j) : sAssign (upd d j v) r = upd (sAssign d r) j v := by
  have h8 := hD.L8
  obtain ⟨m1, m2, m3, m4, m5⟩ := FXm hj
  obtain ⟨hl, -⟩ := hD.line hr
  have t2 := (hD.ln _ hl).2.1
  obtain ⟨a1, a2, a3⟩ := sAssign_at (d := d) r
  obtain ⟨b1, b2, b3⟩ := sAssign_at (d := upd d j v) r
  have el : lR (upd d j v) r = lR d r := by unfold lR; rw [upd_n (by omega)]
  funext i
  by_cases q1 : i = 108 + 8 * r
  · rw [q1, b1, upd_n (by omega), a1, el, upd_comm (by omega)]
    exact sBest_FX (by rw [nT_same (upd_n (by omega))]; exact t2) (by omega) hj
  · by_cases q2 : i = 111 + 8 * r
    · rw [q2, b2, upd_n (by omega), upd_n (by omega), a2]
    · rw [b3 i q1 q2]
      by_cases q3 : i = j
      · rw [q3, upd_s, upd_s]
      · rw [upd_n q3, upd_n q3, a3 i q1 q2]
theorem sReAll_FX (hD : DJ ops d) {j : Nat} {v h : Int32} (hj : FX j) : sReAll (upd d j v) h = upd (sReAll d h) j v := by
  obtain ⟨m1, m2, m3, m4, m5⟩ := FXm hj
  have key : ∀ (c i : Nat) (e : XD), DJ ops e → i + c = nR e → fo (fun r e => if sHolds e h r then sAssign e r else e) i c (upd e j v) = upd (fo (fun r e => if sHolds e h r then sAssign e r else e) i c e) j v := by
    intro c
    induction c with
    | zero => intro i e _ _; rfl
    | succ c ih =>
      intro i e hE hi
      have es : sHolds (upd e j v) h i = sHolds e h i := by unfold sHolds sOpen; rw [upd_n (by omega), upd_n (by omega)]
      show fo _ (i + 1) c (if sHolds (upd e j v) h i = true then sAssign (upd e j v) i else upd e j v) = upd (fo _ (i + 1) c (if sHolds e h i = true then sAssign e i else e)) j v
      rw [es]
      by_cases q : sHolds e h i = true
      · rw [if_pos q, if_pos q, sAssign_FX hE (by omega) hj]
        exact ih (i + 1) _ (hE.assign (by omega) (sHolds_of q).1).1 (by rw [nR_same ((sAssign_at i).2.2 3 (by omega) (by omega))]; omega)
      · rw [if_neg q, if_neg q]
        exact ih (i + 1) e hE (by omega)
  have eR : nR (upd d j v) = nR d := nR_same (upd_n (by omega))
  unfold sReAll
  rw [eR]
  exact key (nR d) 0 d hD (Nat.zero_add _)
theorem sBankrupt_FX (hD : DJ ops d) {h j : Nat} {v : Int32} (hh : h < nH d) (hj : FX j) : sBankrupt (upd d j v) h = upd (sBankrupt d h) j v := by
  have h6 := hD.H6
  have hb := FXb (i := h) (by omega)
  unfold sBankrupt
  have hne : j ≠ 14 + 6 * h := fun q => hb (q ▸ hj)
  rw [upd_comm hne, sLeaveAll_FX (hD.broke hh) hj]
  exact sReAll_FX (sLeaveAll_keep (hD.broke hh) (nI h)).1 hj
theorem sBankrupt_far (hD : DJ ops d) {h j : Nat} (hh : h < nH d) (hj : j < 104 ∧ j ≠ 14 + 6 * h ∧ (j < 48 ∨ (j - 48) % 7 < 3)) : sBankrupt d h j = d j := by
  have hB := hD.broke hh
  obtain ⟨k1, -, k3⟩ := sLeaveAll_keep hB (nI h)
  obtain ⟨m1, m2⟩ := sReAll_keep k1 (nI h)
  unfold sBankrupt
  rw [m2 j (by omega), k3 j (by omega), upd_n (by omega)]
theorem DJ.bankrupt (hD : DJ ops d) {h : Nat} (hh : h < nH d) : DJ ops (sBankrupt d h) := (sReAll_keep (sLeaveAll_keep (hD.broke hh) (nI h)).1 (nI h)).1
theorem DJ.take (hD : DJ ops d) {h : Nat} {amt : Int32} (hh : h < nH d) : DJ ops (sTake d h amt) := by
  have h6 := hD.H6
  have hD1 : ∀ v, DJ ops (upd d (12 + 6 * h) v) := fun v => DJ_F hD (fun j hj => by unfold FX at hj; exact upd_n (by omega))
  unfold sTake
  split
  · exact hD1 _
  · exact (hD1 _).bankrupt (by rw [nH_same (upd_n (by omega))]; exact hh)
theorem sTake_far (hD : DJ ops d) {h j : Nat} {amt : Int32} (hh : h < nH d) (hj : j < 104 ∧ j ≠ 14 + 6 * h ∧ j ≠ 12 + 6 * h ∧ (j < 48 ∨ (j - 48) % 7 < 3)) : sTake d h amt j = d j := by
  have h6 := hD.H6
  have hD1 : ∀ v, DJ ops (upd d (12 + 6 * h) v) := fun v => DJ_F hD (fun j hj => by unfold FX at hj; exact upd_n (by omega))
  unfold sTake
  split
  · exact upd_n hj.2.2.1
  · rw [sBankrupt_far (hD1 _) (by rw [nH_same (upd_n (by omega))]; exact hh) ⟨hj.1, hj.2.1, hj.2.2.2⟩]
    exact upd_n hj.2.2.1
/-- a payment: taken, then told and given -/
theorem sMustPay_take (hD : DJ ops d) {h acc to : Nat} {amt : Int32} (ha : acc = 3 ∨ acc = 4) (ht : toP to) (hh : h < nH d) : sMustPay d h amt acc to = upd (upd (sTake d h amt) (12 + 6 * h + acc) (d (12 + 6 * h + acc) + mn amt (d (12 + 6 * h)))) to (d to + mn amt (d (12 + 6 * h))) := by
  have h6 := hD.H6
  have ht' := ht
  unfold toP at ht'
  have f1 : FX (12 + 6 * h + acc) := by unfold FX; omega
  have f2 : FX to := by unfold FX; omega
  have hD1 : ∀ v, DJ ops (upd d (12 + 6 * h) v) := fun v => DJ_F hD (fun j hj => by unfold FX at hj; exact upd_n (by omega))
  have hD2 : ∀ v x, DJ ops (upd (upd d (12 + 6 * h) v) (12 + 6 * h + acc) x) := fun v x => DJ_F (hD1 v) (fun j hj => upd_n (fun q => hj (q ▸ f1)))
  have e1 : ∀ v, nH (upd d (12 + 6 * h) v) = nH d := fun v => nH_same (upd_n (by omega))
  have e2 : ∀ v x, nH (upd (upd d (12 + 6 * h) v) (12 + 6 * h + acc) x) = nH d := fun v x => nH_same (by rw [upd_n (by omega), upd_n (by omega)])
  rw [sMustPay_eq]
  unfold sTake
  by_cases q : mn amt (d (12 + 6 * h)) = amt
  · rw [if_pos q, if_pos q]; rfl
  · rw [if_neg q, if_neg q]
    show sBankrupt (sPaid d h amt acc to) h = _
    unfold sPaid
    rw [sBankrupt_FX (hD2 _ _) (by rw [e2]; exact hh) f2, sBankrupt_FX (hD1 _) (by rw [e1]; exact hh) f1]
end CM
section CC2
variable {P : Nat → Int32} {Y : XY} {w : Nat} {N : XN} {c : Nat → Nat → Int32} {d : XD} {ops : List Int32}
/-- a payment in the class: the account, then where it goes -/
theorem C_answer (hY : WY Y w) (hD : DJ ops d) (hC : CR P ops d c) {r g : Nat} (hr : r < nR d) (ho : d (107 + 8 * r) = nI 1) (hg : g < nH d) (hh : d (108 + 8 * r) = nI g) : ∃ c', f_X6_answer Y w (w + (30 + r)) (sw N w c) = some (sw N w c') ∧ CR P ops (sAnswer d r g) c' := by
  have h6 := hD.H6
  have h8 := hD.L8
  have h60 := hD.R60
  obtain ⟨hl, el⟩ := hD.line hr
  obtain ⟨hC1, hC2, hC3⟩ := hC
  have pm := C_payAtMost (N := N) (c := up2 (up2 (up2 (up2 c (8 + g) 3 (c (8 + g) 3 - nI 1)) (30 + r) 4 (-nI 1)) (30 + r) 3 (nI 2)) (30 + r) 7 (d 0)) hY (l := lR d r) (a := d 9 * d (106 + 8 * r)) (by omega)
  rw [up2_n _ _ (by omega), up2_n _ _ (by omega), up2_n _ _ (by omega), up2_n _ _ (by omega), hC1.l2 hl, mn_comm] at pm
  have at1 : ∀ j, j ≠ 107 + 8 * r → j ≠ 110 + 8 * r → j ≠ 108 + 8 * r → j ≠ 50 + 7 * lR d r → j ≠ 12 + 6 * g → j ≠ 17 + 6 * g → sAnswer d r g j = d j := fun j q1 q2 q3 q4 q5 q6 => by unfold sAnswer; rw [upd_n q6, upd_n q5, upd_n q4, upd_n q3, upd_n q2, upd_n q1]
  have hx := ((((((hC1.jh h6 (i := g) (by omega) (v := c (8 + g) 3 - nI 1)).ur4 h6 h8 hr (v := -nI 1)).ur3 h6 h8 hr (v := nI 2)).ur7 h6 h8 hr (v := d 0)).ul2 h6 h8 hl (v := d (50 + 7 * lR d r) - mn (d (50 + 7 * lR d r)) (d 9 * d (106 + 8 * r)))).uh0 h6 h8 hg (v := d (12 + 6 * g) + mn (d (50 + 7 * lR d r)) (d 9 * d (106 + 8 * r)))).uh6 h6 h8 hg (v := d (17 + 6 * g) + mn (d (50 + 7 * lR d r)) (d 9 * d (106 + 8 * r)))
  have es : upd (upd (upd (upd (upd (upd d (108 + 8 * r) (-nI 1)) (107 + 8 * r) (nI 2)) (110 + 8 * r) (d 0)) (50 + 7 * lR d r) (d (50 + 7 * lR d r) - mn (d (50 + 7 * lR d r)) (d 9 * d (106 + 8 * r)))) (12 + 6 * g) (d (12 + 6 * g) + mn (d (50 + 7 * lR d r)) (d 9 * d (106 + 8 * r)))) (17 + 6 * g) (d (17 + 6 * g) + mn (d (50 + 7 * lR d r)) (d 9 * d (106 + 8 * r))) = sAnswer d r g := by
    unfold sAnswer
    funext j
    unfold upd
    (repeat' split) <;> first | rfl | (exfalso; omega)
  rw [es] at hx
  refine ⟨_, ?_, hx.row (at1 1 (by omega) (by omega) (by omega) (by omega) (by omega) (by omega)) (at1 2 (by omega) (by omega) (by omega) (by omega) (by omega) (by omega)) (at1 3 (by omega) (by omega) (by omega) (by omega) (by omega) (by omega)) (fun l hl => at1 _ (by omega) (by omega) (by omega) (by omega) (by omega) (by omega)), ((((((hC2.up (by omega) (by omega)).up (by omega) (by omega)).up (by omega) (by omega)).up (by omega) (by omega)).up (by omega) (by omega)).up (by omega) (by omega)).up (by omega) (by omega), fun i hi => ?_⟩
  · have hsh : f_X6_hasHandler Y w (nI g) (sw N w c) = nI 1 := hC1.hsH hD.H h6 hg
    have hsl : f_X6_hasLine Y w (nI (lR d r)) (sw N w c) = nI 1 := hC1.hsL hD.L h8 hl
    unfold f_X6_answer
    simp (disch := omega) only [↓lt_eq, bd, bd2, Option.bind_some, nI_lit, nI_clamp, nI_add, xb_nI, if_true, gi_sw, gi_sw0, si_sw, si_sw0, hY.g0, hY.g2, hY.g4, hY.g13, hY.g14, hY.f0, hY.f2, hY.h, hY.l, hY.t, hY.r, ↓reduceIte, pLEt, pLEf, pLTt, pLTf, pEQf, pML, pMG, pMf, pMg, hC1.r4, hh, hsh, hsl, hC1.w6, up2_n, hC1.r0, el, hC1.w12, hC1.r2, pm, hC1.h0, hC1.h6]
  · have eH : nH (sAnswer d r g) = nH d := nH_same (at1 1 (by omega) (by omega) (by omega) (by omega) (by omega) (by omega))
    have := sHeld_one (d := d) (d' := sAnswer d r g) (h := nI i) (nR_same (at1 3 (by omega) (by omega) (by omega) (by omega) (by omega) (by omega))) hr (fun j hj => ⟨at1 _ (by omega) (by omega) (by omega) (by omega) (by omega) (by omega), at1 _ (by omega) (by omega) (by omega) (by omega) (by omega) (by omega)⟩)
    have e7 : sAnswer d r g (107 + 8 * r) = nI 2 := by unfold sAnswer; rw [upd_n (by omega), upd_n (by omega), upd_n (by omega), upd_n (by omega), upd_n (by omega), upd_s]
    have e9 : sHolds (sAnswer d r g) (nI i) r = false := by unfold sHolds sOpen; rw [e7, decide_eq_false (by decide), Bool.false_and]
    rw [e9] at this
    unfold sHolds sOpen at this
    rw [decide_eq_true ho, hh, Bool.true_and] at this
    simp only [Bool.false_eq_true, if_false, Nat.add_zero, decide_eq_true_eq] at this
    rw [up2_n _ _ (by omega), up2_n _ _ (by omega), up2_n _ _ (by omega), up2_n _ _ (by omega), up2_n _ _ (by omega), up2_n _ _ (by omega)]
    by_cases q : i = g
    · subst q
      rw [if_pos rfl] at this
      rw [up2_s, hC3 i (by omega), pk_sub (by omega), show sHeld (sAnswer d r i) (nI i) = sHeld d (nI i) - 1 by omega]
    · rw [if_neg (fun q2 => q ((nI_eq (by omega) (by omega)).mp q2).symm)] at this
      rw [up2_n _ _ (by omega), hC3 i (by omega), show sHeld (sAnswer d r g) (nI i) = sHeld d (nI i) by omega]
end CC2

