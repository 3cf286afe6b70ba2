/-! PRUNED: of whole -/
def sMay (d : XD) (h l : Nat) : Bool := decide (d (14 + 6 * h) = nI 0) && (!(sTP d l (nI h)).isSome && decide (nT d l < 3))
def sAddT (d : XD) (h l : Nat) : XD := upd (upd d (52 + 7 * l + nT d l) (nI h)) (51 + 7 * l) (nI (nT d l + 1))
def sThoseF (l h : Int32) (r : Nat) (s : Nat × XD) : Nat × XD := if sFreeP s.2 l h r = true then (s.1 + 1, sAssign s.2 r) else s
def sThose (d : XD) (l h : Int32) : Nat × XD := fo (sThoseF l h) 0 (nR d) (0, d)
def sLease (d : XD) (h l : Nat) : Nat × XD := sThose (sAddT d h l) (nI l) (-nI 1)
def sRelease (d : XD) (h l : Nat) : Nat × XD := sThose (sLeave d (nI h) l) (nI l) (nI h)
/-- the row behind a new request -/
def sPut (d : XD) (l t k : Int32) : XD := upd (upd (upd (upd (upd (upd (upd (upd (upd d (104 + 8 * nR d) l) (105 + 8 * nR d) t) (106 + 8 * nR d) k) (107 + 8 * nR d) (nI 0)) (108 + 8 * nR d) (-nI 1)) (109 + 8 * nR d) (nI 0)) (110 + 8 * nR d) (-nI 1)) (111 + 8 * nR d) (nI 0)) 3 (nI (nR d + 1))
section CH
variable {P : Nat → Int32} {Y : XY} {m w : Nat} {N : XN} {c : Nat → Nat → Int32} {d : XD} {ops : List Int32}
theorem sFreeP_of {l h : Int32} {r : Nat} (q : sFreeP d l h r = true) : d (107 + 8 * r) = nI 1 ∧ d (104 + 8 * r) = l ∧ d (108 + 8 * r) = h := by
  unfold sFreeP sOpen at q
  simp only [Bool.and_eq_true, decide_eq_true_eq] at q
  exact ⟨q.1, q.2.1, q.2.2⟩
theorem sFreeP_t {l h : Int32} {r : Nat} (h1 : d (107 + 8 * r) = nI 1) (h2 : d (104 + 8 * r) = l) (h3 : d (108 + 8 * r) = h) : sFreeP d l h r = true := by
  unfold sFreeP sOpen
  rw [decide_eq_true h1, decide_eq_true h2, decide_eq_true h3]
  rfl
theorem sAddT_at (h l : Nat) : sAddT d h l (51 + 7 * l) = nI (nT d l + 1) ∧ sAddT d h l (52 + 7 * l + nT d l) = nI h ∧ ∀ j, j ≠ 51 + 7 * l → j ≠ 52 + 7 * l + nT d l → sAddT d h l j = d j := by
  unfold sAddT
  exact ⟨upd_s _ _ _, by rw [upd_n (by omega), upd_s], fun j h1 h2 => by rw [upd_n h1, upd_n h2]⟩
theorem DJ.addT (hD : DJ ops d) {h l : Nat} (hh : h < nH d) (hl : l < nL d) (h3 : nT d l < 3) (hn : sTP d l (nI h) = none) : DJ ops (sAddT d h l) ∧ kept d (sAddT d h l) ∧ nT (sAddT d h l) l = nT d l + 1 := by
  have h8 := hD.L8
  have h6 := hD.H6
  obtain ⟨a1, a2, a3⟩ := sAddT_at (d := d) h l
  have en : nT (sAddT d h l) l = nT d l + 1 := by
    show (sAddT d h l (51 + 7 * l)).toNatClampNeg = _
    rw [a1]; exact nI_clamp (by omega)
  obtain ⟨t1, t2, t3, t4⟩ := hD.ln l hl
  have ek : ∀ k, k < nT d l → sAddT d h l (52 + 7 * l + k) = d (52 + 7 * l + k) := fun k hk => a3 _ (by omega) (by omega)
  refine ⟨DJ_L hD hl (fun j _ hj => a3 j (by omega) (by omega)) ⟨by rw [en, a1], by omega, fun k hk => ?_, fun j k hj hk => ?_⟩, kept_of (fun j hj => a3 j (by omega) (by omega)), en⟩
  · rw [en] at hk
    by_cases q : k = nT d l
    · rw [q, a2]; exact ⟨h, hh, rfl⟩
    · rw [ek k (by omega)]; exact t3 k (by omega)
  · rw [en] at hk
    rw [ek j (by omega)]
    by_cases q : k = nT d l
    · rw [q, a2]
      exact sTPF_none hn j (by omega) (by omega)
    · rw [ek k (by omega)]; exact t4 j k hj (by omega)
theorem C_mayLease (hY : WY Y w) (hD : DJ ops d) (hC : CR P ops d c) {h l : Nat} (hh : h < nH d) (hl : l < nL d) : f_X6_mayLease Y w (nI h) (nI l) (sw N w c) = some (if sMay d h l = true then nI 1 else nI 0) := by
  have h8 := hD.L8
  have h6 := hD.H6
  obtain ⟨t1, t2, -, -⟩ := hD.ln l hl
  have mi := C_placeOf (N := N) hY hC.1 (h := nI h) hl h8 t1 (Nat.le_refl _) t2
  unfold f_X6_mayLease sMay
  by_cases q1 : d (14 + 6 * h) = nI 0
  · by_cases q2 : (sTP d l (nI h)).isSome = true
    · have z0 : (nI 0 ≤ pI (sTP d l (nI h))) = True := eq_true ((pI_neg _ sTP_lt).2.1.mpr q2)
      rw [q2, Bool.not_true, Bool.false_and, Bool.and_false]
      simp (disch := omega) only [↓lt_eq, bd, bd2, Option.bind_some, nI_lit, nI_clamp, nI_add, xb_nI, if_true, gi_sw, gi_sw0, si_sw, si_sw0, hY.g0, hY.g2, hY.g4, hY.g13, hY.g14, hY.f0, hY.f2, hY.h, hY.l, hY.t, hY.r, ↓reduceIte, pLEt, pLEf, pLTt, pLTf, pEQf, pML, pMG, pMf, pMg, hC.1.h2, q1, mi, z0, Bool.false_eq_true]
    · have z0 : (nI 0 ≤ pI (sTP d l (nI h))) = False := eq_false (fun z => q2 ((pI_neg _ sTP_lt).2.1.mp z))
      rw [Bool.eq_false_iff.mpr q2, decide_eq_true q1, Bool.not_false, Bool.true_and, Bool.true_and]
      by_cases q3 : nT d l < 3
      · rw [decide_eq_true q3]
        simp (disch := omega) only [↓lt_eq, bd, bd2, Option.bind_some, nI_lit, nI_clamp, nI_add, xb_nI, if_true, gi_sw, gi_sw0, si_sw, si_sw0, hY.g0, hY.g2, hY.g4, hY.g13, hY.g14, hY.f0, hY.f2, hY.h, hY.l, hY.t, hY.r, ↓reduceIte, pLEt, pLEf, pLTt, pLTf, pEQf, pML, pMG, pMf, pMg, hC.1.h2, q1, mi, z0, hC.1.l4, t1]
      · rw [decide_eq_false q3]
        simp (disch := omega) only [↓lt_eq, bd, bd2, Option.bind_some, nI_lit, nI_clamp, nI_add, xb_nI, if_true, gi_sw, gi_sw0, si_sw, si_sw0, hY.g0, hY.g2, hY.g4, hY.g13, hY.g14, hY.f0, hY.f2, hY.h, hY.l, hY.t, hY.r, ↓reduceIte, pLEt, pLEf, pLTt, pLTf, pEQf, pML, pMG, pMf, pMg, hC.1.h2, q1, mi, z0, hC.1.l4, t1, Bool.false_eq_true]
  · rw [decide_eq_false q1, Bool.false_and]
    simp (disch := omega) only [↓lt_eq, bd, bd2, Option.bind_some, nI_lit, nI_clamp, nI_add, xb_nI, if_true, gi_sw, gi_sw0, si_sw, si_sw0, hY.g0, hY.g2, hY.g4, hY.g13, hY.g14, hY.f0, hY.f2, hY.h, hY.l, hY.t, hY.r, ↓reduceIte, pLEt, pLEf, pLTt, pLTf, pEQf, pML, pMG, pMf, pMg, hC.1.h2, eq_false q1, Bool.false_eq_true]
theorem sMay_of {h l : Nat} (q : sMay d h l = true) : d (14 + 6 * h) = nI 0 ∧ sTP d l (nI h) = none ∧ nT d l < 3 := by
  unfold sMay at q
  simp only [Bool.and_eq_true, decide_eq_true_eq, Bool.not_eq_true'] at q
  refine ⟨q.1, ?_, q.2.2⟩
  cases z : sTP d l (nI h) with
  | none => rfl
  | some k => rw [z] at q; exact Bool.noConfusion q.2.1
theorem C_those_L (hY : WY Y w) {l : Nat} {h : Int32} : ∀ (z i D9 : Nat) (s : Nat × XD) (c : Nat → Nat → Int32), DJ ops s.2 → CR P ops s.2 c → l < nL s.2 → (∀ k, k < nT s.2 l → s.2 (52 + 7 * l + k) ≠ h) → i + z = nR s.2 → z < D9 → ∃ c', f_X6_assignThoseOf_5 Y D9 w (nI l) h (nI s.1) (nI i) (sw N w c) = some (nI (fo (sThoseF (nI l) h) i z s).1, sw N w c') ∧ CR P ops (fo (sThoseF (nI l) h) i z s).2 c' := by
  intro z
  induction z with
  | zero =>
    intro i D9 s c hD hC hl hn hi hD9
    have h60 := hD.R60
    obtain ⟨D8, rfl⟩ : ∃ z, D9 = z + 1 := ⟨D9 - 1, by omega⟩
    refine ⟨c, ?_, hC⟩
    rw [f_X6_assignThoseOf_5]
    simp (disch := omega) only [↓lt_eq, bd, bd2, Option.bind_some, nI_lit, nI_clamp, nI_add, xb_nI, if_true, gi_sw, gi_sw0, si_sw, si_sw0, hY.g0, hY.g2, hY.g4, hY.g13, hY.g14, hY.f0, hY.f2, hY.h, hY.l, hY.t, hY.r, ↓reduceIte, pLEt, pLEf, pLTt, pLTf, pEQf, pML, pMG, pMf, pMg, hC.1.w5, hD.R]
    rfl
  | succ z ih =>
    intro i D9 s c hD hC hl hn hi hD9
    have h60 := hD.R60
    have h8 := hD.L8
    obtain ⟨D8, rfl⟩ : ∃ z, D9 = z + 1 := ⟨D9 - 1, by omega⟩
    rw [f_X6_assignThoseOf_5, fo]
    by_cases q : sFreeP s.2 (nI l) h i = true
    · obtain ⟨q0, q1, q2⟩ := sFreeP_of q
      have el : lR s.2 i = l := by unfold lR; rw [q1]; exact nI_clamp (by omega)
      have a1 := (hD.assign (r := i) (by omega) q0).1
      have a2 := sAssign_kept (d := s.2) (r := i) (by omega)
      obtain ⟨s1, s2, s3⟩ := sAssign_at (d := s.2) i
      obtain ⟨c1, b1, b2⟩ := C_assign (N := N) hY hD hC (r := i) (by omega) q0 (fun k hk => by rw [el] at hk ⊢; rw [q2]; exact hn k hk)
      have eT : nT (sAssign s.2 i) l = nT s.2 l := nT_same (s3 _ (by omega) (by omega))
      obtain ⟨c2, f1, f2⟩ := ih (i + 1) D8 (s.1 + 1, sAssign s.2 i) c1 a1 b2 (by show l < nL (sAssign s.2 i); rw [a2.L]; exact hl) (fun k hk => by
        have hk' : k < nT s.2 l := by rw [← eT]; exact hk
        have := (hD.ln l hl).2.1
        show sAssign s.2 i (52 + 7 * l + k) ≠ h
        rw [s3 _ (by omega) (by omega)]
        exact hn k hk') (by show _ = nR (sAssign s.2 i); rw [a2.R]; omega) (by omega)
      refine ⟨c2, ?_, ?_⟩
      · rw [show sThoseF (nI l) h i s = (s.1 + 1, sAssign s.2 i) from if_pos q]
        simp (disch := omega) only [↓lt_eq, bd, bd2, Option.bind_some, nI_lit, nI_clamp, nI_add, xb_nI, if_true, gi_sw, gi_sw0, si_sw, si_sw0, hY.g0, hY.g2, hY.g4, hY.g13, hY.g14, hY.f0, hY.f2, hY.h, hY.l, hY.t, hY.r, ↓reduceIte, pLEt, pLEf, pLTt, pLTf, pEQf, pML, pMG, pMf, pMg, hC.1.w5, hD.R, hC.1.r3, hC.1.r0, hC.1.r4, eq_true q0, eq_true q1, eq_true q2, b1]
        exact f1
      · rw [show sThoseF (nI l) h i s = (s.1 + 1, sAssign s.2 i) from if_pos q]
        exact f2
    · obtain ⟨c2, f1, f2⟩ := ih (i + 1) D8 s c hD hC hl hn (by omega) (by omega)
      rw [show sThoseF (nI l) h i s = s from if_neg q]
      refine ⟨c2, ?_, f2⟩
      by_cases q0 : s.2 (107 + 8 * i) = nI 1
      · by_cases q1 : s.2 (104 + 8 * i) = nI l
        · have q2 : ¬ s.2 (108 + 8 * i) = h := fun z => q (sFreeP_t q0 q1 z)
          simp (disch := omega) only [↓lt_eq, bd, bd2, Option.bind_some, nI_lit, nI_clamp, nI_add, xb_nI, if_true, gi_sw, gi_sw0, si_sw, si_sw0, hY.g0, hY.g2, hY.g4, hY.g13, hY.g14, hY.f0, hY.f2, hY.h, hY.l, hY.t, hY.r, ↓reduceIte, pLEt, pLEf, pLTt, pLTf, pEQf, pML, pMG, pMf, pMg, hC.1.w5, hD.R, hC.1.r3, hC.1.r0, hC.1.r4, eq_true q0, eq_true q1, eq_false q2]
          exact f1
        · simp (disch := omega) only [↓lt_eq, bd, bd2, Option.bind_some, nI_lit, nI_clamp, nI_add, xb_nI, if_true, gi_sw, gi_sw0, si_sw, si_sw0, hY.g0, hY.g2, hY.g4, hY.g13, hY.g14, hY.f0, hY.f2, hY.h, hY.l, hY.t, hY.r, ↓reduceIte, pLEt, pLEf, pLTt, pLTf, pEQf, pML, pMG, pMf, pMg, hC.1.w5, hD.R, hC.1.r3, hC.1.r0, eq_true q0, eq_false q1]
          exact f1
      · simp (disch := omega) only [↓lt_eq, bd, bd2, Option.bind_some, nI_lit, nI_clamp, nI_add, xb_nI, if_true, gi_sw, gi_sw0, si_sw, si_sw0, hY.g0, hY.g2, hY.g4, hY.g13, hY.g14, hY.f0, hY.f2, hY.h, hY.l, hY.t, hY.r, ↓reduceIte, pLEt, pLEf, pLTt, pLTf, pEQf, pML, pMG, pMf, pMg, hC.1.w5, hD.R, hC.1.r3, eq_false q0]
        exact f1
theorem CR.addT (hD : DJ ops d) (hC : CR P ops d c) {h l : Nat} (hl : l < nL d) (h3 : nT d l < 3) : CR P ops (sAddT d h l) (up2 (up2 c (15 + 2 * l) (nT d l) (nI h)) (14 + 2 * l) 4 (nI (nT d l + 1))) := by
  have h6 := hD.H6
  have h8 := hD.L8
  obtain ⟨⟨w1, w2, w3, w4, w5⟩, hC2, hC3⟩ := hC
  obtain ⟨a1, a2, a3⟩ := sAddT_at (d := d) h l
  have en : nT (sAddT d h l) l = nT d l + 1 := by
    show (sAddT d h l (51 + 7 * l)).toNatClampNeg = _
    rw [a1]; exact nI_clamp (by omega)
  have e1 := a3 1 (by omega) (by omega)
  have e2 := a3 2 (by omega) (by omega)
  have e3 := a3 3 (by omega) (by omega)
  refine ⟨?_, (hC2.up (by omega) (by omega)).up (by omega) (by omega), fun i hi => ?_⟩
  · rw [nH_same e1, nL_same e2, nR_same e3]
    refine ⟨fun k' j' h' => ?_, fun i' k' j' hi' h' => ?_, fun i' k' j' hi' h' => ?_, fun i' k' hi' h3' h' => ?_, fun i' k' j' hi' h' => ?_⟩
    · have b' := h'.b; rw [up2_n _ _ (by omega), up2_n _ _ (by omega), a3 _ (by omega) (by omega)]; exact w1 k' j' h'
    · have b' := h'.b; rw [up2_n _ _ (by omega), up2_n _ _ (by omega), a3 _ (by omega) (by omega)]; exact w2 i' k' j' hi' h'
    · have b' := h'.b
      have bi := h'.i (show Lp 4 51 by unfold Lp; decide)
      by_cases q : i' = l ∧ k' = 4
      · obtain ⟨rfl, rfl⟩ := q
        rw [bi.mp rfl, up2_s, a1]
      · rw [up2_n _ _ (by omega), up2_n _ _ (by omega), a3 _ (by omega) (by omega)]; exact w3 i' k' j' hi' h'
    · by_cases q : i' = l
      · subst q
        rw [en] at h'
        rw [up2_n _ _ (by omega)]
        by_cases q2 : k' = nT d i'
        · rw [q2, up2_s, a2]
        · rw [up2_n _ _ (by omega), a3 _ (by omega) (by omega)]; exact w4 i' k' hi' h3' (by omega)
      · have et : nT (sAddT d h l) i' = nT d i' := nT_same (a3 _ (by omega) (by omega))
        rw [et] at h'
        rw [up2_n _ _ (by omega), up2_n _ _ (by omega), a3 _ (by omega) (by omega)]; exact w4 i' k' hi' h3' h'
    · have b' := h'.b; rw [up2_n _ _ (by omega), up2_n _ _ (by omega), a3 _ (by omega) (by omega)]; exact w5 i' k' j' hi' h'
  · have eH := nH_same e1
    rw [up2_n _ _ (by omega), up2_n _ _ (by omega), hC3 i (by omega)]
    congr 1
    exact (sHeld_same (nR_same e3) (fun y hy => ⟨a3 _ (by omega) (by omega), a3 _ (by omega) (by omega)⟩)).symm
theorem C_letLease (hY : WY Y w) (hD : DJ ops d) (hC : CR P ops d c) {h l : Nat} (hh : h < nH d) (hl : l < nL d) (hm : sMay d h l = true) : ∃ c', f_X6_letLease Y w (nI h) (nI l) (sw N w c) = some (nI (sLease d h l).1, sw N w c') ∧ CR P ops (sLease d h l).2 c' := by
  have h8 := hD.L8
  have h6 := hD.H6
  obtain ⟨t1, t2, -, -⟩ := hD.ln l hl
  obtain ⟨m1, m2, m3⟩ := sMay_of hm
  obtain ⟨a1, a2, a3⟩ := hD.addT hh hl m3 m2
  obtain ⟨c2, f1, f2⟩ := C_those_L (N := N) hY (l := l) (h := -nI 1) (nR (sAddT d h l)) 0 FU (0, sAddT d h l) _ a1 (hC.addT hD (h := h) hl m3) (by show l < nL (sAddT d h l); rw [a2.L]; exact hl) (fun k hk => by
    have hl' : l < nL (sAddT d h l) := by rw [a2.L]; exact hl
    obtain ⟨t, u1, u2⟩ := (a1.ln l hl').2.2.1 k hk
    show sAddT d h l (52 + 7 * l + k) ≠ -nI 1
    rw [u2]
    have := a1.H6
    exact nI_neg1 (by omega)) (Nat.zero_add _) (by have := a1.R60; unfold FU; omega)
  refine ⟨c2, ?_, f2⟩
  unfold f_X6_letLease f_X2_addTenant f_X6_assignThoseOf
  simp (disch := omega) only [↓lt_eq, bd, bd2, Option.bind_some, nI_lit, nI_clamp, nI_add, xb_nI, if_true, gi_sw, gi_sw0, si_sw, si_sw0, hY.g0, hY.g2, hY.g4, hY.g13, hY.g14, hY.f0, hY.f2, hY.h, hY.l, hY.t, hY.r, ↓reduceIte, pLEt, pLEf, pLTt, pLTf, pEQf, pML, pMG, pMf, pMg, hC.1.l4, t1, up2_n, f1]
  rfl
theorem C_letRelease (hY : WY Y w) (hD : DJ ops d) (hC : CR P ops d c) {h l : Nat} (hh : h < nH d) (hl : l < nL d) : ∃ c', f_X6_letRelease Y w (nI h) (nI l) (sw N w c) = some (nI (sRelease d h l).1, sw N w c') ∧ CR P ops (sRelease d h l).2 c' := by
  have h8 := hD.L8
  have h6 := hD.H6
  have hn := hD.ln l hl
  obtain ⟨g1, g2, g3⟩ := sLeave_LN hn (nI h)
  have far := fun j hj => sLeave_far hn (nI h) (j := j) hj
  have a1 := hD.leave hl (nI h)
  obtain ⟨c1, b1, b2⟩ := CR.leave (N := N) hY hD hC hl (nI h)
  obtain ⟨c2, f1, f2⟩ := C_those_L (N := N) hY (l := l) (h := nI h) (nR (sLeave d (nI h) l)) 0 FU (0, sLeave d (nI h) l) c1 a1 b2 (by show l < nL (sLeave d (nI h) l); rw [nL_same (far 2 (by omega))]; exact hl) g2 (Nat.zero_add _) (by have := a1.R60; unfold FU; omega)
  refine ⟨c2, ?_, f2⟩
  unfold f_X6_letRelease f_X6_assignThoseOf
  simp (disch := omega) only [↓lt_eq, bd, bd2, Option.bind_some, nI_lit, nI_clamp, nI_add, xb_nI, if_true, gi_sw, gi_sw0, si_sw, si_sw0, hY.g0, hY.g2, hY.g4, hY.g13, hY.g14, hY.f0, hY.f2, hY.h, hY.l, hY.t, hY.r, ↓reduceIte, pLEt, pLEf, pLTt, pLTf, pEQf, pML, pMG, pMf, pMg, b1, f1]
  rfl
theorem sPut_at (l t k : Int32) : sPut d l t k 3 = nI (nR d + 1) ∧ (∀ j, j ≠ 3 → j < 104 + 8 * nR d ∨ 112 + 8 * nR d ≤ j → sPut d l t k j = d j) ∧ sPut d l t k (104 + 8 * nR d) = l ∧ sPut d l t k (105 + 8 * nR d) = t ∧ sPut d l t k (106 + 8 * nR d) = k ∧ sPut d l t k (107 + 8 * nR d) = nI 0 ∧ sPut d l t k (108 + 8 * nR d) = -nI 1 ∧ sPut d l t k (109 + 8 * nR d) = nI 0 ∧ sPut d l t k (110 + 8 * nR d) = -nI 1 ∧ sPut d l t k (111 + 8 * nR d) = nI 0 := by
  unfold sPut
  refine ⟨upd_s _ _ _, fun j h1 h2 => ?_, ?_, ?_, ?_, ?_, ?_, ?_, ?_, ?_⟩
  · rw [upd_n h1, upd_n (by omega), upd_n (by omega), upd_n (by omega), upd_n (by omega), upd_n (by omega), upd_n (by omega), upd_n (by omega), upd_n (by omega)]
  all_goals simp (disch := omega) only [upd_n, upd_s]
theorem DJ.put (hD : DJ ops d) {l k : Nat} {t : Int32} (hl : l < nL d) (hk : k ≤ 99) (h60 : nR d < 60) : DJ ops (sPut d (nI l) t (nI k)) ∧ nR (sPut d (nI l) t (nI k)) = nR d + 1 := by
  obtain ⟨p3, pf, p0, p1, p2, p4, p5, p6, p7, p8⟩ := sPut_at (d := d) (nI l) t (nI k)
  refine ⟨DJ_A hD h60 (fun j _ h1 h2 => pf j h1 h2) p3 ?_, ?_⟩
  · unfold RQ
    rw [p0, p2, p4, p5, p6, p7, p8]
    exact ⟨⟨l, hl, rfl⟩, ⟨k, hk, rfl⟩, ⟨0, by omega, rfl⟩, ⟨0, by omega, rfl⟩, Or.inl ⟨rfl, rfl, rfl⟩⟩
  · show (sPut d (nI l) t (nI k) 3).toNatClampNeg = _
    rw [p3]; exact nI_clamp (by omega)
theorem C_addRequest (hY : WY Y w) (hD : DJ ops d) (hC : CR P ops d c) {l k : Nat} {t : Int32} (hl : l < nL d) (h60 : nR d < 60) : ∃ c', f_X6_addRequest Y w (nI l) t (nI k) (sw N w c) = some (sw N w c') ∧ CR P ops (sPut d (nI l) t (nI k)) c' := by
  have h6 := hD.H6
  have h8 := hD.L8
  obtain ⟨p3, pf, p0, p1, p2, p4, p5, p6, p7, p8⟩ := sPut_at (d := d) (nI l) t (nI k)
  obtain ⟨⟨w1, w2, w3, w4, w5⟩, hC2, hC3⟩ := hC
  have hc5 : c 0 5 = nI (nR d) := (w1 5 3 (by unfold Wp; decide)).trans hD.R
  have eR : nR (sPut d (nI l) t (nI k)) = nR d + 1 := by
    show (sPut d (nI l) t (nI k) 3).toNatClampNeg = _
    rw [p3]; exact nI_clamp (by omega)
  have e1 := pf 1 (by omega) (by omega)
  have e2 := pf 2 (by omega) (by omega)
  refine ⟨up2 (up2 (up2 (up2 (up2 (up2 (up2 (up2 (up2 c (30 + nR d) 0 (nI l)) (30 + nR d) 1 t) (30 + nR d) 2 (nI k)) (30 + nR d) 3 (nI 0)) (30 + nR d) 4 (-nI 1)) (30 + nR d) 5 (nI 0)) (30 + nR d) 6 (nI 0)) (30 + nR d) 7 (-nI 1)) 0 5 (nI (nR d + 1)), ?_, ?_, ?_, fun i hi => ?_⟩
  · unfold f_X6_addRequest f_X3_begin
    simp (disch := omega) only [↓lt_eq, bd, bd2, Option.bind_some, nI_lit, nI_clamp, nI_add, xb_nI, if_true, gi_sw, gi_sw0, si_sw, si_sw0, hY.g0, hY.g2, hY.g4, hY.g13, hY.g14, hY.f0, hY.f2, hY.h, hY.l, hY.t, hY.r, ↓reduceIte, pLEt, pLEf, pLTt, pLTf, pEQf, pML, pMG, pMf, pMg, hc5, up2_n]
  · rw [nH_same e1, nL_same e2, eR]
    have far : ∀ o j, o ≠ 30 + nR d → (o ≠ 0 ∨ j ≠ 5) → up2 (up2 (up2 (up2 (up2 (up2 (up2 (up2 (up2 c (30 + nR d) 0 (nI l)) (30 + nR d) 1 t) (30 + nR d) 2 (nI k)) (30 + nR d) 3 (nI 0)) (30 + nR d) 4 (-nI 1)) (30 + nR d) 5 (nI 0)) (30 + nR d) 6 (nI 0)) (30 + nR d) 7 (-nI 1)) 0 5 (nI (nR d + 1)) o j = c o j := by
      intro o j q1 q2
      rw [up2_n _ _ q2, up2_n _ _ (Or.inl q1), up2_n _ _ (Or.inl q1), up2_n _ _ (Or.inl q1), up2_n _ _ (Or.inl q1), up2_n _ _ (Or.inl q1), up2_n _ _ (Or.inl q1), up2_n _ _ (Or.inl q1), up2_n _ _ (Or.inl q1)]
    refine ⟨fun k' j' h' => ?_, fun i' k' j' hi' h' => ?_, fun i' k' j' hi' h' => ?_, fun i' k' hi' h3' h' => ?_, fun i' k' j' hi' h' => ?_⟩
    · have b' := h'.b
      have bi := h'.i (show Wp 5 3 by unfold Wp; decide)
      by_cases q : k' = 5
      · rw [bi.mp q, q, up2_s, p3]
      · rw [far _ _ (by omega) (by omega), pf _ (fun z => q (bi.mpr z)) (by omega)]; exact w1 k' j' h'
    · have b' := h'.b; rw [far _ _ (by omega) (by omega), pf _ (by omega) (by omega)]; exact w2 i' k' j' hi' h'
    · have b' := h'.b; rw [far _ _ (by omega) (by omega), pf _ (by omega) (by omega)]; exact w3 i' k' j' hi' h'
    · rw [nT_same (pf _ (by omega) (by omega))] at h'
      rw [far _ _ (by omega) (by omega), pf _ (by omega) (by omega)]; exact w4 i' k' hi' h3' h'
    · have b' := h'.b
      by_cases q : i' = nR d
      · subst q
        have hk : k' = 0 ∨ k' = 1 ∨ k' = 2 ∨ k' = 3 ∨ k' = 4 ∨ k' = 5 ∨ k' = 6 ∨ k' = 7 := by omega
        rcases hk with rfl | rfl | rfl | rfl | rfl | rfl | rfl | rfl
        · rw [(h'.i (show Rp 0 104 by unfold Rp; decide)).mp rfl, p0]; simp (disch := omega) only [up2_n, up2_s]
        · rw [(h'.i (show Rp 1 105 by unfold Rp; decide)).mp rfl, p1]; simp (disch := omega) only [up2_n, up2_s]
        · rw [(h'.i (show Rp 2 106 by unfold Rp; decide)).mp rfl, p2]; simp (disch := omega) only [up2_n, up2_s]
        · rw [(h'.i (show Rp 3 107 by unfold Rp; decide)).mp rfl, p4]; simp (disch := omega) only [up2_n, up2_s]
        · rw [(h'.i (show Rp 4 108 by unfold Rp; decide)).mp rfl, p5]; simp (disch := omega) only [up2_n, up2_s]
        · rw [(h'.i (show Rp 5 109 by unfold Rp; decide)).mp rfl, p6]; simp (disch := omega) only [up2_n, up2_s]
        · rw [(h'.i (show Rp 6 111 by unfold Rp; decide)).mp rfl, p8]; simp (disch := omega) only [up2_n, up2_s]
        · rw [(h'.i (show Rp 7 110 by unfold Rp; decide)).mp rfl, p7]; simp (disch := omega) only [up2_n, up2_s]
      · rw [far _ _ (by omega) (by omega), pf _ (by omega) (by omega)]; exact w5 i' k' j' (by omega) h'
  · exact ((((((((hC2.up (by omega) (by omega)).up (by omega) (by omega)).up (by omega) (by omega)).up (by omega) (by omega)).up (by omega) (by omega)).up (by omega) (by omega)).up (by omega) (by omega)).up (by omega) (by omega)).up (by omega) (by omega)
  · rw [nH_same e1] at hi
    have : sHeld (sPut d (nI l) t (nI k)) (nI i) = sHeld d (nI i) := by
      unfold sHeld cnt
      rw [eR, cntF_add]
      have z1 : sHolds (sPut d (nI l) t (nI k)) (nI i) (0 + nR d) = false := by
        rw [Nat.zero_add]
        unfold sHolds sOpen
        rw [p4, decide_eq_false (by decide), Bool.false_and]
      rw [z1]
      simp only [Bool.false_eq_true, if_false, Nat.add_zero]
      refine cntF_same (fun j _ hj => ?_)
      unfold sHolds sOpen
      rw [pf _ (by omega) (by omega), pf _ (by omega) (by omega)]
    rw [this, up2_n _ _ (by omega), up2_n _ _ (by omega), up2_n _ _ (by omega), up2_n _ _ (by omega), up2_n _ _ (by omega), up2_n _ _ (by omega), up2_n _ _ (by omega), up2_n _ _ (by omega), up2_n _ _ (by omega)]
    exact hC3 i hi
end CH

