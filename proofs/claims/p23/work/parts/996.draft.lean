/-! PRUNED: of whole -/
/-- the trial world shows the draft; what is not laid yet is zero, no request is open -/
def QD (P : Nat → Int32) (ops : List Int32) (e : XD) (c : Nat → Nat → Int32) : Prop := DJ ops e ∧ CR P ops e c ∧ e 0 = nI 0 ∧ (∀ j, 12 + 6 * nH e ≤ j → j < 48 → e j = nI 0) ∧ (∀ j, 48 + 7 * nL e ≤ j → j < 104 → e j = nI 0) ∧ ∀ r, r < nR e → e (107 + 8 * r) = nI 0
section DR
variable {Y : XY} {N : XN} {w : Nat} {ops : List Int32} {e : XD} {P : Nat → Int32} {c : Nat → Nat → Int32}
theorem held0 (h : ∀ r, r < nR e → e (107 + 8 * r) = nI 0) (x : Int32) : sHeld e x = 0 := by
  unfold sHeld cnt
  refine cntF_zero (fun j _ hj => ?_)
  unfold sHolds sOpen
  rw [h j (by omega), decide_eq_false (by decide), Bool.false_and]
theorem RQ_H {H H' K t : Nat} {d : XD} {r : Nat} (hH : H ≤ H') (h : RQ H K t d r) : RQ H' K t d r := by
  obtain ⟨a1, a2, a3, a4, a5⟩ := h
  refine ⟨a1, a2, a3, a4, ?_⟩
  rcases a5 with b | ⟨b1, b2, b3⟩ | b
  · exact Or.inl b
  · refine Or.inr (Or.inl ⟨b1, ?_, b3⟩)
    rcases b2 with b2 | ⟨h, b4, b5⟩
    · exact Or.inl b2
    · exact Or.inr ⟨h, by omega, b5⟩
  · exact Or.inr (Or.inr b)
theorem RQ_L {H K K' t : Nat} {d : XD} {r : Nat} (hK : K ≤ K') (h : RQ H K t d r) : RQ H K' t d r := by
  obtain ⟨⟨l, a1, a2⟩, a3⟩ := h
  exact ⟨⟨l, by omega, a2⟩, a3⟩
theorem LN_H {H H' : Nat} {d : XD} {l : Nat} (hH : H ≤ H') (h : LN H d l) : LN H' d l := by
  obtain ⟨a1, a2, a3, a4⟩ := h
  exact ⟨a1, a2, fun k hk => by obtain ⟨x, b1, b2⟩ := a3 k hk; exact ⟨x, by omega, b2⟩, a4⟩
/-- a handler more -/
def eHd (e : XD) (x y : Int32) : XD := upd (upd (upd e (12 + 6 * nH e) x) (13 + 6 * nH e) y) 1 (nI (nH e + 1))
theorem C_addHandler (hY : WY Y w) (hQ : QD P ops e c) (h6' : nH e < 6) {x y : Int32} : ∃ c', f_X6_addHandler Y w x y (sw N w c) = some (sw N w c') ∧ QD P ops (eHd e x y) c' := by
  obtain ⟨hD, ⟨⟨w1, w2, w3, w4, w5⟩, hC2, hC3⟩, h0, z1, z2, z3⟩ := hQ
  have h6 := hD.H6
  have h8 := hD.L8
  have h60 := hD.R60
  have hc1 : c 0 1 = nI (nH e) := (w1 1 1 (by unfold Wp; decide)).trans hD.H
  have p1 : eHd e x y 1 = nI (nH e + 1) := upd_s _ _ _
  have pf : ∀ j, j ≠ 1 → j ≠ 12 + 6 * nH e → j ≠ 13 + 6 * nH e → eHd e x y j = e j := fun j a1 a2 a3 => by
    unfold eHd
    rw [upd_n a1, upd_n a3, upd_n a2]
  have p12 : eHd e x y (12 + 6 * nH e) = x := by unfold eHd; rw [upd_n (by omega), upd_n (by omega), upd_s]
  have p13 : eHd e x y (13 + 6 * nH e) = y := by unfold eHd; rw [upd_n (by omega), upd_s]
  have eH : nH (eHd e x y) = nH e + 1 := by
    show (eHd e x y 1).toNatClampNeg = _
    rw [p1]; exact nI_clamp (by omega)
  have eL : nL (eHd e x y) = nL e := nL_same (pf 2 (by omega) (by omega) (by omega))
  have eR : nR (eHd e x y) = nR e := nR_same (pf 3 (by omega) (by omega) (by omega))
  have eT : tM (eHd e x y) = tM e := tM_same (pf 0 (by omega) (by omega) (by omega))
  have z3' : ∀ r, r < nR (eHd e x y) → eHd e x y (107 + 8 * r) = nI 0 := fun r hr => by
    rw [pf _ (by omega) (by omega) (by omega)]
    exact z3 r (by omega)
  have hD' : DJ ops (eHd e x y) := by
    obtain ⟨a1, a2, a3, a4, a5, a6, a7, a8, a9⟩ := hD
    unfold DJ
    rw [eH, eL, eR, eT, pf 0 (by omega) (by omega) (by omega), p1, pf 2 (by omega) (by omega) (by omega), pf 3 (by omega) (by omega) (by omega), pf 8 (by omega) (by omega) (by omega)]
    refine ⟨⟨rfl, by omega⟩, a2, a3, a4, a5, fun i hi => ?_, fun l hl => ?_, fun r hr => ?_, ?_⟩
    · rw [pf _ (by omega) (by omega) (by omega)]
      by_cases q : i = nH e
      · left; exact z1 _ (by omega) (by omega)
      · exact a6 i (by omega)
    · exact LN_same (fun k hk => pf _ (by omega) (by omega) (by omega)) (LN_H (by omega) (a7 l hl))
    · exact RQ_same (fun k hk => pf _ (by omega) (by omega) (by omega)) (RQ_H (by omega) (a8 r hr))
    · exact MC_same (pf 11 (by omega) (by omega) (by omega)) (fun i => pf _ (by omega) (by omega) (by omega)) a9
  refine ⟨up2 (up2 (up2 (up2 (up2 (up2 (up2 (up2 c (8 + nH e) 0 x) (8 + nH e) 1 y) (8 + nH e) 2 (nI 0)) (8 + nH e) 3 (nI 0)) (8 + nH e) 4 (nI 0)) (8 + nH e) 5 (nI 0)) (8 + nH e) 6 (nI 0)) 0 1 (nI (nH e + 1)), ?_, hD', ⟨?_, ?_, fun i hi => ?_⟩, ?_, fun j hj hj2 => ?_, fun j hj hj2 => ?_, z3'⟩
  · unfold f_X6_addHandler f_X1_begin
    simp (disch := omega) only [↓lt_eq, bd, bd2, Option.bind_some, nI_lit, nI_clamp, nI_add, xb_nI, if_true, gi_sw, gi_sw0, si_sw, si_sw0, hY.g0, hY.g2, hY.g4, hY.g13, hY.g14, hY.f0, hY.f2, hY.h, hY.l, hY.t, hY.r, ↓reduceIte, pLEt, pLEf, pLTt, pLTf, pEQf, pML, pMG, pMf, pMg, hc1, up2_n]
  · rw [eH, eL, eR]
    have far : ∀ o j, o ≠ 8 + nH e → (o ≠ 0 ∨ j ≠ 1) → up2 (up2 (up2 (up2 (up2 (up2 (up2 (up2 c (8 + nH e) 0 x) (8 + nH e) 1 y) (8 + nH e) 2 (nI 0)) (8 + nH e) 3 (nI 0)) (8 + nH e) 4 (nI 0)) (8 + nH e) 5 (nI 0)) (8 + nH e) 6 (nI 0)) 0 1 (nI (nH e + 1)) o j = c o j := by
      intro o j q1 q2
      rw [up2_n _ _ q2, up2_n _ _ (Or.inl q1), up2_n _ _ (Or.inl q1), up2_n _ _ (Or.inl q1), up2_n _ _ (Or.inl q1), up2_n _ _ (Or.inl q1), up2_n _ _ (Or.inl q1), up2_n _ _ (Or.inl q1)]
    refine ⟨fun k' j' h' => ?_, fun i' k' j' hi' h' => ?_, fun i' k' j' hi' h' => ?_, fun i' k' hi' h3' h' => ?_, fun i' k' j' hi' h' => ?_⟩
    · have b' := h'.b
      have bi := h'.i (show Wp 1 1 by unfold Wp; decide)
      by_cases q : k' = 1
      · rw [bi.mp q, q, up2_s, p1]
      · rw [far _ _ (by omega) (by omega), pf _ (fun z => q (bi.mpr z)) (by omega) (by omega)]; exact w1 k' j' h'
    · have b' := h'.b
      by_cases q : i' = nH e
      · subst q
        have hk : k' = 0 ∨ k' = 1 ∨ k' = 2 ∨ k' = 4 ∨ k' = 5 ∨ k' = 6 := by omega
        rcases hk with rfl | rfl | rfl | rfl | rfl | rfl
        · rw [(h'.i (show Hp 0 12 by unfold Hp; decide)).mp rfl, p12]; simp (disch := omega) only [up2_n, up2_s]
        · rw [(h'.i (show Hp 1 13 by unfold Hp; decide)).mp rfl, p13]; simp (disch := omega) only [up2_n, up2_s]
        · rw [(h'.i (show Hp 2 14 by unfold Hp; decide)).mp rfl, pf _ (by omega) (by omega) (by omega), z1 _ (by omega) (by omega)]; simp (disch := omega) only [up2_n, up2_s]
        · rw [(h'.i (show Hp 4 15 by unfold Hp; decide)).mp rfl, pf _ (by omega) (by omega) (by omega), z1 _ (by omega) (by omega)]; simp (disch := omega) only [up2_n, up2_s]
        · rw [(h'.i (show Hp 5 16 by unfold Hp; decide)).mp rfl, pf _ (by omega) (by omega) (by omega), z1 _ (by omega) (by omega)]; simp (disch := omega) only [up2_n, up2_s]
        · rw [(h'.i (show Hp 6 17 by unfold Hp; decide)).mp rfl, pf _ (by omega) (by omega) (by omega), z1 _ (by omega) (by omega)]; simp (disch := omega) only [up2_n, up2_s]
      · rw [far _ _ (by omega) (by omega), pf _ (by omega) (by omega) (by omega)]; exact w2 i' k' j' (by omega) h'
    · have b' := h'.b; rw [far _ _ (by omega) (by omega), pf _ (by omega) (by omega) (by omega)]; exact w3 i' k' j' hi' h'
    · rw [nT_same (pf _ (by omega) (by omega) (by omega))] at h'
      rw [far _ _ (by omega) (by omega), pf _ (by omega) (by omega) (by omega)]; exact w4 i' k' hi' h3' h'
    · have b' := h'.b; rw [far _ _ (by omega) (by omega), pf _ (by omega) (by omega) (by omega)]; exact w5 i' k' j' hi' h'
  · exact (((((((hC2.up (by omega) (by omega)).up (by omega) (by omega)).up (by omega) (by omega)).up (by omega) (by omega)).up (by omega) (by omega)).up (by omega) (by omega)).up (by omega) (by omega)).up (by omega) (by omega)
  · rw [eH] at hi
    rw [held0 z3']
    by_cases q : i = nH e
    · rw [q]; simp (disch := omega) only [up2_n, up2_s]
    · rw [up2_n _ _ (by omega), up2_n _ _ (by omega), up2_n _ _ (by omega), up2_n _ _ (by omega), up2_n _ _ (by omega), up2_n _ _ (by omega), up2_n _ _ (by omega), up2_n _ _ (by omega), hC3 i (by omega), held0 z3]
  · rw [pf _ (by omega) (by omega) (by omega)]; exact h0
  · rw [eH] at hj
    rw [pf _ (by omega) (by omega) (by omega)]; exact z1 j (by omega) hj2
  · rw [eL] at hj
    rw [pf _ (by omega) (by omega) (by omega)]; exact z2 j hj hj2
/-- a line more, with no tenants yet -/
def eLn (e : XD) (x y z : Int32) : XD := upd (upd (upd (upd e (48 + 7 * nL e) x) (49 + 7 * nL e) y) (50 + 7 * nL e) z) 2 (nI (nL e + 1))
theorem C_addLine (hY : WY Y w) (hQ : QD P ops e c) (h8' : nL e < 8) {x y z : Int32} : ∃ c', f_X6_addLine Y w x y z (sw N w c) = some (sw N w c') ∧ QD P ops (eLn e x y z) c' := by
  obtain ⟨hD, ⟨⟨w1, w2, w3, w4, w5⟩, hC2, hC3⟩, h0, z1, z2, z3⟩ := hQ
  have h6 := hD.H6
  have h8 := hD.L8
  have h60 := hD.R60
  have hc3 : c 0 3 = nI (nL e) := (w1 3 2 (by unfold Wp; decide)).trans hD.L
  have p2 : eLn e x y z 2 = nI (nL e + 1) := upd_s _ _ _
  have pf : ∀ j, j ≠ 2 → j ≠ 48 + 7 * nL e → j ≠ 49 + 7 * nL e → j ≠ 50 + 7 * nL e → eLn e x y z j = e j := fun j a1 a2 a3 a4 => by
    unfold eLn
    rw [upd_n a1, upd_n a4, upd_n a3, upd_n a2]
  have p48 : eLn e x y z (48 + 7 * nL e) = x := by unfold eLn; rw [upd_n (by omega), upd_n (by omega), upd_n (by omega), upd_s]
  have p49 : eLn e x y z (49 + 7 * nL e) = y := by unfold eLn; rw [upd_n (by omega), upd_n (by omega), upd_s]
  have p50 : eLn e x y z (50 + 7 * nL e) = z := by unfold eLn; rw [upd_n (by omega), upd_s]
  have p51 : eLn e x y z (51 + 7 * nL e) = nI 0 := by rw [pf _ (by omega) (by omega) (by omega) (by omega)]; exact z2 _ (by omega) (by omega)
  have eL : nL (eLn e x y z) = nL e + 1 := by
    show (eLn e x y z 2).toNatClampNeg = _
    rw [p2]; exact nI_clamp (by omega)
  have eH : nH (eLn e x y z) = nH e := nH_same (pf 1 (by omega) (by omega) (by omega) (by omega))
  have eR : nR (eLn e x y z) = nR e := nR_same (pf 3 (by omega) (by omega) (by omega) (by omega))
  have eT : tM (eLn e x y z) = tM e := tM_same (pf 0 (by omega) (by omega) (by omega) (by omega))
  have t0 : nT (eLn e x y z) (nL e) = 0 := by
    unfold nT
    rw [p51]; exact nI_clamp (by omega)
  have z3' : ∀ r, r < nR (eLn e x y z) → eLn e x y z (107 + 8 * r) = nI 0 := fun r hr => by
    rw [pf _ (by omega) (by omega) (by omega) (by omega)]
    exact z3 r (by omega)
  have hD' : DJ ops (eLn e x y z) := by
    obtain ⟨a1, a2, a3, a4, a5, a6, a7, a8, a9⟩ := hD
    unfold DJ
    rw [eH, eL, eR, eT, pf 0 (by omega) (by omega) (by omega) (by omega), p2, pf 1 (by omega) (by omega) (by omega) (by omega), pf 3 (by omega) (by omega) (by omega) (by omega), pf 8 (by omega) (by omega) (by omega) (by omega)]
    refine ⟨a1, ⟨rfl, by omega⟩, a3, a4, a5, fun i hi => ?_, fun l hl => ?_, fun r hr => ?_, ?_⟩
    · rw [pf _ (by omega) (by omega) (by omega) (by omega)]; exact a6 i hi
    · by_cases q : l = nL e
      · subst q
        unfold LN
        rw [t0, p51]
        exact ⟨rfl, by omega, fun k hk => by omega, fun j k _ hk => by omega⟩
      · exact LN_same (fun k hk => pf _ (by omega) (by omega) (by omega) (by omega)) (a7 l (by omega))
    · exact RQ_same (fun k hk => pf _ (by omega) (by omega) (by omega) (by omega)) (RQ_L (by omega) (a8 r hr))
    · exact MC_same (pf 11 (by omega) (by omega) (by omega) (by omega)) (fun i => pf _ (by omega) (by omega) (by omega) (by omega)) a9
  refine ⟨up2 (up2 (up2 (up2 (up2 c (14 + 2 * nL e) 0 x) (14 + 2 * nL e) 1 y) (14 + 2 * nL e) 2 z) (14 + 2 * nL e) 4 (nI 0)) 0 3 (nI (nL e + 1)), ?_, hD', ⟨?_, ?_, fun i hi => ?_⟩, ?_, fun j hj hj2 => ?_, fun j hj hj2 => ?_, z3'⟩
  · unfold f_X6_addLine f_X2_begin
    simp (disch := omega) only [↓lt_eq, bd, bd2, Option.bind_some, nI_lit, nI_clamp, nI_add, xb_nI, if_true, gi_sw, gi_sw0, si_sw, si_sw0, hY.g0, hY.g2, hY.g4, hY.g13, hY.g14, hY.f0, hY.f2, hY.h, hY.l, hY.t, hY.r, ↓reduceIte, pLEt, pLEf, pLTt, pLTf, pEQf, pML, pMG, pMf, pMg, hc3, up2_n]
  · rw [eH, eL, eR]
    have far : ∀ o j, o ≠ 14 + 2 * nL e → (o ≠ 0 ∨ j ≠ 3) → up2 (up2 (up2 (up2 (up2 c (14 + 2 * nL e) 0 x) (14 + 2 * nL e) 1 y) (14 + 2 * nL e) 2 z) (14 + 2 * nL e) 4 (nI 0)) 0 3 (nI (nL e + 1)) o j = c o j := by
      intro o j q1 q2
      rw [up2_n _ _ q2, up2_n _ _ (Or.inl q1), up2_n _ _ (Or.inl q1), up2_n _ _ (Or.inl q1), up2_n _ _ (Or.inl q1)]
    refine ⟨fun k' j' h' => ?_, fun i' k' j' hi' h' => ?_, fun i' k' j' hi' h' => ?_, fun i' k' hi' h3' h' => ?_, fun i' k' j' hi' h' => ?_⟩
    · have b' := h'.b
      have bi := h'.i (show Wp 3 2 by unfold Wp; decide)
      by_cases q : k' = 3
      · rw [bi.mp q, q, up2_s, p2]
      · rw [far _ _ (by omega) (by omega), pf _ (fun z => q (bi.mpr z)) (by omega) (by omega) (by omega)]; exact w1 k' j' h'
    · have b' := h'.b; rw [far _ _ (by omega) (by omega), pf _ (by omega) (by omega) (by omega) (by omega)]; exact w2 i' k' j' hi' h'
    · have b' := h'.b
      by_cases q : i' = nL e
      · subst q
        have hk : k' = 0 ∨ k' = 1 ∨ k' = 2 ∨ k' = 4 := by omega
        rcases hk with rfl | rfl | rfl | rfl
        · rw [(h'.i (show Lp 0 48 by unfold Lp; decide)).mp rfl, p48]; simp (disch := omega) only [up2_n, up2_s]
        · rw [(h'.i (show Lp 1 49 by unfold Lp; decide)).mp rfl, p49]; simp (disch := omega) only [up2_n, up2_s]
        · rw [(h'.i (show Lp 2 50 by unfold Lp; decide)).mp rfl, p50]; simp (disch := omega) only [up2_n, up2_s]
        · rw [(h'.i (show Lp 4 51 by unfold Lp; decide)).mp rfl, p51]; simp (disch := omega) only [up2_n, up2_s]
      · rw [far _ _ (by omega) (by omega), pf _ (by omega) (by omega) (by omega) (by omega)]; exact w3 i' k' j' (by omega) h'
    · by_cases q : i' = nL e
      · rw [q, t0] at h'; omega
      · rw [nT_same (pf _ (by omega) (by omega) (by omega) (by omega))] at h'
        rw [far _ _ (by omega) (by omega), pf _ (by omega) (by omega) (by omega) (by omega)]; exact w4 i' k' (by omega) h3' h'
    · have b' := h'.b; rw [far _ _ (by omega) (by omega), pf _ (by omega) (by omega) (by omega) (by omega)]; exact w5 i' k' j' hi' h'
  · exact ((((hC2.up (by omega) (by omega)).up (by omega) (by omega)).up (by omega) (by omega)).up (by omega) (by omega)).up (by omega) (by omega)
  · rw [eH] at hi
    rw [held0 z3', up2_n _ _ (by omega), up2_n _ _ (by omega), up2_n _ _ (by omega), up2_n _ _ (by omega), up2_n _ _ (by omega), hC3 i hi, held0 z3]
  · rw [pf _ (by omega) (by omega) (by omega) (by omega)]; exact h0
  · rw [eH] at hj
    rw [pf _ (by omega) (by omega) (by omega) (by omega)]; exact z1 j hj hj2
  · rw [eL] at hj
    rw [pf _ (by omega) (by omega) (by omega) (by omega)]; exact z2 j (by omega) hj2
/-- a request more -/
theorem C_addReq (hY : WY Y w) (hQ : QD P ops e c) {l k : Nat} {x : Int32} (hl : l < nL e) (hk : k ≤ 99) (h60 : nR e < 60) : ∃ c', f_X6_addRequest Y w (nI l) x (nI k) (sw N w c) = some (sw N w c') ∧ QD P ops (sPut e (nI l) x (nI k)) c' := by
  obtain ⟨hD, hC, h0, z1, z2, z3⟩ := hQ
  have h6 := hD.H6
  have h8 := hD.L8
  obtain ⟨c', f1, f2⟩ := C_addRequest (N := N) hY hD hC (k := k) (t := x) hl h60
  obtain ⟨p3, pf, -, -, -, p4, -⟩ := sPut_at (d := e) (nI l) x (nI k)
  obtain ⟨d1, d2⟩ := hD.put (t := x) hl hk h60
  refine ⟨c', f1, d1, f2, ?_, fun j a1 a2 => ?_, fun j a1 a2 => ?_, fun r hr => ?_⟩
  · rw [pf _ (by omega) (by omega)]; exact h0
  · rw [nH_same (pf 1 (by omega) (by omega))] at a1
    rw [pf _ (by omega) (by omega)]; exact z1 j a1 a2
  · rw [nL_same (pf 2 (by omega) (by omega))] at a1
    rw [pf _ (by omega) (by omega)]; exact z2 j a1 a2
  · rw [d2] at hr
    by_cases q : r = nR e
    · rw [q]; exact p4
    · rw [pf _ (by omega) (by omega)]; exact z3 r (by omega)
end DR

