/-! PRUNED: of whole -/
section CC4
variable {P : Nat → Int32} {Y : XY} {w : Nat} {N : XN} {c : Nat → Nat → Int32} {d : XD} {ops : List Int32}
theorem i32_add0 (a : Int32) : a + nI 0 = a := by
  have : a + 0 = a := by simp
  exact this
theorem CR.pay {Q : Nat → Int32} (h : CR P ops d c) {k : Nat} {v : Int32} (hk : k < 3) (hQ : ∀ j, j < 3 → Q j = if j = k then v else P j) (h6 : nH d ≤ 6) : CR Q ops d (up2 c 7 k v) := by
  obtain ⟨h1, ⟨⟨h2, h3⟩, h4⟩, h5⟩ := h
  refine ⟨h1.junk h6 (by omega), ⟨⟨by rw [up2_n _ _ (by omega)]; exact h2, fun i hi => by rw [up2_n _ _ (by omega)]; exact h3 i hi⟩, fun j hj => ?_⟩, fun i hi => by rw [up2_n _ _ (by omega)]; exact h5 i hi⟩
  rw [hQ j hj]
  by_cases q : j = k
  · rw [q, up2_s, if_pos rfl]
  · rw [if_neg q, up2_n _ _ (by omega)]; exact h4 j hj
theorem C_rent_B (hY : WY Y w) {l many : Nat} (hl : l < 8) (h3 : many ≤ 3) {rent : Int32} {H : Nat} (hP : ∀ k, k < many → ∃ h, h < H ∧ P k = nI h) : ∀ (z i D9 : Nat) (e : XD) (c : Nat → Nat → Int32), DJ ops e → CR P ops e c → nH e = H → l < nL e → i + z = many → z < D9 → ∃ c', f_X6_chargeRent_57 Y D9 w (w + (14 + 2 * l)) (nI many) (rent / nI many) (rent - rent / nI many * nI many) (nI i) (sw N w c) = some (sw N w c') ∧ CR P ops (fo (sRentF rent l many P) i z e) c' := by
  intro z
  induction z with
  | zero =>
    intro i D9 e c hE hC hH hL hi hD9
    obtain ⟨D8, rfl⟩ : ∃ z, D9 = z + 1 := ⟨D9 - 1, by omega⟩
    refine ⟨c, ?_, hC⟩
    rw [f_X6_chargeRent_57]
    simp (disch := omega) only [↓lt_eq, bd, bd2, Option.bind_some, nI_lit, nI_clamp, nI_add, xb_nI, if_true, gi_sw, gi_sw0, si_sw, si_sw0, hY.g0, hY.g2, hY.g4, hY.g13, hY.g14, hY.f0, hY.f2, hY.h, hY.l, hY.t, hY.r, ↓reduceIte, pLEt, pLEf, pLTt, pLTf, pEQf, pML, pMG, pMf, pMg]
  | succ z ih =>
    intro i D9 e c hE hC hH hL hi hD9
    obtain ⟨D8, rfl⟩ : ∃ z, D9 = z + 1 := ⟨D9 - 1, by omega⟩
    have h6 := hE.H6
    obtain ⟨h, h1, h2⟩ := hP i (by omega)
    have hh : h < nH e := by rw [hH]; exact h1
    obtain ⟨a1, a2⟩ := hE.rentF (rent := rent) (l := l) (many := many) (P := P) (k := i) (by rw [hH]; exact ⟨h, h1, h2⟩)
    have IH := fun c' hc' => ih (i + 1) D8 _ c' a1 hc' (a2.H.trans hH) (by rw [a2.L]; exact hL) (by omega) (by omega)
    obtain ⟨t1, t2, -, -⟩ := hE.ln l hL
    have pi : c 7 i = nI h := (hC.2.1.2 i (by omega)).trans h2
    have hsh : f_X6_hasHandler Y w (nI h) (sw N w c) = nI 1 := hC.1.hsH hE.H h6 hh
    have mi := C_placeOf (N := N) hY hC.1 (h := nI h) hL hE.L8 t1 (Nat.le_refl _) t2
    rw [f_X6_chargeRent_57, fo]
    unfold sRentF at IH ⊢
    rw [h2] at IH ⊢
    by_cases q : (sTP e l (nI h)).isSome = true
    · have q0 : (pI (sTP e l (nI h)) < nI 0) = False := eq_false (fun z => by rw [(pI_neg _ sTP_lt).1.mp z] at q; cases q)
      rw [if_pos q, nI_clamp (n := h) (by omega)] at IH ⊢
      have pay : ∀ amt, ∃ c1, f_X6_takeFrom Y w (nI h) amt (sw N w c) = some (mn amt (e (12 + 6 * h)), sw N w c1) ∧ CR P ops (sMustPay e h amt 4 4) (up2 (up2 c1 (8 + h) 5 (c1 (8 + h) 5 + mn amt (e (12 + 6 * h)))) 0 7 (c1 0 7 + mn amt (e (12 + 6 * h)))) := by
        intro amt
        obtain ⟨c1, f1, f2⟩ := C_takeFrom (N := N) hY hE hC (h := h) (amt := amt) hh
        have hD2 := hE.take (h := h) (amt := amt) hh
        obtain ⟨z1, z2, z3, z4⟩ := sTake_kept hE (h := h) (amt := amt) hh
        have l5 : c1 (8 + h) 5 = e (16 + 6 * h) := by rw [f2.1.h5 (by rw [z1]; exact hh), sTake_far hE hh (by omega)]
        have l7 : c1 0 7 = e 4 := by rw [f2.1.w7, sTake_far hE hh (by omega)]
        have C3 := f2.free_h hD2 (i := h) (k := 5) (j := 16) (v := e (16 + 6 * h) + mn amt (e (12 + 6 * h))) (by rw [z1]; exact hh) (by unfold Hp; decide)
        have hD3 : DJ ops (upd (sTake e h amt) (16 + 6 * h) (e (16 + 6 * h) + mn amt (e (12 + 6 * h)))) := DJ_F hD2 (fun j hj => by unfold FX at hj; exact upd_n (by omega))
        have C4 := C3.free_w hD3 (k := 7) (j := 4) (v := e 4 + mn amt (e (12 + 6 * h))) (by unfold Wp; decide) (by omega) (by omega) (by omega)
        have em := sMustPay_take hE (h := h) (acc := 4) (to := 4) (amt := amt) (Or.inr rfl) (Or.inl rfl) hh
        rw [show 12 + 6 * h + 4 = 16 + 6 * h by omega] at em
        rw [← em] at C4
        exact ⟨c1, f1, by rw [l5, l7]; exact C4⟩
      unfold sShare at IH ⊢
      by_cases q3 : rent - rent / nI many * nI many ≤ nI i
      · rw [if_pos q3, i32_add0] at IH ⊢
        obtain ⟨c1, p1, p2⟩ := pay (rent / nI many)
        obtain ⟨c2, f1, f2⟩ := IH _ p2
        refine ⟨c2, ?_, f2⟩
        simp (disch := omega) only [↓lt_eq, bd, bd2, Option.bind_some, nI_lit, nI_clamp, nI_add, xb_nI, if_true, gi_sw, gi_sw0, si_sw, si_sw0, hY.g0, hY.g2, hY.g4, hY.g13, hY.g14, hY.f0, hY.f2, hY.h, hY.l, hY.t, hY.r, ↓reduceIte, pLEt, pLEf, pLTt, pLTf, pEQf, pML, pMG, pMf, pMg, pi, hsh, mi, q0, eq_true q3, p1, up2_n]
        exact f1
      · rw [if_neg q3] at IH ⊢
        obtain ⟨c1, p1, p2⟩ := pay (rent / nI many + nI 1)
        obtain ⟨c2, f1, f2⟩ := IH _ p2
        refine ⟨c2, ?_, f2⟩
        simp (disch := omega) only [↓lt_eq, bd, bd2, Option.bind_some, nI_lit, nI_clamp, nI_add, xb_nI, if_true, gi_sw, gi_sw0, si_sw, si_sw0, hY.g0, hY.g2, hY.g4, hY.g13, hY.g14, hY.f0, hY.f2, hY.h, hY.l, hY.t, hY.r, ↓reduceIte, pLEt, pLEf, pLTt, pLTf, pEQf, pML, pMG, pMf, pMg, pi, hsh, mi, q0, eq_false q3, p1, up2_n]
        exact f1
    · have q0 : (pI (sTP e l (nI h)) < nI 0) = True := eq_true ((pI_neg _ sTP_lt).1.mpr (by cases z : sTP e l (nI h) with | none => rfl | some k => rw [z] at q; exact absurd rfl q))
      rw [if_neg q] at IH ⊢
      obtain ⟨c2, f1, f2⟩ := IH c hC
      refine ⟨c2, ?_, f2⟩
      simp (disch := omega) only [↓lt_eq, bd, bd2, Option.bind_some, nI_lit, nI_clamp, nI_add, xb_nI, if_true, gi_sw, gi_sw0, si_sw, si_sw0, hY.g0, hY.g2, hY.g4, hY.g13, hY.g14, hY.f0, hY.f2, hY.h, hY.l, hY.t, hY.r, ↓reduceIte, pLEt, pLEf, pLTt, pLTf, pEQf, pML, pMG, pMf, pMg, pi, hsh, mi, q0]
      exact f1
theorem C_rent_A (hY : WY Y w) (hD : DJ ops d) {l : Nat} (hl : l < nL d) {Q : Nat → Int32} (hQ : ∀ k, k < nT d l → Q k = d (52 + 7 * l + k)) : ∀ (z i D9 : Nat) (P : Nat → Int32) (c : Nat → Nat → Int32), CR P ops d c → (∀ k, k < 3 → k < i ∨ nT d l ≤ k → P k = Q k) → i + z = nT d l → z < D9 → ∃ c', f_X6_chargeRent_28 Y D9 w (w + (14 + 2 * l)) (nI (nT d l)) (d (48 + 7 * l) / nI (nT d l)) (d (48 + 7 * l) - d (48 + 7 * l) / nI (nT d l) * nI (nT d l)) (nI i) (sw N w c) = some (sw N w c') ∧ CR Q ops (sRent d l) c' := by
  have h6 := hD.H6
  have h8 := hD.L8
  obtain ⟨t1, t2, t3, -⟩ := hD.ln l hl
  intro z
  induction z with
  | zero =>
    intro i D9 P c hC hP hi hD9
    obtain ⟨D8, rfl⟩ : ∃ z, D9 = z + 1 := ⟨D9 - 1, by omega⟩
    have hCQ : CR Q ops d c := ⟨hC.1, ⟨hC.2.1.1, fun k hk => (hC.2.1.2 k hk).trans (hP k hk (by omega))⟩, hC.2.2⟩
    obtain ⟨c2, f1, f2⟩ := C_rent_B (N := N) (P := Q) hY (l := l) (many := nT d l) (rent := d (48 + 7 * l)) (by omega) t2 (H := nH d) (fun k hk => by rw [hQ k hk]; exact t3 k hk) (nT d l) 0 FU d c hD hCQ rfl hl (Nat.zero_add _) (by unfold FU; omega)
    refine ⟨c2, ?_, ?_⟩
    · rw [f_X6_chargeRent_28]
      simp (disch := omega) only [↓lt_eq, bd, bd2, Option.bind_some, nI_lit, nI_clamp, nI_add, xb_nI, if_true, gi_sw, gi_sw0, si_sw, si_sw0, hY.g0, hY.g2, hY.g4, hY.g13, hY.g14, hY.f0, hY.f2, hY.h, hY.l, hY.t, hY.r, ↓reduceIte, pLEt, pLEf, pLTt, pLTf, pEQf, pML, pMG, pMf, pMg]
      exact f1
    · unfold sRent
      have : fo (sRentF (d (48 + 7 * l)) l (nT d l) Q) 0 (nT d l) d = fo (sRentF (d (48 + 7 * l)) l (nT d l) (fun k => d (52 + 7 * l + k))) 0 (nT d l) d := fo_cong (fun k s _ hk => by unfold sRentF; rw [hQ k (by omega)])
      rw [← this]
      exact f2
  | succ z ih =>
    intro i D9 P c hC hP hi hD9
    obtain ⟨D8, rfl⟩ : ∃ z, D9 = z + 1 := ⟨D9 - 1, by omega⟩
    obtain ⟨c2, f1, f2⟩ := ih (i + 1) D8 (fun j => if j = i then d (52 + 7 * l + i) else P j) (up2 c 7 i (d (52 + 7 * l + i))) (hC.pay (by omega) (fun _ _ => rfl) h6) (fun k hk hk2 => by
      by_cases q : k = i
      · subst q
        simp only [if_true]
        exact (hQ k (by omega)).symm
      · simp only [if_neg q]
        exact hP k hk (by omega)) (by omega) (by omega)
    refine ⟨c2, ?_, f2⟩
    rw [f_X6_chargeRent_28]
    simp (disch := omega) only [↓lt_eq, bd, bd2, Option.bind_some, nI_lit, nI_clamp, nI_add, xb_nI, if_true, gi_sw, gi_sw0, si_sw, si_sw0, hY.g0, hY.g2, hY.g4, hY.g13, hY.g14, hY.f0, hY.f2, hY.h, hY.l, hY.t, hY.r, ↓reduceIte, pLEt, pLEf, pLTt, pLTf, pEQf, pML, pMG, pMf, pMg, hC.1.t]
    exact f1
theorem C_chargeRent (hY : WY Y w) (hD : DJ ops d) (hC : CR P ops d c) {l : Nat} (hl : l < nL d) : ∃ Q c', f_X6_chargeRent Y w (w + (14 + 2 * l)) (sw N w c) = some (sw N w c') ∧ CR Q ops (sRent d l) c' := by
  have h8 := hD.L8
  obtain ⟨t1, t2, t3, -⟩ := hD.ln l hl
  unfold f_X6_chargeRent
  by_cases q : nT d l = 0
  · refine ⟨P, c, ?_, ?_⟩
    · have : (nI (nT d l) = nI 0) = True := by rw [q]; exact eq_true rfl
      simp (disch := omega) only [↓lt_eq, bd, bd2, Option.bind_some, nI_lit, nI_clamp, nI_add, xb_nI, if_true, gi_sw, gi_sw0, si_sw, si_sw0, hY.g0, hY.g2, hY.g4, hY.g13, hY.g14, hY.f0, hY.f2, hY.h, hY.l, hY.t, hY.r, ↓reduceIte, pLEt, pLEf, pLTt, pLTf, pEQf, pML, pMG, pMf, pMg, hC.1.l4, t1, this]
    · unfold sRent
      rw [q]
      exact hC
  · obtain ⟨c2, f1, f2⟩ := C_rent_A (N := N) hY hD hl (Q := fun k => if k < nT d l then d (52 + 7 * l + k) else P k) (fun k hk => if_pos hk) (nT d l) 0 FU P c hC (fun k hk hk2 => by
      have : ¬ k < nT d l := by omega
      simp only [if_neg this]) (Nat.zero_add _) (by unfold FU; omega)
    refine ⟨_, c2, ?_, f2⟩
    simp (disch := omega) only [↓lt_eq, bd, bd2, Option.bind_some, nI_lit, nI_clamp, nI_add, xb_nI, if_true, gi_sw, gi_sw0, si_sw, si_sw0, hY.g0, hY.g2, hY.g4, hY.g13, hY.g14, hY.f0, hY.f2, hY.h, hY.l, hY.t, hY.r, ↓reduceIte, pLEt, pLEf, pLTt, pLTf, pEQf, pML, pMG, pMf, pMg, hC.1.l4, t1, hC.1.l0]
    exact f1
theorem C_tick_4 (hY : WY Y w) : ∀ (z i D9 : Nat) (e : XD) (P : Nat → Int32) (c : Nat → Nat → Int32), DJ ops e → CR P ops e c → i + z = nL e → z < D9 → ∃ Q c', f_X6_passTick_181 Y D9 w (nI i) (sw N w c) = some (sw N w c') ∧ CR Q ops (sT5 (fo (fun l e => sRent e l) i z e)) c' := by
  intro z
  induction z with
  | zero =>
    intro i D9 e P c hE hC hi hD9
    have h8 := hE.L8
    obtain ⟨D8, rfl⟩ : ∃ z, D9 = z + 1 := ⟨D9 - 1, by omega⟩
    refine ⟨P, _, ?_, C_tick_5 hC hE⟩
    rw [f_X6_passTick_181]
    simp (disch := omega) only [↓lt_eq, bd, bd2, Option.bind_some, nI_lit, nI_clamp, nI_add, xb_nI, if_true, gi_sw, gi_sw0, si_sw, si_sw0, hY.g0, hY.g2, hY.g4, hY.g13, hY.g14, hY.f0, hY.f2, hY.h, hY.l, hY.t, hY.r, ↓reduceIte, pLEt, pLEf, pLTt, pLTf, pEQf, pML, pMG, pMf, pMg, hC.1.w3, hE.L, hC.1.w6]
    rfl
  | succ z ih =>
    intro i D9 e P c hE hC hi hD9
    have h8 := hE.L8
    obtain ⟨D8, rfl⟩ : ∃ z, D9 = z + 1 := ⟨D9 - 1, by omega⟩
    obtain ⟨Q1, c1, b1, b2⟩ := C_chargeRent (N := N) hY hE hC (l := i) (by omega)
    obtain ⟨a1, a2⟩ := hE.rent (l := i) (by omega)
    obtain ⟨Q2, c2, f1, f2⟩ := ih (i + 1) D8 (sRent e i) Q1 c1 a1 b2 (by rw [a2.L]; omega) (by omega)
    refine ⟨Q2, c2, ?_, f2⟩
    rw [f_X6_passTick_181]
    simp (disch := omega) only [↓lt_eq, bd, bd2, Option.bind_some, nI_lit, nI_clamp, nI_add, xb_nI, if_true, gi_sw, gi_sw0, si_sw, si_sw0, hY.g0, hY.g2, hY.g4, hY.g13, hY.g14, hY.f0, hY.f2, hY.h, hY.l, hY.t, hY.r, ↓reduceIte, pLEt, pLEf, pLTt, pLTf, pEQf, pML, pMG, pMf, pMg, hC.1.w3, hE.L, b1]
    exact f1
theorem C_tick_3 (hY : WY Y w) : ∀ (z i D9 : Nat) (e : XD) (P : Nat → Int32) (c : Nat → Nat → Int32), DJ ops e → tM e ≤ 1000000 → CR P ops e c → i + z = nR e → z < D9 → ∃ Q c', f_X6_passTick_101 Y D9 w (nI i) (sw N w c) = some (sw N w c') ∧ CR Q ops (if (fo (sT3F ops) i z e 0 + nI 1) - (fo (sT3F ops) i z e 0 + nI 1) / fo (sT3F ops) i z e 8 * fo (sT3F ops) i z e 8 = nI 0 then sT5 (sT4 (fo (sT3F ops) i z e)) else sT5 (fo (sT3F ops) i z e)) c' := by
  intro z
  induction z with
  | zero =>
    intro i D9 e P c hE hT hC hi hD9
    have h60 := hE.R60
    obtain ⟨p, p1, p2, p3⟩ := hE.P
    obtain ⟨D8, rfl⟩ : ∃ z, D9 = z + 1 := ⟨D9 - 1, by omega⟩
    rw [f_X6_passTick_101]
    by_cases q : (e 0 + nI 1) - (e 0 + nI 1) / e 8 * e 8 = nI 0
    · obtain ⟨Q2, c2, f1, f2⟩ := C_tick_4 (N := N) hY (nL e) 0 FU e P c hE hC (Nat.zero_add _) (by have := hE.L8; unfold FU; omega)
      refine ⟨Q2, c2, ?_, ?_⟩
      · rw [p3] at q
        simp (disch := omega) only [↓lt_eq, bd, bd2, Option.bind_some, nI_lit, nI_clamp, nI_add, xb_nI, if_true, gi_sw, gi_sw0, si_sw, si_sw0, hY.g0, hY.g2, hY.g4, hY.g13, hY.g14, hY.f0, hY.f2, hY.h, hY.l, hY.t, hY.r, ↓reduceIte, pLEt, pLEf, pLTt, pLTf, pEQf, pML, pMG, pMf, pMg, hC.1.w5, hE.R, hC.1.w11, p3, hC.1.w6, eq_true q]
        exact f1
      · show CR _ ops (if (e 0 + nI 1) - (e 0 + nI 1) / e 8 * e 8 = nI 0 then _ else _) _
        rw [if_pos q]
        exact f2
    · refine ⟨P, up2 c 0 6 (e 0 + nI 1), ?_, ?_⟩
      rotate_left
      · show CR _ ops (if (e 0 + nI 1) - (e 0 + nI 1) / e 8 * e 8 = nI 0 then _ else _) _
        rw [if_neg q]
        exact C_tick_5 hC hE
      · rw [p3] at q
        simp (disch := omega) only [↓lt_eq, bd, bd2, Option.bind_some, nI_lit, nI_clamp, nI_add, xb_nI, if_true, gi_sw, gi_sw0, si_sw, si_sw0, hY.g0, hY.g2, hY.g4, hY.g13, hY.g14, hY.f0, hY.f2, hY.h, hY.l, hY.t, hY.r, ↓reduceIte, pLEt, pLEf, pLTt, pLTf, pEQf, pML, pMG, pMf, pMg, hC.1.w5, hE.R, hC.1.w11, p3, hC.1.w6, eq_false q]
  | succ z ih =>
    intro i D9 e P c hE hT hC hi hD9
    have h60 := hE.R60
    have h6 := hE.H6
    obtain ⟨D8, rfl⟩ : ∃ z, D9 = z + 1 := ⟨D9 - 1, by omega⟩
    obtain ⟨a1, a2⟩ := t3F_keep hE (r := i) (by omega)
    have IH := fun c' hc' => ih (i + 1) D8 (sT3F ops i e) P c' a1 (by rw [a2.T]; exact hT) hc' (by rw [a2.R]; omega) (by omega)
    rw [f_X6_passTick_101, fo]
    unfold sT3F at IH ⊢
    by_cases q : sOpen e i = true
    · have qo : e (107 + 8 * i) = nI 1 := of_decide_eq_true q
      by_cases q2 : e (108 + 8 * i) = -nI 1
      · rw [if_pos q, if_pos q2] at IH ⊢
        obtain ⟨Q2, c2, f1, f2⟩ := IH c hC
        refine ⟨Q2, c2, ?_, f2⟩
        simp (disch := omega) only [↓lt_eq, bd, bd2, Option.bind_some, nI_lit, nI_clamp, nI_add, xb_nI, if_true, gi_sw, gi_sw0, si_sw, si_sw0, hY.g0, hY.g2, hY.g4, hY.g13, hY.g14, hY.f0, hY.f2, hY.h, hY.l, hY.t, hY.r, ↓reduceIte, pLEt, pLEf, pLTt, pLTf, pEQf, pML, pMG, pMf, pMg, hC.1.w5, hE.R, hC.1.r3, hC.1.r4, eq_true qo, q2]
        exact f1
      · rw [if_pos q, if_neg q2] at IH ⊢
        obtain ⟨k1, k2⟩ := holder_of hE (r := i) (by omega) qo q2
        by_cases q3 : e 5 ≤ e 0 - e (111 + 8 * i)
        · unfold sFine at IH ⊢
          rw [if_pos q3] at IH ⊢
          obtain ⟨c1, b1, b2⟩ := C_chargeFine (N := N) hY hE hC hT (r := i) (by omega) qo q2
          obtain ⟨Q2, c2, f1, f2⟩ := IH c1 b2
          refine ⟨Q2, c2, ?_, f2⟩
          have q4 : (e 0 - e (111 + 8 * i) < e 5) = False := eq_false (fun z => by rw [Int32.lt_iff_toInt_lt] at z; rw [Int32.le_iff_toInt_le] at q3; omega)
          simp (disch := omega) only [↓lt_eq, bd, bd2, Option.bind_some, nI_lit, nI_clamp, nI_add, xb_nI, if_true, gi_sw, gi_sw0, si_sw, si_sw0, hY.g0, hY.g2, hY.g4, hY.g13, hY.g14, hY.f0, hY.f2, hY.h, hY.l, hY.t, hY.r, ↓reduceIte, pLEt, pLEf, pLTt, pLTf, pEQf, pML, pMG, pMf, pMg, hC.1.w5, hE.R, hC.1.r3, hC.1.r4, eq_true qo, k2, hC.1.w6, hC.1.r6, hC.1.w8, q4, b1]
          exact f1
        · unfold sFine at IH ⊢
          rw [if_neg q3] at IH ⊢
          obtain ⟨Q2, c2, f1, f2⟩ := IH c hC
          refine ⟨Q2, c2, ?_, f2⟩
          have q4 : (e 0 - e (111 + 8 * i) < e 5) = True := eq_true (by rw [Int32.lt_iff_toInt_lt]; rw [Int32.le_iff_toInt_le] at q3; omega)
          simp (disch := omega) only [↓lt_eq, bd, bd2, Option.bind_some, nI_lit, nI_clamp, nI_add, xb_nI, if_true, gi_sw, gi_sw0, si_sw, si_sw0, hY.g0, hY.g2, hY.g4, hY.g13, hY.g14, hY.f0, hY.f2, hY.h, hY.l, hY.t, hY.r, ↓reduceIte, pLEt, pLEf, pLTt, pLTf, pEQf, pML, pMG, pMf, pMg, hC.1.w5, hE.R, hC.1.r3, hC.1.r4, eq_true qo, k2, hC.1.w6, hC.1.r6, hC.1.w8, q4]
          exact f1
    · have qo : ¬ e (107 + 8 * i) = nI 1 := fun z => q (decide_eq_true z)
      rw [if_neg q] at IH ⊢
      obtain ⟨Q2, c2, f1, f2⟩ := IH c hC
      refine ⟨Q2, c2, ?_, f2⟩
      simp (disch := omega) only [↓lt_eq, bd, bd2, Option.bind_some, nI_lit, nI_clamp, nI_add, xb_nI, if_true, gi_sw, gi_sw0, si_sw, si_sw0, hY.g0, hY.g2, hY.g4, hY.g13, hY.g14, hY.f0, hY.f2, hY.h, hY.l, hY.t, hY.r, ↓reduceIte, pLEt, pLEf, pLTt, pLTf, pEQf, pML, pMG, pMf, pMg, hC.1.w5, hE.R, hC.1.r3, eq_false qo]
      exact f1
theorem C_tick_2 (hY : WY Y w) : ∀ (z i D9 : Nat) (e : XD) (P : Nat → Int32) (c : Nat → Nat → Int32), DJ ops e → tM e ≤ 1000000 → CR P ops e c → i + z = nH e → z < D9 → ∃ Q c', f_X6_passTick_56 Y D9 w (nI i) (sw N w c) = some (sw N w c') ∧ CR Q ops (if (sT3 ops (fo sT2F i z e) 0 + nI 1) - (sT3 ops (fo sT2F i z e) 0 + nI 1) / sT3 ops (fo sT2F i z e) 8 * sT3 ops (fo sT2F i z e) 8 = nI 0 then sT5 (sT4 (sT3 ops (fo sT2F i z e))) else sT5 (sT3 ops (fo sT2F i z e))) c' := by
  intro z
  induction z with
  | zero =>
    intro i D9 e P c hE hT hC hi hD9
    have h6 := hE.H6
    obtain ⟨D8, rfl⟩ : ∃ z, D9 = z + 1 := ⟨D9 - 1, by omega⟩
    obtain ⟨Q2, c2, f1, f2⟩ := C_tick_3 (N := N) hY (nR e) 0 FU e P c hE hT hC (Nat.zero_add _) (by have := hE.R60; unfold FU; omega)
    refine ⟨Q2, c2, ?_, f2⟩
    rw [f_X6_passTick_56]
    simp (disch := omega) only [↓lt_eq, bd, bd2, Option.bind_some, nI_lit, nI_clamp, nI_add, xb_nI, if_true, gi_sw, gi_sw0, si_sw, si_sw0, hY.g0, hY.g2, hY.g4, hY.g13, hY.g14, hY.f0, hY.f2, hY.h, hY.l, hY.t, hY.r, ↓reduceIte, pLEt, pLEf, pLTt, pLTf, pEQf, pML, pMG, pMf, pMg, hC.1.w1, hE.H]
    exact f1
  | succ z ih =>
    intro i D9 e P c hE hT hC hi hD9
    have h6 := hE.H6
    have h60 := hE.R60
    obtain ⟨D8, rfl⟩ : ∃ z, D9 = z + 1 := ⟨D9 - 1, by omega⟩
    obtain ⟨a1, a2⟩ := t2F_keep hE (h := i) (by omega)
    have IH := fun c' hc' => ih (i + 1) D8 (sT2F i e) P c' a1 (by rw [a2.T]; exact hT) hc' (by rw [a2.H]; omega) (by omega)
    rw [f_X6_passTick_56, fo]
    unfold sT2F at IH ⊢
    by_cases q : e (14 + 6 * i) = nI 0
    · rw [if_pos q] at IH ⊢
      have hl := sHeld_le (d := e) (nI i)
      by_cases q2 : sHeld e (nI i) = 0
      · have en : sWork e i = e := by
          unfold sWork
          rw [work_none i (nR e) 0 (e (13 + 6 * i), e) (Nat.zero_add _) (fun r hr => by
            cases z9 : sHolds e (nI i) r with
            | false => rfl
            | true =>
              exfalso
              have : 0 < cntF (sHolds e (nI i)) 0 (nR e) := by
                have key : ∀ (c k : Nat), k ≤ r → r < k + c → 0 < cntF (sHolds e (nI i)) k c := by
                  intro c
                  induction c with
                  | zero => intro k h1 h2; omega
                  | succ c ihc =>
                    intro k h1 h2
                    unfold cntF
                    by_cases y : k = r
                    · rw [y, z9]; simp only [if_true]; omega
                    · have := ihc (k + 1) (by omega) (by omega); omega
                exact key (nR e) 0 (Nat.zero_le r) (by show r < 0 + nR e; have : r < nR e := hr; omega)
              unfold sHeld cnt at q2
              omega)]
        rw [en] at IH ⊢
        obtain ⟨Q2, c2, f1, f2⟩ := IH c hC
        refine ⟨Q2, c2, ?_, f2⟩
        simp (disch := omega) only [↓lt_eq, bd, bd2, Option.bind_some, nI_lit, nI_clamp, nI_add, xb_nI, if_true, gi_sw, gi_sw0, si_sw, si_sw0, hY.g0, hY.g2, hY.g4, hY.g13, hY.g14, hY.f0, hY.f2, hY.h, hY.l, hY.t, hY.r, ↓reduceIte, pLEt, pLEf, pLTt, pLTf, pEQf, pML, pMG, pMf, pMg, hC.1.w1, hE.H, hC.1.h2, eq_true q, hC.2.2 i (show i < nH e by omega)]
        exact f1
      · obtain ⟨c1, b1, b2⟩ := C_doWork (N := N) hY hE hC (h := i) (by omega)
        obtain ⟨Q2, c2, f1, f2⟩ := IH c1 b2
        refine ⟨Q2, c2, ?_, f2⟩
        simp (disch := omega) only [↓lt_eq, bd, bd2, Option.bind_some, nI_lit, nI_clamp, nI_add, xb_nI, if_true, gi_sw, gi_sw0, si_sw, si_sw0, hY.g0, hY.g2, hY.g4, hY.g13, hY.g14, hY.f0, hY.f2, hY.h, hY.l, hY.t, hY.r, ↓reduceIte, pLEt, pLEf, pLTt, pLTf, pEQf, pML, pMG, pMf, pMg, hC.1.w1, hE.H, hC.1.h2, eq_true q, hC.2.2 i (show i < nH e by omega), b1]
        exact f1
    · rw [if_neg q] at IH ⊢
      obtain ⟨Q2, c2, f1, f2⟩ := IH c hC
      refine ⟨Q2, c2, ?_, f2⟩
      simp (disch := omega) only [↓lt_eq, bd, bd2, Option.bind_some, nI_lit, nI_clamp, nI_add, xb_nI, if_true, gi_sw, gi_sw0, si_sw, si_sw0, hY.g0, hY.g2, hY.g4, hY.g13, hY.g14, hY.f0, hY.f2, hY.h, hY.l, hY.t, hY.r, ↓reduceIte, pLEt, pLEf, pLTt, pLTf, pEQf, pML, pMG, pMf, pMg, hC.1.w1, hE.H, hC.1.h2, eq_false q]
      exact f1
theorem C_tick_1 (hY : WY Y w) : ∀ (z i D9 : Nat) (e : XD) (P : Nat → Int32) (c : Nat → Nat → Int32), DJ ops e → tM e ≤ 1000000 → CR P ops e c → i + z = nR e → z < D9 → ∃ Q c', f_X6_passTick_2 Y D9 w (nI i) (sw N w c) = some (sw N w c') ∧ CR Q ops (if (sT3 ops (sT2 (fo sT1F i z e)) 0 + nI 1) - (sT3 ops (sT2 (fo sT1F i z e)) 0 + nI 1) / sT3 ops (sT2 (fo sT1F i z e)) 8 * sT3 ops (sT2 (fo sT1F i z e)) 8 = nI 0 then sT5 (sT4 (sT3 ops (sT2 (fo sT1F i z e)))) else sT5 (sT3 ops (sT2 (fo sT1F i z e)))) c' := by
  intro z
  induction z with
  | zero =>
    intro i D9 e P c hE hT hC hi hD9
    have h60 := hE.R60
    obtain ⟨D8, rfl⟩ : ∃ z, D9 = z + 1 := ⟨D9 - 1, by omega⟩
    obtain ⟨Q2, c2, f1, f2⟩ := C_tick_2 (N := N) hY (nH e) 0 FU e P c hE hT hC (Nat.zero_add _) (by have := hE.H6; unfold FU; omega)
    refine ⟨Q2, c2, ?_, f2⟩
    rw [f_X6_passTick_2]
    simp (disch := omega) only [↓lt_eq, bd, bd2, Option.bind_some, nI_lit, nI_clamp, nI_add, xb_nI, if_true, gi_sw, gi_sw0, si_sw, si_sw0, hY.g0, hY.g2, hY.g4, hY.g13, hY.g14, hY.f0, hY.f2, hY.h, hY.l, hY.t, hY.r, ↓reduceIte, pLEt, pLEf, pLTt, pLTf, pEQf, pML, pMG, pMf, pMg, hC.1.w5, hE.R]
    exact f1
  | succ z ih =>
    intro i D9 e P c hE hT hC hi hD9
    have h60 := hE.R60
    obtain ⟨D8, rfl⟩ : ∃ z, D9 = z + 1 := ⟨D9 - 1, by omega⟩
    obtain ⟨a1, a2⟩ := t1F_keep hE (r := i) (by omega)
    have IH := fun c' hc' => ih (i + 1) D8 (sT1F i e) P c' a1 (by rw [a2.T]; exact hT) hc' (by rw [a2.R]; omega) (by omega)
    rw [f_X6_passTick_2, fo]
    unfold sT1F at IH ⊢
    by_cases q : e (107 + 8 * i) = nI 0
    · by_cases q2 : e (105 + 8 * i) = e 0
      · rw [if_pos q, if_pos q2] at IH ⊢
        obtain ⟨c1, b1, b2⟩ := C_openOrRefuse (N := N) hY hE hC (r := i) (by omega) q
        obtain ⟨Q2, c2, f1, f2⟩ := IH c1 b2
        refine ⟨Q2, c2, ?_, f2⟩
        simp (disch := omega) only [↓lt_eq, bd, bd2, Option.bind_some, nI_lit, nI_clamp, nI_add, xb_nI, if_true, gi_sw, gi_sw0, si_sw, si_sw0, hY.g0, hY.g2, hY.g4, hY.g13, hY.g14, hY.f0, hY.f2, hY.h, hY.l, hY.t, hY.r, ↓reduceIte, pLEt, pLEf, pLTt, pLTf, pEQf, pML, pMG, pMf, pMg, hC.1.w5, hE.R, hC.1.r3, hC.1.r1, hC.1.w6, eq_true q, eq_true q2, b1]
        exact f1
      · rw [if_pos q, if_neg q2] at IH ⊢
        obtain ⟨Q2, c2, f1, f2⟩ := IH c hC
        refine ⟨Q2, c2, ?_, f2⟩
        simp (disch := omega) only [↓lt_eq, bd, bd2, Option.bind_some, nI_lit, nI_clamp, nI_add, xb_nI, if_true, gi_sw, gi_sw0, si_sw, si_sw0, hY.g0, hY.g2, hY.g4, hY.g13, hY.g14, hY.f0, hY.f2, hY.h, hY.l, hY.t, hY.r, ↓reduceIte, pLEt, pLEf, pLTt, pLTf, pEQf, pML, pMG, pMf, pMg, hC.1.w5, hE.R, hC.1.r3, hC.1.r1, hC.1.w6, eq_true q, eq_false q2]
        exact f1
    · rw [if_neg q] at IH ⊢
      obtain ⟨Q2, c2, f1, f2⟩ := IH c hC
      refine ⟨Q2, c2, ?_, f2⟩
      simp (disch := omega) only [↓lt_eq, bd, bd2, Option.bind_some, nI_lit, nI_clamp, nI_add, xb_nI, if_true, gi_sw, gi_sw0, si_sw, si_sw0, hY.g0, hY.g2, hY.g4, hY.g13, hY.g14, hY.f0, hY.f2, hY.h, hY.l, hY.t, hY.r, ↓reduceIte, pLEt, pLEf, pLTt, pLTf, pEQf, pML, pMG, pMf, pMg, hC.1.w5, hE.R, hC.1.r3, eq_false q]
      exact f1
/-- the class's tick is the model's -/
theorem C_passTick (hY : WY Y w) (hD : DJ ops d) (hT : tM d ≤ 1000000) (hC : CR P ops d c) : ∃ Q c', f_X6_passTick Y w (sw N w c) = some (sw N w c') ∧ CR Q ops (sTick ops d) c' :=
  C_tick_1 (N := N) hY (nR d) 0 FU d P c hD hT hC (Nat.zero_add _) (by have := hD.R60; unfold FU; omega)
end CC4

