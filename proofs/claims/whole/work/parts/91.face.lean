/-! THE FACE: tenant, calm, errorOffset and the predictions -/
section FP
variable {P : Nat → Int32} {Y : XY} {B w w2 : Nat} {N : XN} {d : XD} {ops : List Int32}
theorem F_tenant (hY : YO Y B) (hI : IV B N) (x y : Int32) : FC2 Y B [IOB, NSE] (f_X7_tenant Y B x y) (f_X8_tenant Y (B + 908) x y) N := by
  obtain ⟨⟨g0, g3, g4, h5, g6, g7⟩, -, -, hW, hW2, -, hM, -⟩ := hY
  have hI' := hI
  obtain ⟨⟨ops, d, hD, hz, ht, hd, P, hC⟩, -, -⟩ := hI'
  have h8 := hD.L8
  have e : gi N (B + 7) 3 = nI (nL d) := (hC.1.w3).trans hD.L
  have e0 : ∀ N' : XN, si N' (B + 908) 0 (nI 0) = mm N' B (nI 0) := fun _ => rfl
  obtain ⟨w, hw⟩ : ∃ w, B + 7 = w := ⟨_, rfl⟩
  rw [hw] at h5 hW hC e
  rcases ix_or x (n := nL d) (by omega) with h | ⟨j, hj, rfl⟩
  · refine ⟨.inr IOB, N, ?_, fun N' hN' => ⟨nI 0, mm N' B (nI 1), ?_, (after_read hN' hI _).1, (after_read hN' hI _).2, 0, by decide, rfl, gi_mm _ _ _⟩⟩
    · unfold f_X7_tenant
      rw [h5, K_has_out.2.1 e h]
      simp only [nI_lit, if_true]
      rfl
    · unfold f_X8_tenant
      simp (disch := omega) only [↓lt_eq, nI_lit, e0, (noL hM (row_ints hN' hd) hD x).1 h, ↓reduceIte, pLEt, pLEf, pLTt, pLTf, pEQf, pML, pMG, pMf, pMg, bd2, Option.bind_some, nz10]
  · obtain ⟨t1, t2, t3, -⟩ := hD.ln j hj
    have e2 := (K_has_in (Y := Y) (N := N) (w := w) (d := d) (j := j)).2.1 e h8 hj
    have mr : ∀ N' : XN, N'.1 = N.1 → ∀ k, k < 7 → f_X8_ofLine Y (B + 908) (nI j) (nI k) (mm N' B (nI 0)) = some (d (48 + 7 * j + k)) := by
      intro N' hN' k hk
      rw [mm_sd hM (row_ints hN' hd)]
      unfold f_X8_ofLine
      simp (disch := omega) only [f_X8_lineAt, nI_lit, pk_mul, nI_add, xb_nI, nI_clamp, gi_sd, if_true]
    rcases ix_or y (n := nT d j) (by omega) with h | ⟨k, hk, rfl⟩
    · refine ⟨.inr NSE, N, ?_, fun N' hN' => ⟨nI 0, mm N' B (nI 2), ?_, (after_read hN' hI _).1, (after_read hN' hI _).2, 1, by decide, rfl, gi_mm _ _ _⟩⟩
      · unfold f_X7_tenant
        rcases h with h | h
        · simp (disch := omega) only [nI_lit, ↓lt_eq, h5, e2, ↓reduceIte, pLEt, pLEf, pLTt, pLTf, pEQf, pML, pMG, pMf, pMg, nz10, xb_nI, if_true, eq_true h]
          rfl
        · have n1 : (y < nI (nT d j)) = False := eq_false (fun z => by rw [Int32.lt_iff_toInt_lt] at z; rw [Int32.le_iff_toInt_le] at h; omega)
          by_cases n0 : y < nI 0
          · simp (disch := omega) only [nI_lit, ↓lt_eq, h5, e2, ↓reduceIte, pLEt, pLEf, pLTt, pLTf, pEQf, pML, pMG, pMf, pMg, nz10, xb_nI, if_true, eq_true n0]
            rfl
          · simp (disch := omega) only [nI_lit, ↓lt_eq, h5, e2, ↓reduceIte, pLEt, pLEf, pLTt, pLTf, pEQf, pML, pMG, pMf, pMg, nz10, xb_nI, nI_clamp, if_true, eq_false n0, hW.g2, hW.l, gi_wc N w, hC.1.l4, t1, n1]
            rfl
      · have e9 := (noN (Y := Y) (B := B) (N := N') (n := nT d j) (by omega) y).1 h
        have m3 := mr N' hN' 3 (by omega)
        simp only [aN3, Nat.reduceAdd] at m3
        rw [t1] at m3
        unfold f_X8_tenant
        simp (disch := omega) only [↓lt_eq, nI_lit, e0, (noL hM (row_ints hN' hd) hD (nI j)).2 j hj rfl, ↓reduceIte, pLEt, pLEf, pLTt, pLTf, pEQf, pML, pMG, pMf, pMg, bd2, bd, Option.bind_some, nz10, m3, e9]
    · refine ⟨.inl (d (52 + 7 * j + k)), N, ?_, fun N' hN' => ⟨d (52 + 7 * j + k), mm N' B (nI 0), ?_, (after_read hN' hI _).1, (after_read hN' hI _).2, gi_mm _ _ _, rfl⟩⟩
      · unfold f_X7_tenant
        simp (disch := omega) only [nI_lit, ↓lt_eq, h5, e2, ↓reduceIte, pLEt, pLEf, pLTt, pLTf, pEQf, pML, pMG, pMf, pMg, nz10, xb_nI, nI_clamp, if_true, hW.g2, hW.l, hW.t, gi_wc N w, hC.1.l4, t1, hC.1.t]
      · have e9 := (noN (Y := Y) (B := B) (N := N') (n := nT d j) (by omega) (nI k)).2 k hk rfl
        have m3 := mr N' hN' 3 (by omega)
        simp only [aN3, Nat.reduceAdd] at m3
        rw [t1] at m3
        have m4 := mr N' hN' (4 + k) (by omega)
        rw [show 48 + 7 * j + (4 + k) = 52 + 7 * j + k by omega] at m4
        unfold f_X8_tenant
        simp (disch := omega) only [↓lt_eq, nI_lit, nI_add, e0, (noL hM (row_ints hN' hd) hD (nI j)).2 j hj rfl, ↓reduceIte, pLEt, pLEf, pLTt, pLTf, pEQf, pML, pMG, pMf, pMg, bd2, bd, Option.bind_some, nz10, m3, e9, m4]
theorem F_calm (hY : YO Y B) (hI : IV B N) (x : Int32) : FC2 Y B [IOB] (f_X7_calm Y B x) (f_X8_calm Y (B + 908) x) N := by
  obtain ⟨⟨g0, g3, g4, h5, g6, g7⟩, -, -, hW, hW2, -, hM, -⟩ := hY
  have hI' := hI
  obtain ⟨⟨ops, d, hD, hz, ht, hd, P, hC⟩, -, -⟩ := hI'
  have h8 := hD.L8
  have e : gi N (B + 7) 3 = nI (nL d) := (hC.1.w3).trans hD.L
  have e0 : ∀ N' : XN, si N' (B + 908) 0 (nI 0) = mm N' B (nI 0) := fun _ => rfl
  obtain ⟨w, hw⟩ : ∃ w, B + 7 = w := ⟨_, rfl⟩
  rw [hw] at h5 hW hC e
  rcases ix_or x (n := nL d) (by omega) with h | ⟨j, hj, rfl⟩
  · refine ⟨.inr IOB, N, ?_, fun N' hN' => ⟨nI 0, mm N' B (nI 1), ?_, (after_read hN' hI _).1, (after_read hN' hI _).2, 0, by decide, rfl, gi_mm _ _ _⟩⟩
    · unfold f_X7_calm
      rw [h5, K_has_out.2.1 e h]
      simp only [nI_lit, if_true]
      rfl
    · unfold f_X8_calm
      simp (disch := omega) only [↓lt_eq, nI_lit, e0, (noL hM (row_ints hN' hd) hD x).1 h, ↓reduceIte, pLEt, pLEf, pLTt, pLTf, pEQf, pML, pMG, pMf, pMg, bd2, Option.bind_some, nz10]
  · have e2 := (K_has_in (Y := Y) (N := N) (w := w) (d := d) (j := j)).2.1 e h8 hj
    have r0 := C_raised (N := N) hW hD hC.1 (l := nI j)
    rw [sw_wc] at r0
    have hv : (d (49 + 7 * j) - nI (sRaised d (nI j)) ≤ nI 0 ∧ ¬ nI 0 ≤ d (49 + 7 * j) - nI (sRaised d (nI j))) ∨ d (49 + 7 * j) - nI (sRaised d (nI j)) = nI 0 ∨ (¬ d (49 + 7 * j) - nI (sRaised d (nI j)) ≤ nI 0 ∧ nI 0 ≤ d (49 + 7 * j) - nI (sRaised d (nI j))) := by
      generalize d (49 + 7 * j) - nI (sRaised d (nI j)) = v
      have c0 : (nI 0).toInt = 0 := by decide
      rw [Int32.le_iff_toInt_le, Int32.le_iff_toInt_le, c0, ← Int32.toInt_inj, c0]
      omega
    have mk : ∀ (o : Int32), (f_X7_calm Y B (nI j) N = some (.inl o, N)) → (∀ N' : XN, N'.1 = N.1 → f_X8_calm Y (B + 908) (nI j) N' = some (o, mm N' B (nI 0))) → FC2 Y B [IOB] (f_X7_calm Y B (nI j)) (f_X8_calm Y (B + 908) (nI j)) N := fun o a b => ⟨_, N, a, fun N' hN' => ⟨_, _, b N' hN', (after_read hN' hI _).1, (after_read hN' hI _).2, gi_mm _ _ _, rfl⟩⟩
    have ml : ∀ N' : XN, N'.1 = N.1 → f_X8_ofLine Y (B + 908) (nI j) (nI 1) (mm N' B (nI 0)) = some (d (49 + 7 * j)) ∧ f_X8_raisedOn Y (B + 908) (nI j) (mm N' B (nI 0)) = some (nI (sRaised d (nI j))) := by
      intro N' hN'
      rw [mm_sd hM (row_ints hN' hd)]
      refine ⟨?_, M_raisedOn hD.R hD.R60⟩
      unfold f_X8_ofLine
      simp (disch := omega) only [f_X8_lineAt, nI_lit, pk_mul, nI_add, xb_nI, nI_clamp, gi_sd, if_true, aN1, Nat.reduceAdd]
    rcases hv with ⟨v1, v2⟩ | v0 | ⟨v1, v2⟩
    · refine mk (nI 0) ?_ (fun N' hN' => ?_)
      · unfold f_X7_calm
        simp (disch := omega) only [nI_lit, ↓lt_eq, h5, e2, ↓reduceIte, pLEt, pLEf, pLTt, pLTf, pEQf, pML, pMG, pMf, pMg, nz10, xb_nI, nI_clamp, if_true, hW.g2, hW.l, gi_wc N w, hC.1.l1, bd, Option.bind_some, r0, eq_false v2]
      · obtain ⟨m1, m2⟩ := ml N' hN'
        unfold f_X8_calm
        simp (disch := omega) only [↓lt_eq, nI_lit, e0, (noL hM (row_ints hN' hd) hD (nI j)).2 j hj rfl, ↓reduceIte, pLEt, pLEf, pLTt, pLTf, pEQf, pML, pMG, pMf, pMg, bd2, bd, Option.bind_some, nz10, m1, m2, eq_true v1]
    · refine mk (nI 0) ?_ (fun N' hN' => ?_)
      · unfold f_X7_calm
        simp (disch := omega) only [nI_lit, ↓lt_eq, h5, e2, ↓reduceIte, pLEt, pLEf, pLTt, pLTf, pEQf, pML, pMG, pMf, pMg, nz10, xb_nI, nI_clamp, if_true, hW.g2, hW.l, gi_wc N w, hC.1.l1, bd, Option.bind_some, r0, v0]
      · obtain ⟨m1, m2⟩ := ml N' hN'
        unfold f_X8_calm
        simp (disch := omega) only [↓lt_eq, nI_lit, e0, (noL hM (row_ints hN' hd) hD (nI j)).2 j hj rfl, ↓reduceIte, pLEt, pLEf, pLTt, pLTf, pEQf, pML, pMG, pMf, pMg, bd2, bd, Option.bind_some, nz10, m1, m2, v0]
    · refine mk (d (49 + 7 * j) - nI (sRaised d (nI j))) ?_ (fun N' hN' => ?_)
      · unfold f_X7_calm
        simp (disch := omega) only [nI_lit, ↓lt_eq, h5, e2, ↓reduceIte, pLEt, pLEf, pLTt, pLTf, pEQf, pML, pMG, pMf, pMg, nz10, xb_nI, nI_clamp, if_true, hW.g2, hW.l, gi_wc N w, hC.1.l1, bd, Option.bind_some, r0, eq_true v2]
      · obtain ⟨m1, m2⟩ := ml N' hN'
        unfold f_X8_calm
        simp (disch := omega) only [↓lt_eq, nI_lit, e0, (noL hM (row_ints hN' hd) hD (nI j)).2 j hj rfl, ↓reduceIte, pLEt, pLEf, pLTt, pLTf, pEQf, pML, pMG, pMf, pMg, bd2, bd, Option.bind_some, nz10, m1, m2, eq_false v1]
/-- a call that never throws -/
def FC3 (Y : XY) (B : Nat) (fx : XN → Option (Int32 × XN)) (fm : XN → Option (Int32 × XN)) (N : XN) : Prop :=
  ∃ v N1, fx N = some (v, N1) ∧ ∀ N', N'.1 = N1.1 → ∃ N2, fm N' = some (v, N2) ∧ IV B N2 ∧ ∀ a, a ≠ B + 923 → N2.2 a = N'.2 a
theorem F_errorOffset (hI : IV B N) : FC3 Y B (fun M => some (f_X7_errorOffset Y B M, M)) (f_X8_errorOffset Y (B + 908)) N := by
  have hI' := hI
  obtain ⟨-, -, n, -, -, -, -, h5⟩ := hI'
  refine ⟨_, N, rfl, fun N' hN' => ⟨mm N' B (nI 0), ?_, (after_read hN' hI _).1, (after_read hN' hI _).2⟩⟩
  unfold f_X8_errorOffset f_X7_errorOffset
  have e0 : si N' (B + 908) 0 (nI 0) = mm N' B (nI 0) := rfl
  have e1 : gi (mm N' B (nI 0)) (B + 908) 7 = gi N B 2 := by
    show (si N' (B + 908) 0 (nI 0)).1 (B + 908) 7 = _
    rw [si_cell (by omega), hN', h5]
    rfl
  simp only [↓lt_eq, nI_lit, e0, e1]
/-- the memory behind a prediction, in the model -/
theorem after_pred (hM : MY Y (B + 908)) {N1 N' N2 : XN} (hI : IV B N1) (hN' : N'.1 = N1.1) (hd : N1.1 (B + 910) = d) (hj : jn2 Y (B + 908) (mm N' B (nI 0)) N2) : IV B (sd N2 (gp Y (B + 908) 8) d) ∧ (∀ a, a ≠ B + 923 → (sd N2 (gp Y (B + 908) 8) d).2 a = N'.2 a) ∧ gi (sd N2 (gp Y (B + 908) 8) d) (B + 908) 0 = nI 0 := by
  have k8 := hM.g8
  have k18 := hM.g18
  have k10 := hM.g10
  have k11 := hM.g11
  have k17 := hM.g17
  obtain ⟨j1, j2⟩ := hj
  rw [k18, k10, k11] at j1
  rw [k17] at j2
  rw [k8]
  refine ⟨(hI.ints hN').sc (fun a k q => ?_), fun a q => j2 a (by omega), ?_⟩
  · by_cases z : a = B + 908 + 2
    · subst z
      rw [sd_at]
      show d k = N'.1 (B + 910) k
      rw [hN', hd]
    · rw [sd_ne z, j1 a (by unfold core at q; omega) (by unfold core at q; omega) (by unfold core at q; omega)]
      exact sc_mm N' B (nI 0) a k q
  · rw [gi_sd_ne (by omega)]
    show N2.1 (B + 908) 0 = nI 0
    rw [j1 (B + 908) (by omega) (by omega) (by omega)]
    exact gi_mm _ _ _
/-- the class's memory behind a prediction -/
theorem sc_trial (N : XN) (B : Nat) (c : Nat → Nat → Int32) : sc B N (sw N (B + 97) c) := fun a k q => gi_sw_ne k (by unfold core at q; omega)
theorem K_copy (hW : WY Y w) (hW2 : WY Y w2) (hd : w + 90 ≤ w2) (hD : DJ ops d) (hC : CR P ops d (wc N w)) : ∃ Q c', f_X6_copyOf Y w2 w N = some (sw N w2 c') ∧ CR Q ops d c' := by
  obtain ⟨Q, c', a, b⟩ := C_copyOf (N := N) hW2 hW (Or.inl hd) hD hC (wc N w2)
  rw [sw_wc] at a
  exact ⟨Q, c', a, b⟩
theorem F_endsAt (hY : YO Y B) (hI : IV B N) (x : Int32) : FC2 Y B [IOB] (f_X7_endsAt Y B x) (f_X8_endsAt Y (B + 908) x) N := by
  obtain ⟨⟨g0, g3, g4, h5, h6, g7⟩, -, -, hW, hW2, -, hM, -⟩ := hY
  have hI' := hI
  obtain ⟨⟨ops, d, hD, hz, ht, hd, P, hC⟩, -, -⟩ := hI'
  have h60 := hD.R60
  have e : gi N (B + 7) 5 = nI (nR d) := (hC.1.w5).trans hD.R
  have e0 : ∀ N' : XN, si N' (B + 908) 0 (nI 0) = mm N' B (nI 0) := fun _ => rfl
  rcases ix_or x (n := nR d) (by omega) with h | ⟨r, hr, rfl⟩
  · refine ⟨.inr IOB, N, ?_, fun N' hN' => ⟨nI 0, mm N' B (nI 1), ?_, (after_read hN' hI _).1, (after_read hN' hI _).2, 0, by decide, rfl, gi_mm _ _ _⟩⟩
    · unfold f_X7_endsAt
      rw [h5, K_has_out.2.2 e h]
      simp only [nI_lit, if_true]
      rfl
    · unfold f_X8_endsAt
      simp (disch := omega) only [↓lt_eq, nI_lit, e0, (noR hM (row_ints hN' hd) hD x).1 h, ↓reduceIte, pLEt, pLEf, pLTt, pLTf, pEQf, pML, pMG, pMf, pMg, bd2, Option.bind_some, nz10]
  · obtain ⟨Q, c1, k1, k2⟩ := K_copy (N := N) hW hW2 (by omega) hD hC
    obtain ⟨c2, l1⟩ := C_ends_L (N := N) hW2 h6 (r := r) 1100 0 FU d Q c1 hD hr (by omega) k2 (by omega) (by unfold FU; omega)
    have e2 := (K_has_in (Y := Y) (N := N) (w := B + 7) (d := d) (j := r)).2.2 e h60 hr
    refine ⟨.inl (sEnds ops r 1100 d), sw N (B + 97) c2, ?_, fun N' hN' => ?_⟩
    · unfold f_X7_endsAt
      obtain ⟨w2, hw2⟩ : ∃ w2, B + 97 = w2 := ⟨_, rfl⟩
      rw [hw2] at h6 hW2 k1 l1 ⊢
      simp (disch := omega) only [nI_lit, ↓lt_eq, h5, h6, e2, ↓reduceIte, pLEt, pLEf, pLTt, pLTf, pEQf, pML, pMG, pMf, pMg, nz10, xb_nI, nI_clamp, if_true, bd, k1, Option.bind_some, hW2.g4, hW2.r]
      exact l1
    · have hI1 := hI.sc (sc_trial N B c2)
      have hd1 : (sw N (B + 97) c2).1 (B + 910) = d := (funext (fun k => gi_sw_ne k (by omega))).trans hd
      have ma := M_aside (N := mm N' B (nI 0)) (d := d) hM (a := gp Y (B + 908) 10) (Or.inl rfl)
      obtain ⟨e1, e3, e4, e5, e6, e7⟩ := hM.e8
      rw [← mm_sd hM (row_ints hN' hd1)] at ma
      obtain ⟨N2, i1, i2⟩ := M_ends_L (d := d) hM (r := r) (by omega) 1100 0 FU d (sd (mm N' B (nI 0)) (gp Y (B + 908) 10) (cpR 584 d ((mm N' B (nI 0)).1 (gp Y (B + 908) 10)))) hD (by omega) (by omega) (by unfold FU; omega) (fun k hk => by rw [sd_at]; exact if_pos hk) (fun k hk => rfl)
      obtain ⟨z1, z2, z3⟩ := after_pred hM hI1 hN' hd1 (N2 := N2) ⟨fun a q q1 q2 => (i1.1 a q).trans (sd_ne q1), fun a q => i1.2 a q⟩
      refine ⟨_, _, ?_, z1, z2, z3, rfl⟩
      unfold f_X8_endsAt
      simp (disch := omega) only [↓lt_eq, nI_lit, e0, (noR hM (row_ints hN' hd1) hD (nI r)).2 r hr rfl, ↓reduceIte, pLEt, pLEf, pLTt, pLTf, pEQf, pML, pMG, pMf, pMg, bd2, bd, Option.bind_some, nz10, ma]
      exact i2
theorem F_bankruptIn (hY : YO Y B) (hI : IV B N) (x : Int32) : FC2 Y B [IOB] (f_X7_bankruptIn Y B x) (f_X8_bankruptIn Y (B + 908) x) N := by
  obtain ⟨⟨g0, g3, g4, h5, h6, g7⟩, -, -, hW, hW2, -, hM, -⟩ := hY
  have hI' := hI
  obtain ⟨⟨ops, d, hD, hz, ht, hd, P, hC⟩, -, -⟩ := hI'
  have h60 := hD.H6
  have e : gi N (B + 7) 1 = nI (nH d) := (hC.1.w1).trans hD.H
  have e0 : ∀ N' : XN, si N' (B + 908) 0 (nI 0) = mm N' B (nI 0) := fun _ => rfl
  rcases ix_or x (n := nH d) (by omega) with h | ⟨r, hr, rfl⟩
  · refine ⟨.inr IOB, N, ?_, fun N' hN' => ⟨nI 0, mm N' B (nI 1), ?_, (after_read hN' hI _).1, (after_read hN' hI _).2, 0, by decide, rfl, gi_mm _ _ _⟩⟩
    · unfold f_X7_bankruptIn
      rw [h5, K_has_out.1 e h]
      simp only [nI_lit, if_true]
      rfl
    · unfold f_X8_bankruptIn
      simp (disch := omega) only [↓lt_eq, nI_lit, e0, (noH hM (row_ints hN' hd) hD x).1 h, ↓reduceIte, pLEt, pLEf, pLTt, pLTf, pEQf, pML, pMG, pMf, pMg, bd2, Option.bind_some, nz10]
  · obtain ⟨Q, c1, k1, k2⟩ := K_copy (N := N) hW hW2 (by omega) hD hC
    obtain ⟨c2, l1⟩ := C_bank_L (N := N) hW2 h6 (h := r) 1100 0 FU d Q c1 hD hr (by omega) k2 (by omega) (by unfold FU; omega)
    have e2 := (K_has_in (Y := Y) (N := N) (w := B + 7) (d := d) (j := r)).1 e h60 hr
    refine ⟨.inl (sBank ops r 1100 0 d), sw N (B + 97) c2, ?_, fun N' hN' => ?_⟩
    · unfold f_X7_bankruptIn
      obtain ⟨w2, hw2⟩ : ∃ w2, B + 97 = w2 := ⟨_, rfl⟩
      rw [hw2] at h6 hW2 k1 l1 ⊢
      simp (disch := omega) only [nI_lit, ↓lt_eq, h5, h6, e2, ↓reduceIte, pLEt, pLEf, pLTt, pLTf, pEQf, pML, pMG, pMf, pMg, nz10, xb_nI, nI_clamp, if_true, bd, k1, Option.bind_some, hW2.g0, hW2.h]
      exact l1
    · have hI1 := hI.sc (sc_trial N B c2)
      have hd1 : (sw N (B + 97) c2).1 (B + 910) = d := (funext (fun k => gi_sw_ne k (by omega))).trans hd
      have ma := M_aside (N := mm N' B (nI 0)) (d := d) hM (a := gp Y (B + 908) 10) (Or.inl rfl)
      obtain ⟨e1, e3, e4, e5, e6, e7⟩ := hM.e8
      rw [← mm_sd hM (row_ints hN' hd1)] at ma
      obtain ⟨N2, i1, i2⟩ := M_bank_L (d := d) hM (h := r) 1100 0 FU d (sd (mm N' B (nI 0)) (gp Y (B + 908) 10) (cpR 584 d ((mm N' B (nI 0)).1 (gp Y (B + 908) 10)))) hD hr (by omega) (by omega) (by unfold FU; omega) (fun k hk => by rw [sd_at]; exact if_pos hk) (fun k hk => rfl)
      obtain ⟨z1, z2, z3⟩ := after_pred hM hI1 hN' hd1 (N2 := N2) ⟨fun a q q1 q2 => (i1.1 a q).trans (sd_ne q1), fun a q => i1.2 a q⟩
      refine ⟨_, _, ?_, z1, z2, z3, rfl⟩
      unfold f_X8_bankruptIn
      simp (disch := omega) only [↓lt_eq, nI_lit, e0, (noH hM (row_ints hN' hd1) hD (nI r)).2 r hr rfl, ↓reduceIte, pLEt, pLEf, pLTt, pLTf, pEQf, pML, pMG, pMf, pMg, bd2, bd, Option.bind_some, nz10, ma]
      exact i2
theorem F_finesIn (hY : YO Y B) (hI : IV B N) (x : Int32) : FC2 Y B [IAE] (f_X7_finesIn Y B x) (f_X8_finesIn Y (B + 908) x) N := by
  obtain ⟨⟨g0, g3, g4, h5, h6, g7⟩, -, -, hW, hW2, -, hM, -⟩ := hY
  have hI' := hI
  obtain ⟨⟨ops, d, hD, hz, ht, hd, P, hC⟩, -, -⟩ := hI'
  have e0 : ∀ N' : XN, si N' (B + 908) 0 (nI 0) = mm N' B (nI 0) := fun _ => rfl
  rcases ix_or x (n := 1101) (by omega) with h | ⟨t, hr, rfl⟩
  · refine ⟨.inr IAE, N, ?_, fun N' hN' => ⟨nI 0, mm N' B (nI 1), ?_, (after_read hN' hI _).1, (after_read hN' hI _).2, 0, by decide, rfl, gi_mm _ _ _⟩⟩
    · unfold f_X7_finesIn
      by_cases n0 : x < nI 0
      · simp only [nI_lit, eq_true n0, if_true]
        rfl
      · have n1 : (x ≤ nI 1100) = False := eq_false (fun z => by
          rcases h with h | h
          · exact n0 h
          · have c1 : (nI 1100).toInt = 1100 := by decide
            have c2 : (nI 1101).toInt = 1101 := by decide
            rw [Int32.le_iff_toInt_le] at h z
            omega)
        simp only [nI_lit, eq_false n0, if_false, n1]
        rfl
    · unfold f_X8_finesIn
      simp (disch := omega) only [↓lt_eq, nI_lit, e0, in_outS (k := 1100) (by omega) h, ↓reduceIte, pLEt, pLEf, pLTt, pLTf, pEQf, pML, pMG, pMf, pMg, bd2, fails_t (c := 1), Option.bind_some, nz10]
  · obtain ⟨Q, c1, k1, k2⟩ := K_copy (N := N) hW hW2 (by omega) hD hC
    obtain ⟨Q2, c2, l1, l2⟩ := C_finesWithin (N := N) hW2 hD (t := t) (by omega) (by omega) k2
    refine ⟨.inl (sFW ops t d), sw N (B + 97) c2, ?_, fun N' hN' => ?_⟩
    · unfold f_X7_finesIn
      rw [← h6] at l1 k1
      rw [← h5] at k1
      simp (disch := omega) only [nI_lit, ↓reduceIte, pLEt, pLEf, pLTt, pLTf, pEQf, pML, pMG, pMf, pMg, bd, bd2, k1, Option.bind_some]
      rw [h6] at l1 ⊢
      rw [l1]
      rfl
    · have hI1 := hI.sc (sc_trial N B c2)
      have hd1 : (sw N (B + 97) c2).1 (B + 910) = d := (funext (fun k => gi_sw_ne k (by omega))).trans hd
      obtain ⟨N2, i1, i3, i2⟩ := M_finesWithin (N := mm N' B (nI 0)) hM hD (t := t) (by omega) (by omega)
      rw [← mm_sd hM (row_ints hN' hd1)] at i2
      obtain ⟨z1, z2, z3⟩ := after_pred hM hI1 hN' hd1 (N2 := N2) i1
      refine ⟨_, _, ?_, z1, z2, z3, rfl⟩
      unfold f_X8_finesIn
      simp (disch := omega) only [↓lt_eq, nI_lit, e0, in_inS (j := t) (k := 1100), ↓reduceIte, pLEt, pLEf, pLTt, pLTf, pEQf, pML, pMG, pMf, pMg, bd2, fails_f, Option.bind_some, nz10, i2]
end FP
