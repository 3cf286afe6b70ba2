/-! THE FACE'S CHANGES: raise, lease, release, fund -/
section CG2
variable {P : Nat → Int32} {Y : XY} {B m w : Nat} {N : XN} {d : XD} {ops : List Int32} {k p n : Nat}
theorem in_1 {x : Int32} {n : Nat} (hn : n < 2 ^ 29) : (outR x (n + 1) ∨ x = nI 0 → f_X8_in Y x (nI 1) (nI n) N = nI 0) ∧ ∀ j, 1 ≤ j → j ≤ n → x = nI j → f_X8_in Y x (nI 1) (nI n) N = nI 1 := by
  unfold f_X8_in
  refine ⟨fun h => ?_, fun j h1 h2 hx => ?_⟩
  · by_cases q : x < nI 1
    · rw [if_pos q]; rfl
    · rw [if_neg q, if_pos]
      · rfl
      · have c1 : (nI 1).toInt = 1 := by decide
        have c0 : (nI 0).toInt = 0 := by decide
        rcases h with (h | h) | h
        · rw [Int32.lt_iff_toInt_lt] at h q; omega
        · rw [Int32.le_iff_toInt_le, nI_toInt (by omega)] at h
          rw [Int32.lt_iff_toInt_lt, nI_toInt (by omega)]
          omega
        · rw [h, Int32.lt_iff_toInt_lt] at q; omega
  · rw [hx, if_neg (nI_nlt h1 (by omega)), if_neg (nI_nlt h2 (by omega))]; rfl
theorem noN1 {n : Nat} (hn : n < 2 ^ 29) (x : Int32) : (outR x (n + 1) ∨ x = nI 0 → f_X8_noNumber Y (B + 908) x (nI 1) (nI n) (mm N B (nI 0)) = some (nI 1, mm N B (nI 2))) ∧ ∀ j, 1 ≤ j → j ≤ n → x = nI j → f_X8_noNumber Y (B + 908) x (nI 1) (nI n) (mm N B (nI 0)) = some (nI 0, mm N B (nI 0)) := by
  have x1 : xz (nI 1) = true := by decide
  have x0 : xz (nI 0) = true := by decide
  unfold f_X8_noNumber
  refine ⟨fun h => ?_, fun j h1 h2 hx => ?_⟩
  · simp (disch := omega) only [nI_lit, (in_1 (Y := Y) hn).1 h, ↓reduceIte, pLEt, pLEf, pLTt, pLTf, pEQf, pML, pMG, pMf, pMg, fails_t (Y := Y) (N := N) (B := B) (c := 2) (by omega) (by omega), bd2_some, x1, if_true]
  · simp (disch := omega) only [nI_lit, (in_1 (Y := Y) hn).2 j h1 h2 hx, ↓reduceIte, pLEt, pLEf, pLTt, pLTf, pEQf, pML, pMG, pMf, pMg, fails_f, bd2_some, x0, if_true]
/-- a number that isn't from 1 to n, to the class -/
theorem lt1_or {x : Int32} {n : Nat} (hn : n < 2 ^ 29) (h : outR x (n + 1) ∨ x = nI 0) : (x < nI 1) = True ∨ ((x < nI 1) = False ∧ (x ≤ nI n) = False) := by
  have c1 : (nI 1).toInt = 1 := by decide
  have c0 : (nI 0).toInt = 0 := by decide
  by_cases q : x < nI 1
  · exact Or.inl (eq_true q)
  · refine Or.inr ⟨eq_false q, eq_false (fun z => ?_)⟩
    rw [Int32.le_iff_toInt_le, nI_toInt (by omega)] at z
    rw [Int32.lt_iff_toInt_lt] at q
    rcases h with (h | h) | h
    · rw [Int32.lt_iff_toInt_lt] at h; omega
    · rw [Int32.le_iff_toInt_le, nI_toInt (by omega)] at h; omega
    · rw [h] at q; omega
theorem one_or (x : Int32) {n : Nat} (hn : n < 2 ^ 29) : (outR x (n + 1) ∨ x = nI 0) ∨ ∃ j, 1 ≤ j ∧ j ≤ n ∧ x = nI j := by
  rcases ix_or x (n := n + 1) (by omega) with h | ⟨j, h1, h2⟩
  · exact Or.inl (Or.inl h)
  · by_cases q : j = 0
    · exact Or.inl (Or.inr (by rw [h2, q]))
    · exact Or.inr ⟨j, by omega, by omega, h2⟩
/-- the data row of the model behind the class's call -/
theorem row_after (hY : YO Y B) (hd : IVd B N ops d) (hh : IVh B N k p) {Nk N' : XN} {c' : Nat → Nat → Int32} (h1 : kept1 B p k N Nk) (hN' : N'.1 = (sw Nk (B + 7) c').1) : N'.1 (B + 910) = d := by
  have hp := hh.1.2.1
  rw [hN', show (sw Nk (B + 7) c').1 (B + 910) = Nk.1 (B + 910) from funext (fun j => gi_sw_ne j (by omega)), h1.2.1 _ (by omega) (by omega)]
  exact hd.2.2.2.1
theorem F_raise (hY : YO Y B) (hI : IV B N) (x y : Int32) : FC2 Y B [IOB, IAE, ISE] (f_X7_raise Y B x y) (f_X8_raise Y (B + 908) x y) N := by
  have hY' := hY
  obtain ⟨⟨g0, g3, g4, h5, h6, g7⟩, -, -, hW, hW2, -, hM, -⟩ := hY'
  have hI' := hI
  obtain ⟨⟨ops, d, hdd⟩, ⟨k, p, hh⟩, n, ht⟩ := hI'
  have hdd' := hdd
  obtain ⟨hD, hz, hT, hr, P, hC⟩ := hdd'
  have h8 := hD.L8
  have h60 := hD.R60
  have e0 : ∀ N' : XN, si N' (B + 908) 0 (nI 0) = mm N' B (nI 0) := fun _ => rfl
  have e3 : gi N (B + 7) 3 = nI (nL d) := (hC.1.w3).trans hD.L
  have e5 : gi N (B + 7) 5 = nI (nR d) := (hC.1.w5).trans hD.R
  have k8 : gp Y (B + 908) 8 = B + 910 := hM.g8
  have em : ∀ N' : XN, N'.1 (B + 910) = d → gi (mm N' B (nI 0)) (gp Y (B + 908) 8) 3 = nI (nR d) := fun N' hN' => by rw [mm_sd hM hN', gi_sd]; exact hD.R
  have out : ∀ i E, i < 3 → [IOB, IAE, ISE].getD i "" = E → f_X7_raise Y B x y N = some (.inr E, N) → (∀ N' : XN, N'.1 = N.1 → f_X8_raise Y (B + 908) x y N' = some (nI 0, mm N' B (nI (i + 1)))) → FC2 Y B [IOB, IAE, ISE] (f_X7_raise Y B x y) (f_X8_raise Y (B + 908) x y) N := fun i E hi hE a b => ⟨_, N, a, fun N' hN' => ⟨_, _, b N' hN', (after_read hN' hI _).1, (after_read hN' hI _).2, i, hi, hE, gi_mm _ _ _⟩⟩
  rcases ix_or x (n := nL d) (by omega) with h | ⟨l, hl, rfl⟩
  · refine out 0 IOB (by omega) rfl ?_ (fun N' hN' => ?_)
    · unfold f_X7_raise
      rw [h5, K_has_out.2.1 e3 h]
      simp only [nI_lit, if_true]
      rfl
    · unfold f_X8_raise
      simp (disch := omega) only [↓lt_eq, nI_lit, e0, (noL hM (row_ints hN' hr) hD x).1 h, ↓reduceIte, pLEt, pLEf, pLTt, pLTf, pEQf, pML, pMG, pMf, pMg, bd2_some, nz10]
  · have e2 := (K_has_in (Y := Y) (N := N) (w := B + 7) (d := d) (j := l)).2.1 e3 h8 hl
    rcases one_or y (n := 99) (by omega) with h | ⟨j, j1, j2, rfl⟩
    · refine out 1 IAE (by omega) rfl ?_ (fun N' hN' => ?_)
      · unfold f_X7_raise
        rcases lt1_or (by omega) h with q | ⟨q, q2⟩
        · simp (disch := omega) only [nI_lit, ↓reduceIte, pLEt, pLEf, pLTt, pLTf, pEQf, pML, pMG, pMf, pMg, h5, e2, nz10, q]
          rfl
        · simp (disch := omega) only [nI_lit, ↓reduceIte, pLEt, pLEf, pLTt, pLTf, pEQf, pML, pMG, pMf, pMg, h5, e2, nz10, q, q2]
          rfl
      · have nn := (noN1 (Y := Y) (B := B) (N := N') (n := 99) (by omega) y).1 h
        unfold f_X8_raise
        simp (disch := omega) only [↓lt_eq, nI_lit, e0, (noL hM (row_ints hN' hr) hD (nI l)).2 l hl rfl, ↓reduceIte, pLEt, pLEf, pLTt, pLTf, pEQf, pML, pMG, pMf, pMg, bd2_some, nz10, nn]
    · have nn := fun N' => (noN1 (Y := Y) (B := B) (N := N') (n := 99) (by omega) (nI j)).2 j j1 j2 rfl
      by_cases r60 : nR d = 60
      · refine out 2 ISE (by omega) rfl ?_ (fun N' hN' => ?_)
        · unfold f_X7_raise
          simp (disch := omega) only [nI_lit, ↓reduceIte, pLEt, pLEf, pLTt, pLTf, pEQf, pML, pMG, pMf, pMg, h5, e2, nz10, e5]
          rfl
        · have e60 : (nI (nR d) = nI 60) = True := eq_true (by rw [r60])
          unfold f_X8_raise
          simp (disch := omega) only [↓lt_eq, nI_lit, e0, (noL hM (row_ints hN' hr) hD (nI l)).2 l hl rfl, ↓reduceIte, pLEt, pLEf, pLTt, pLTf, pEQf, pML, pMG, pMf, pMg, bd2_some, nz10, nn, em N' (row_ints hN' hr), e60, fails_t (c := 3)]
      · obtain ⟨Nk, Q, P1, b1, b2, b3, b4⟩ := keep_all hY hdd hh
        obtain ⟨p3, pf, p0, p1, p2, p4, p5, p6, p7, p8⟩ := sPut_at (d := d) (nI l) (d 0) (nI j)
        obtain ⟨u1, u2⟩ := hD.put (l := l) (k := j) (t := d 0) hl j2 (by omega)
        obtain ⟨c1, v1, v2⟩ := C_addRequest (N := Nk) hW hD b4 (l := l) (k := j) (t := d 0) hl (by omega)
        rw [sw_wc] at v1
        have hr2 : nR d < nR (sPut d (nI l) (d 0) (nI j)) := by omega
        obtain ⟨c2, w1, w2⟩ := C_openOrRefuse (N := Nk) hW u1 v2 (r := nR d) hr2 p4
        have dj := u1.raiseNow hr2 p4
        have kp := raiseNow_kept u1 hr2
        have e5k : gi Nk (B + 7) 5 = nI (nR d) := (b4.1.w5).trans hD.R
        have e6k : gi Nk (B + 7) 6 = d 0 := b4.1.w6
        obtain ⟨u, hu⟩ : ∃ u, B + 7 = u := ⟨_, rfl⟩
        refine ⟨.inl (nI (nR d)), sw Nk (B + 7) c2, ?_, fun N' hN' => ?_⟩
        · unfold f_X7_raise
          rw [hu] at h5 e2 e5 hW v1 w1 e5k e6k ⊢
          simp (disch := omega) only [nI_lit, nI_add, ↓reduceIte, pLEt, pLEf, pLTt, pLTf, pEQf, pML, pMG, pMf, pMg, h5, e2, nz10, e5, b1, bd_some, e6k, e5k, v1, xb_nI, nI_clamp, if_true, hW.g4, hW.r, w1]
        · obtain ⟨Nr, r1, r2, r3⟩ := rem_all hY hdd hh b2 hN'
          have hrow := row_after hY hdd hh b2 hN'
          have mp := M_putRequest (Y := Y) (N := Nr) (a := gp Y (B + 908) 8) (d := d) (l := nI l) (t := d 0) (k := nI j) hM.k8 hD.R (by omega)
          rw [← row_sd hM r3] at mp
          have mr := M_raiseNow (Y := Y) (m := B + 908) (N := Nr) u1 hr2 p4
          have ge : gi Nr (gp Y (B + 908) 8) 0 = d 0 := by rw [row_sd hM r3, gi_sd]
          have m1 : nI (nR d + 1) - nI 1 = nI (nR d) := nI_pred _
          have g3' : sRaiseNow (sPut d (nI l) (d 0) (nI j)) (nR d) 3 = nI (nR d + 1) := kp.2.2.1.trans p3
          obtain ⟨z1, z2, z3⟩ := IV_change hY hdd hh ht b2 b3 w2 dj (ZZ_code hz (fun x hx => (kp.code hx).trans (pf _ (by omega) (by omega)))) (by rw [kp.T, tM_same (pf 0 (by omega) (by omega))]; exact hT) hN' r2 jn2.rfl'
          refine ⟨_, _, ?_, z1, z2, z3, rfl⟩
          unfold f_X8_raise
          simp (disch := omega) only [↓lt_eq, nI_lit, e0, (noL hM hrow hD (nI l)).2 l hl rfl, ↓reduceIte, pLEt, pLEf, pLTt, pLTf, pEQf, pML, pMG, pMf, pMg, bd2_some, bd_some, nz10, nn, em N' hrow, fails_f, r1, ge, mp, gi_sd, p3, m1, mr, g3']
theorem F_lease (hY : YO Y B) (hI : IV B N) (x y : Int32) : FC2 Y B [IOB] (f_X7_lease Y B x y) (f_X8_lease Y (B + 908) x y) N := by
  have hY' := hY
  obtain ⟨⟨g0, g3, g4, h5, h6, g7⟩, -, -, hW, hW2, -, hM, -⟩ := hY'
  have hI' := hI
  obtain ⟨⟨ops, d, hdd⟩, ⟨k, p, hh⟩, n, ht⟩ := hI'
  have hdd' := hdd
  obtain ⟨hD, hz, hT, hr, P, hC⟩ := hdd'
  have h8 := hD.L8
  have hh6 := hD.H6
  have e0 : ∀ N' : XN, si N' (B + 908) 0 (nI 0) = mm N' B (nI 0) := fun _ => rfl
  have e3 : gi N (B + 7) 3 = nI (nL d) := (hC.1.w3).trans hD.L
  have e1 : gi N (B + 7) 1 = nI (nH d) := (hC.1.w1).trans hD.H
  have out : f_X7_lease Y B x y N = some (.inr IOB, N) → (∀ N' : XN, N'.1 = N.1 → f_X8_lease Y (B + 908) x y N' = some (nI 0, mm N' B (nI 1))) → FC2 Y B [IOB] (f_X7_lease Y B x y) (f_X8_lease Y (B + 908) x y) N := fun a b => ⟨_, N, a, fun N' hN' => ⟨_, _, b N' hN', (after_read hN' hI _).1, (after_read hN' hI _).2, 0, by decide, rfl, gi_mm _ _ _⟩⟩
  rcases ix_or x (n := nH d) (by omega) with h | ⟨h, hh', rfl⟩
  · refine out ?_ (fun N' hN' => ?_)
    · unfold f_X7_lease
      rw [h5, K_has_out.1 e1 h]
      simp only [nI_lit, if_true]
      rfl
    · unfold f_X8_lease
      simp (disch := omega) only [↓lt_eq, nI_lit, e0, (noH hM (row_ints hN' hr) hD x).1 h, ↓reduceIte, pLEt, pLEf, pLTt, pLTf, pEQf, pML, pMG, pMf, pMg, bd2_some, nz10]
  · have e2 := (K_has_in (Y := Y) (N := N) (w := B + 7) (d := d) (j := h)).1 e1 hh6 hh'
    rcases ix_or y (n := nL d) (by omega) with q | ⟨l, hl, rfl⟩
    · refine out ?_ (fun N' hN' => ?_)
      · unfold f_X7_lease
        rw [h5, e2, K_has_out.2.1 e3 q]
        simp only [nI_lit, nz10, if_true, if_false]
        rfl
      · unfold f_X8_lease
        simp (disch := omega) only [↓lt_eq, nI_lit, e0, (noH hM (row_ints hN' hr) hD (nI h)).2 h hh' rfl, (noL hM (row_ints hN' hr) hD y).1 q, ↓reduceIte, pLEt, pLEf, pLTt, pLTf, pEQf, pML, pMG, pMf, pMg, bd2_some, nz10]
    · have e4 := (K_has_in (Y := Y) (N := N) (w := B + 7) (d := d) (j := l)).2.1 e3 h8 hl
      obtain ⟨Nk, Q, P1, b1, b2, b3, b4⟩ := keep_all hY hdd hh
      have ml := C_mayLease (N := Nk) hW hD b4 (h := h) hh' hl
      rw [sw_wc] at ml
      by_cases q : sMay d h l = true
      · obtain ⟨c2, w1, w2⟩ := C_letLease (N := Nk) hW hD b4 (h := h) hh' hl q
        rw [sw_wc] at w1
        obtain ⟨dj, kp⟩ := hD.lease (h := h) hh' hl q
        refine ⟨.inl (nI (sLease d h l).1), sw Nk (B + 7) c2, ?_, fun N' hN' => ?_⟩
        · unfold f_X7_lease
          simp (disch := omega) only [nI_lit, ↓reduceIte, pLEt, pLEf, pLTt, pLTf, pEQf, pML, pMG, pMf, pMg, h5, e2, e4, nz10, b1, bd_some, ml, q, w1, bd2_some]
        · obtain ⟨Nr, r1, r2, r3⟩ := rem_all hY hdd hh b2 hN'
          have hrow := row_after hY hdd hh b2 hN'
          have m1 := M_mayLease (Y := Y) (m := B + 908) (N := Nr) hM hD (h := h) hh' hl
          have m2 := M_leaseNow (Y := Y) (m := B + 908) (N := Nr) hD (h := h) hh' hl q
          rw [← row_sd hM r3] at m1 m2
          obtain ⟨z1, z2, z3⟩ := IV_change hY hdd hh ht b2 b3 w2 dj (ZZ_code hz (fun x hx => kp.code hx)) (by rw [kp.T]; exact hT) hN' r2 jn2.rfl'
          refine ⟨_, _, ?_, z1, z2, z3, rfl⟩
          unfold f_X8_lease
          simp (disch := omega) only [↓lt_eq, nI_lit, e0, (noH hM hrow hD (nI h)).2 h hh' rfl, (noL hM hrow hD (nI l)).2 l hl rfl, ↓reduceIte, pLEt, pLEf, pLTt, pLTf, pEQf, pML, pMG, pMf, pMg, bd2_some, bd_some, nz10, r1, m1, q, m2]
      · refine ⟨.inl (-nI 1), sw Nk (B + 7) (wc Nk (B + 7)), ?_, fun N' hN' => ?_⟩
        · unfold f_X7_lease
          simp (disch := omega) only [nI_lit, ↓reduceIte, pLEt, pLEf, pLTt, pLTf, pEQf, pML, pMG, pMf, pMg, h5, e2, e4, nz10, b1, bd_some, ml, eq_false q, Bool.false_eq_true]
          rw [sw_wc]
        · obtain ⟨Nr, r1, r2, r3⟩ := rem_all hY hdd hh b2 hN'
          have hrow := row_after hY hdd hh b2 hN'
          have m1 := M_mayLease (Y := Y) (m := B + 908) (N := Nr) hM hD (h := h) hh' hl
          rw [← row_sd hM r3] at m1
          obtain ⟨z1, z2, z3⟩ := IV_change hY hdd hh ht b2 b3 b4 hD hz hT hN' r2 jn2.rfl'
          rw [← row_sd hM r3] at z1 z2 z3
          refine ⟨_, _, ?_, z1, z2, z3, rfl⟩
          unfold f_X8_lease
          simp (disch := omega) only [↓lt_eq, nI_lit, e0, (noH hM hrow hD (nI h)).2 h hh' rfl, (noL hM hrow hD (nI l)).2 l hl rfl, ↓reduceIte, pLEt, pLEf, pLTt, pLTf, pEQf, pML, pMG, pMf, pMg, bd2_some, bd_some, nz10, r1, m1, eq_false q, Bool.false_eq_true]
theorem F_release (hY : YO Y B) (hI : IV B N) (x y : Int32) : FC2 Y B [IOB] (f_X7_release Y B x y) (f_X8_release Y (B + 908) x y) N := by
  have hY' := hY
  obtain ⟨⟨g0, g3, g4, h5, h6, g7⟩, -, -, hW, hW2, -, hM, -⟩ := hY'
  have hI' := hI
  obtain ⟨⟨ops, d, hdd⟩, ⟨k, p, hh⟩, n, ht⟩ := hI'
  have hdd' := hdd
  obtain ⟨hD, hz, hT, hr, P, hC⟩ := hdd'
  have h8 := hD.L8
  have hh6 := hD.H6
  have e0 : ∀ N' : XN, si N' (B + 908) 0 (nI 0) = mm N' B (nI 0) := fun _ => rfl
  have e3 : gi N (B + 7) 3 = nI (nL d) := (hC.1.w3).trans hD.L
  have e1 : gi N (B + 7) 1 = nI (nH d) := (hC.1.w1).trans hD.H
  have out : f_X7_release Y B x y N = some (.inr IOB, N) → (∀ N' : XN, N'.1 = N.1 → f_X8_release Y (B + 908) x y N' = some (nI 0, mm N' B (nI 1))) → FC2 Y B [IOB] (f_X7_release Y B x y) (f_X8_release Y (B + 908) x y) N := fun a b => ⟨_, N, a, fun N' hN' => ⟨_, _, b N' hN', (after_read hN' hI _).1, (after_read hN' hI _).2, 0, by decide, rfl, gi_mm _ _ _⟩⟩
  rcases ix_or x (n := nH d) (by omega) with h | ⟨h, hh', rfl⟩
  · refine out ?_ (fun N' hN' => ?_)
    · unfold f_X7_release
      rw [h5, K_has_out.1 e1 h]
      simp only [nI_lit, if_true]
      rfl
    · unfold f_X8_release
      simp (disch := omega) only [↓lt_eq, nI_lit, e0, (noH hM (row_ints hN' hr) hD x).1 h, ↓reduceIte, pLEt, pLEf, pLTt, pLTf, pEQf, pML, pMG, pMf, pMg, bd2_some, nz10]
  · have e2 := (K_has_in (Y := Y) (N := N) (w := B + 7) (d := d) (j := h)).1 e1 hh6 hh'
    rcases ix_or y (n := nL d) (by omega) with q | ⟨l, hl, rfl⟩
    · refine out ?_ (fun N' hN' => ?_)
      · unfold f_X7_release
        rw [h5, e2, K_has_out.2.1 e3 q]
        simp only [nI_lit, nz10, if_true, if_false]
        rfl
      · unfold f_X8_release
        simp (disch := omega) only [↓lt_eq, nI_lit, e0, (noH hM (row_ints hN' hr) hD (nI h)).2 h hh' rfl, (noL hM (row_ints hN' hr) hD y).1 q, ↓reduceIte, pLEt, pLEf, pLTt, pLTf, pEQf, pML, pMG, pMf, pMg, bd2_some, nz10]
    · have e4 := (K_has_in (Y := Y) (N := N) (w := B + 7) (d := d) (j := l)).2.1 e3 h8 hl
      obtain ⟨t1, t2, t3, t4⟩ := hD.ln l hl
      obtain ⟨Nk, Q, P1, b1, b2, b3, b4⟩ := keep_all hY hdd hh
      have ml := C_placeOf (N := Nk) hW b4.1 (h := nI h) hl h8 t1 (Nat.le_refl _) t2
      rw [sw_wc] at ml
      obtain ⟨u, hu⟩ : ∃ u, B + 7 = u := ⟨_, rfl⟩
      by_cases q : (sTP d l (nI h)).isSome = true
      · have q0 : (pI (sTP d l (nI h)) < nI 0) = False := eq_false (fun z => by rw [(pI_neg _ sTP_lt).1.mp z] at q; cases q)
        obtain ⟨c2, w1, w2⟩ := C_letRelease (N := Nk) hW hD b4 (h := h) hh' hl
        rw [sw_wc] at w1
        obtain ⟨dj, kp⟩ := hD.release (h := h) hl
        refine ⟨.inl (nI (sRelease d h l).1), sw Nk (B + 7) c2, ?_, fun N' hN' => ?_⟩
        · unfold f_X7_release
          rw [hu] at h5 e2 e4 hW ml w1 ⊢
          simp (disch := omega) only [nI_lit, ↓reduceIte, pLEt, pLEf, pLTt, pLTf, pEQf, pML, pMG, pMf, pMg, h5, e2, e4, nz10, b1, bd_some, xb_nI, nI_clamp, if_true, hW.g2, hW.l, ml, q0, w1, bd2_some]
        · obtain ⟨Nr, r1, r2, r3⟩ := rem_all hY hdd hh b2 hN'
          have hrow := row_after hY hdd hh b2 hN'
          have m1 := M_isTenant (Y := Y) (m := B + 908) (N := Nr) (h := nI h) hM (show l < 8 by omega) t1 t2
          have m2 := M_leave (Y := Y) (m := B + 908) (N := Nr) (h := nI h) hM (show l < 8 by omega) t1 t2
          rw [← row_sd hM r3] at m1 m2
          have a1 := hD.leave hl (nI h)
          have m3 := M_release_L (Y := Y) (m := B + 908) (N := Nr) (h := nI h) (l := nI l) (nR (sLeave d (nI h) l)) 0 FU (0, sLeave d (nI h) l) a1 (Nat.zero_add _) (by have := a1.R60; unfold FU; omega)
          obtain ⟨z1, z2, z3⟩ := IV_change hY hdd hh ht b2 b3 w2 dj (ZZ_code hz (fun x hx => kp.code hx)) (by rw [kp.T]; exact hT) hN' r2 jn2.rfl'
          refine ⟨_, _, ?_, z1, z2, z3, rfl⟩
          unfold f_X8_release
          simp (disch := omega) only [↓lt_eq, nI_lit, e0, (noH hM hrow hD (nI h)).2 h hh' rfl, (noL hM hrow hD (nI l)).2 l hl rfl, ↓reduceIte, pLEt, pLEf, pLTt, pLTf, pEQf, pML, pMG, pMf, pMg, bd2_some, bd_some, nz10, r1, m1, q, m2]
          exact m3
      · have q0 : (pI (sTP d l (nI h)) < nI 0) = True := eq_true ((pI_neg _ sTP_lt).1.mpr (by cases z : sTP d l (nI h) with | none => rfl | some k => rw [z] at q; exact absurd rfl q))
        refine ⟨.inl (-nI 1), sw Nk (B + 7) (wc Nk (B + 7)), ?_, fun N' hN' => ?_⟩
        · unfold f_X7_release
          rw [sw_wc]
          rw [hu] at h5 e2 e4 hW ml
          simp (disch := omega) only [nI_lit, ↓reduceIte, pLEt, pLEf, pLTt, pLTf, pEQf, pML, pMG, pMf, pMg, h5, e2, e4, nz10, b1, bd_some, xb_nI, nI_clamp, if_true, hW.g2, hW.l, ml, q0]
        · obtain ⟨Nr, r1, r2, r3⟩ := rem_all hY hdd hh b2 hN'
          have hrow := row_after hY hdd hh b2 hN'
          have m1 := M_isTenant (Y := Y) (m := B + 908) (N := Nr) (h := nI h) hM (show l < 8 by omega) t1 t2
          rw [← row_sd hM r3] at m1
          obtain ⟨z1, z2, z3⟩ := IV_change hY hdd hh ht b2 b3 b4 hD hz hT hN' r2 jn2.rfl'
          rw [← row_sd hM r3] at z1 z2 z3
          refine ⟨_, _, ?_, z1, z2, z3, rfl⟩
          unfold f_X8_release
          simp (disch := omega) only [↓lt_eq, nI_lit, e0, (noH hM hrow hD (nI h)).2 h hh' rfl, (noL hM hrow hD (nI l)).2 l hl rfl, ↓reduceIte, pLEt, pLEf, pLTt, pLTf, pEQf, pML, pMG, pMf, pMg, bd2_some, bd_some, nz10, r1, m1, eq_false q, Bool.false_eq_true]
/-- behind funding -/
def sFund (d : XD) (h : Nat) (v : Int32) : XD := upd (upd d (12 + 6 * h) (d (12 + 6 * h) + v)) (14 + 6 * h) (nI 0)
theorem F_fund (hY : YO Y B) (hI : IV B N) (x y : Int32) : FC2 Y B [IOB, IAE] (f_X7_fund Y B x y) (f_X8_fund Y (B + 908) x y) N := by
  have hY' := hY
  obtain ⟨⟨g0, g3, g4, h5, h6, g7⟩, -, -, hW, hW2, -, hM, -⟩ := hY'
  have hI' := hI
  obtain ⟨⟨ops, d, hdd⟩, ⟨k, p, hh⟩, n, ht⟩ := hI'
  have hdd' := hdd
  obtain ⟨hD, hz, hT, hr, P, hC⟩ := hdd'
  have hh6 := hD.H6
  have h8 := hD.L8
  have e0 : ∀ N' : XN, si N' (B + 908) 0 (nI 0) = mm N' B (nI 0) := fun _ => rfl
  have e1 : gi N (B + 7) 1 = nI (nH d) := (hC.1.w1).trans hD.H
  have out : ∀ i E, i < 2 → [IOB, IAE].getD i "" = E → f_X7_fund Y B x y N = some (.inr E, N) → (∀ N' : XN, N'.1 = N.1 → f_X8_fund Y (B + 908) x y N' = some (nI 0, mm N' B (nI (i + 1)))) → FC2 Y B [IOB, IAE] (f_X7_fund Y B x y) (f_X8_fund Y (B + 908) x y) N := fun i E hi hE a b => ⟨_, N, a, fun N' hN' => ⟨_, _, b N' hN', (after_read hN' hI _).1, (after_read hN' hI _).2, i, hi, hE, gi_mm _ _ _⟩⟩
  rcases ix_or x (n := nH d) (by omega) with h | ⟨h, hh', rfl⟩
  · refine out 0 IOB (by omega) rfl ?_ (fun N' hN' => ?_)
    · unfold f_X7_fund
      rw [h5, K_has_out.1 e1 h]
      simp only [nI_lit, if_true]
      rfl
    · unfold f_X8_fund
      simp (disch := omega) only [↓lt_eq, nI_lit, e0, (noH hM (row_ints hN' hr) hD x).1 h, ↓reduceIte, pLEt, pLEf, pLTt, pLTf, pEQf, pML, pMG, pMf, pMg, bd2_some, nz10]
  · have e2 := (K_has_in (Y := Y) (N := N) (w := B + 7) (d := d) (j := h)).1 e1 hh6 hh'
    rcases one_or y (n := 9999) (by omega) with q | ⟨j, j1, j2, rfl⟩
    · refine out 1 IAE (by omega) rfl ?_ (fun N' hN' => ?_)
      · unfold f_X7_fund
        rcases lt1_or (by omega) q with q1 | ⟨q1, q2⟩
        · simp (disch := omega) only [nI_lit, ↓reduceIte, pLEt, pLEf, pLTt, pLTf, pEQf, pML, pMG, pMf, pMg, h5, e2, nz10, q1]
          rfl
        · simp (disch := omega) only [nI_lit, ↓reduceIte, pLEt, pLEf, pLTt, pLTf, pEQf, pML, pMG, pMf, pMg, h5, e2, nz10, q1, q2]
          rfl
      · have nn := (noN1 (Y := Y) (B := B) (N := N') (n := 9999) (by omega) y).1 q
        unfold f_X8_fund
        simp (disch := omega) only [↓lt_eq, nI_lit, e0, (noH hM (row_ints hN' hr) hD (nI h)).2 h hh' rfl, ↓reduceIte, pLEt, pLEf, pLTt, pLTf, pEQf, pML, pMG, pMf, pMg, bd2_some, nz10, nn]
    · have nn := fun N' => (noN1 (Y := Y) (B := B) (N := N') (n := 9999) (by omega) (nI j)).2 j j1 j2 rfl
      obtain ⟨Nk, Q, P1, b1, b2, b3, b4⟩ := keep_all hY hdd hh
      have hD1 : DJ ops (upd d (12 + 6 * h) (d (12 + 6 * h) + nI j)) := DJ_F hD (fun x hx => by unfold FX at hx; exact upd_n (by omega))
      have hD2 : DJ ops (sFund d h (nI j)) := DJ_H hD1 (i := h) (by rw [nH_same (upd_n (by omega))]; exact hh') (fun x _ q => upd_n q) (Or.inl (upd_s _ _ _))
      have C1 := b4.free_h hD (i := h) (k := 0) (j := 12) (v := d (12 + 6 * h) + nI j) hh' (by unfold Hp; decide)
      have C2 := C1.free_h hD1 (i := h) (k := 2) (j := 14) (v := nI 0) (by rw [nH_same (upd_n (by omega))]; exact hh') (by unfold Hp; decide)
      have fh0 : gi Nk (B + 7 + (8 + h)) 0 = d (12 + 6 * h) := b4.1.h0 hh'
      have far : ∀ x, 60 ≤ x ∨ x < 12 → sFund d h (nI j) x = d x := fun x hx => by unfold sFund; rw [upd_n (by omega), upd_n (by omega)]
      obtain ⟨u, hu⟩ : ∃ u, B + 7 = u := ⟨_, rfl⟩
      refine ⟨.inl (d (12 + 6 * h) + nI j), sw Nk (B + 7) (up2 (up2 (wc Nk (B + 7)) (8 + h) 0 (d (12 + 6 * h) + nI j)) (8 + h) 2 (nI 0)), ?_, fun N' hN' => ?_⟩
      · have es : sw Nk (B + 7) (up2 (up2 (wc Nk (B + 7)) (8 + h) 0 (d (12 + 6 * h) + nI j)) (8 + h) 2 (nI 0)) = si (si Nk (B + 7 + (8 + h)) 0 (d (12 + 6 * h) + nI j)) (B + 7 + (8 + h)) 2 (nI 0) := by
          rw [← si_sw _ _ _ _ _ (by omega), ← si_sw _ _ _ _ _ (by omega), sw_wc]
        rw [es]
        unfold f_X7_fund
        rw [hu] at h5 e2 hW fh0 ⊢
        have g9 : gi (si (si Nk (u + (8 + h)) 0 (d (12 + 6 * h) + nI j)) (u + (8 + h)) 2 (nI 0)) (u + (8 + h)) 0 = d (12 + 6 * h) + nI j := by rw [gi_si_n (Or.inr (by omega)), gi_si]
        simp (disch := omega) only [↓lt_eq, nI_lit, ↓reduceIte, pLEt, pLEf, pLTt, pLTf, pEQf, pML, pMG, pMf, pMg, h5, e2, nz10, b1, bd_some, xb_nI, nI_clamp, if_true, hW.g0, hW.h, fh0, g9]
      · obtain ⟨Nr, r1, r2, r3⟩ := rem_all hY hdd hh b2 hN'
        have hrow := row_after hY hdd hh b2 hN'
        have hrs := row_sd hM r3
        obtain ⟨z1, z2, z3⟩ := IV_change hY hdd hh ht b2 b3 C2 hD2 (ZZ_code hz (fun x hx => far x (by omega))) (by show tM (sFund d h (nI j)) ≤ 9999; rw [tM_same (far 0 (by omega))]; exact hT) hN' r2 jn2.rfl'
        refine ⟨d (12 + 6 * h) + nI j, _, ?_, z1, z2, z3, rfl⟩
        rw [hrs] at r1
        unfold f_X8_fund f_X8_ofHandler
        simp (disch := omega) only [↓lt_eq, nI_lit, e0, (noH hM hrow hD (nI h)).2 h hh' rfl, ↓reduceIte, pLEt, pLEf, pLTt, pLTf, pEQf, pML, pMG, pMf, pMg, bd2_some, bd_some, nz10, nn, r1, f_X8_handlerAt, pk_mul, nI_add, Nat.add_zero, aN2, Nat.reduceAdd, xb_nI, nI_clamp, if_true, gi_sd, si_sd, sd_sd', upd_n, upd_s]
end CG2
