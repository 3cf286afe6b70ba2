/-! PRUNED: of whole -/
section CC3
variable {P : Nat → Int32} {Y : XY} {w : Nat} {N : XN} {c : Nat → Nat → Int32} {d : XD} {ops : List Int32}
theorem CR.done (hD : DJ ops d) (hC : CR P ops d c) {r : Nat} {u : Int32} (hr : r < nR d) : CR P ops (sDone d u r) (up2 (up2 c (30 + r) 5 (d (109 + 8 * r) - mn u (d (109 + 8 * r)))) (30 + r) 6 (d 0)) := by
  have h6 := hD.H6
  have h8 := hD.L8
  obtain ⟨hC1, hC2, hC3⟩ := hC
  have at1 : ∀ j, j ≠ 109 + 8 * r → j ≠ 111 + 8 * r → sDone d u r j = d j := fun j q1 q2 => by unfold sDone; rw [upd_n q2, upd_n q1]
  refine ⟨((hC1.ur5 h6 h8 hr).ur6 h6 h8 hr).row (at1 1 (by omega) (by omega)) (at1 2 (by omega) (by omega)) (at1 3 (by omega) (by omega)) (fun l hl => at1 _ (by omega) (by omega)), (hC2.up (by omega) (by omega)).up (by omega) (by omega), fun i hi => ?_⟩
  have eH : nH (sDone d u r) = nH d := nH_same (at1 1 (by omega) (by omega))
  rw [up2_n _ _ (by omega), up2_n _ _ (by omega), hC3 i (by omega)]
  congr 1
  exact (sHeld_same (nR_same (at1 3 (by omega) (by omega))) (fun y hy => ⟨at1 _ (by omega) (by omega), at1 _ (by omega) (by omega)⟩)).symm
theorem mn_t {u x : Int32} (h : u ≤ x) : mn u x = u := by
  unfold mn
  by_cases q : x ≤ u
  · rw [if_pos q]; exact Int32.le_antisymm q h
  · rw [if_neg q]
theorem mn_f {u x : Int32} (h : ¬ u ≤ x) : mn u x = x := by
  unfold mn
  rw [if_pos]
  rw [Int32.le_iff_toInt_le] at h ⊢
  omega
theorem C_work_L (hY : WY Y w) {h : Nat} : ∀ (z i D9 : Nat) (s : Int32 × XD) (c : Nat → Nat → Int32), DJ ops s.2 → CR P ops s.2 c → i + z = nR s.2 → z < D9 → h < nH s.2 → ∃ c', f_X6_doWork_12 Y D9 w (nI h) s.1 (nI i) (sw N w c) = some (sw N w c') ∧ CR P ops (fo (sWorkF h) i z s).2 c' := by
  intro z
  induction z with
  | zero =>
    intro i D9 s c hD hC hi hD9 hh
    have h60 := hD.R60
    obtain ⟨D8, rfl⟩ : ∃ z, D9 = z + 1 := ⟨D9 - 1, by omega⟩
    refine ⟨c, ?_, hC⟩
    rw [f_X6_doWork_12]
    simp (disch := omega) only [↓lt_eq, bd, bd2, Option.bind_some, nI_lit, nI_clamp, nI_add, xb_nI, if_true, gi_sw, gi_sw0, si_sw, si_sw0, hY.g0, hY.g2, hY.g4, hY.g13, hY.g14, hY.f0, hY.f2, hY.h, hY.l, hY.t, hY.r, ↓reduceIte, pLEt, pLEf, pLTt, pLTf, pEQf, pML, pMG, pMf, pMg, hC.1.w5, hD.R]
  | succ z ih =>
    intro i D9 s c hD hC hi hD9 hh
    have h60 := hD.R60
    have h6 := hD.H6
    obtain ⟨D8, rfl⟩ : ∃ z, D9 = z + 1 := ⟨D9 - 1, by omega⟩
    obtain ⟨a1, a2⟩ := hD.workF (r := i) (h := h) (by omega) hh
    have IH := fun c' (hc' : CR P ops (sWorkF h i s).2 c') => ih (i + 1) D8 (sWorkF h i s) c' a1 hc' (by rw [a2.R]; omega) (by omega) (by rw [a2.H]; exact hh)
    rw [f_X6_doWork_12]
    by_cases q1 : s.1 ≤ nI 0
    · refine ⟨c, ?_, by rw [fo_work_0 q1]; exact hC⟩
      simp (disch := omega) only [↓lt_eq, bd, bd2, Option.bind_some, nI_lit, nI_clamp, nI_add, xb_nI, if_true, gi_sw, gi_sw0, si_sw, si_sw0, hY.g0, hY.g2, hY.g4, hY.g13, hY.g14, hY.f0, hY.f2, hY.h, hY.l, hY.t, hY.r, ↓reduceIte, pLEt, pLEf, pLTt, pLTf, pEQf, pML, pMG, pMf, pMg, hC.1.w5, hD.R, eq_true q1]
    · rw [fo]
      by_cases p1 : s.2 (107 + 8 * i) = nI 1
      · by_cases p2 : s.2 (108 + 8 * i) = nI h
        · have q2 : sHolds s.2 (nI h) i = true := by unfold sHolds sOpen; rw [decide_eq_true p1, decide_eq_true p2]; rfl
          have g1 := hD.done q1 (r := i) (by omega)
          have g2 := sDone_kept (d := s.2) (u := s.1) (r := i) (by omega)
          have gC := CR.done hD hC (r := i) (u := s.1) (by omega)
          have atd : ∀ j, j ≠ 109 + 8 * i → j ≠ 111 + 8 * i → sDone s.2 s.1 i j = s.2 j := fun j z1 z2 => by unfold sDone; rw [upd_n z2, upd_n z1]
          rw [sWorkF_eq, if_neg q1, if_pos q2] at IH ⊢
          by_cases q3 : s.2 (109 + 8 * i) - mn s.1 (s.2 (109 + 8 * i)) = nI 0
          · rw [if_pos q3] at IH ⊢
            obtain ⟨c1, b1, b2⟩ := C_answer (N := N) hY g1 gC (r := i) (g := h) (by rw [g2.R]; omega) (by rw [atd _ (by omega) (by omega)]; exact p1) (by rw [g2.H]; exact hh) (by rw [atd _ (by omega) (by omega)]; exact p2)
            obtain ⟨c2, f1, f2⟩ := IH c1 b2
            refine ⟨c2, ?_, f2⟩
            by_cases q4 : s.1 ≤ s.2 (109 + 8 * i)
            · rw [mn_t q4] at b1 f1 q3
              simp (disch := omega) only [↓lt_eq, bd, bd2, Option.bind_some, nI_lit, nI_clamp, nI_add, xb_nI, if_true, gi_sw, gi_sw0, si_sw, si_sw0, hY.g0, hY.g2, hY.g4, hY.g13, hY.g14, hY.f0, hY.f2, hY.h, hY.l, hY.t, hY.r, ↓reduceIte, pLEt, pLEf, pLTt, pLTf, pEQf, pML, pMG, pMf, pMg, hC.1.w5, hD.R, eq_false q1, hC.1.r3, hC.1.r4, hC.1.r5, eq_true p1, eq_true p2, eq_true q4, up2_s, up2_n, hC.1.w6, eq_true q3, b1]
              exact f1
            · rw [mn_f q4] at b1 f1 q3
              simp (disch := omega) only [↓lt_eq, bd, bd2, Option.bind_some, nI_lit, nI_clamp, nI_add, xb_nI, if_true, gi_sw, gi_sw0, si_sw, si_sw0, hY.g0, hY.g2, hY.g4, hY.g13, hY.g14, hY.f0, hY.f2, hY.h, hY.l, hY.t, hY.r, ↓reduceIte, pLEt, pLEf, pLTt, pLTf, pEQf, pML, pMG, pMf, pMg, hC.1.w5, hD.R, eq_false q1, hC.1.r3, hC.1.r4, hC.1.r5, eq_true p1, eq_true p2, eq_false q4, up2_s, up2_n, hC.1.w6, eq_true q3, b1]
              exact f1
          · rw [if_neg q3] at IH ⊢
            obtain ⟨c2, f1, f2⟩ := IH _ gC
            refine ⟨c2, ?_, f2⟩
            by_cases q4 : s.1 ≤ s.2 (109 + 8 * i)
            · rw [mn_t q4] at f1 q3
              simp (disch := omega) only [↓lt_eq, bd, bd2, Option.bind_some, nI_lit, nI_clamp, nI_add, xb_nI, if_true, gi_sw, gi_sw0, si_sw, si_sw0, hY.g0, hY.g2, hY.g4, hY.g13, hY.g14, hY.f0, hY.f2, hY.h, hY.l, hY.t, hY.r, ↓reduceIte, pLEt, pLEf, pLTt, pLTf, pEQf, pML, pMG, pMf, pMg, hC.1.w5, hD.R, eq_false q1, hC.1.r3, hC.1.r4, hC.1.r5, eq_true p1, eq_true p2, eq_true q4, up2_s, up2_n, hC.1.w6, eq_false q3]
              exact f1
            · rw [mn_f q4] at f1 q3
              simp (disch := omega) only [↓lt_eq, bd, bd2, Option.bind_some, nI_lit, nI_clamp, nI_add, xb_nI, if_true, gi_sw, gi_sw0, si_sw, si_sw0, hY.g0, hY.g2, hY.g4, hY.g13, hY.g14, hY.f0, hY.f2, hY.h, hY.l, hY.t, hY.r, ↓reduceIte, pLEt, pLEf, pLTt, pLTf, pEQf, pML, pMG, pMf, pMg, hC.1.w5, hD.R, eq_false q1, hC.1.r3, hC.1.r4, hC.1.r5, eq_true p1, eq_true p2, eq_false q4, up2_s, up2_n, hC.1.w6, eq_false q3]
              exact f1
        · have q2 : ¬ sHolds s.2 (nI h) i = true := fun z => p2 (sHolds_of z).2
          rw [sWorkF_eq, if_neg q1, if_neg q2] at IH ⊢
          obtain ⟨c2, f1, f2⟩ := IH c hC
          refine ⟨c2, ?_, f2⟩
          simp (disch := omega) only [↓lt_eq, bd, bd2, Option.bind_some, nI_lit, nI_clamp, nI_add, xb_nI, if_true, gi_sw, gi_sw0, si_sw, si_sw0, hY.g0, hY.g2, hY.g4, hY.g13, hY.g14, hY.f0, hY.f2, hY.h, hY.l, hY.t, hY.r, ↓reduceIte, pLEt, pLEf, pLTt, pLTf, pEQf, pML, pMG, pMf, pMg, hC.1.w5, hD.R, eq_false q1, hC.1.r3, hC.1.r4, eq_true p1, eq_false p2]
          exact f1
      · have q2 : ¬ sHolds s.2 (nI h) i = true := fun z => p1 (sHolds_of z).1
        rw [sWorkF_eq, if_neg q1, if_neg q2] at IH ⊢
        obtain ⟨c2, f1, f2⟩ := IH c hC
        refine ⟨c2, ?_, f2⟩
        simp (disch := omega) only [↓lt_eq, bd, bd2, Option.bind_some, nI_lit, nI_clamp, nI_add, xb_nI, if_true, gi_sw, gi_sw0, si_sw, si_sw0, hY.g0, hY.g2, hY.g4, hY.g13, hY.g14, hY.f0, hY.f2, hY.h, hY.l, hY.t, hY.r, ↓reduceIte, pLEt, pLEf, pLTt, pLTf, pEQf, pML, pMG, pMf, pMg, hC.1.w5, hD.R, eq_false q1, hC.1.r3, eq_false p1]
        exact f1
theorem C_doWork (hY : WY Y w) (hD : DJ ops d) (hC : CR P ops d c) {h : Nat} (hh : h < nH d) : ∃ c', f_X6_doWork Y w (nI h) (sw N w c) = some (sw N w c') ∧ CR P ops (sWork d h) c' := by
  have h6 := hD.H6
  have h60 := hD.R60
  obtain ⟨c', a1, a2⟩ := C_work_L (N := N) hY (h := h) (nR d) 0 FU (d (13 + 6 * h), d) c hD hC (Nat.zero_add _) (by unfold FU; omega) hh
  refine ⟨c', ?_, a2⟩
  unfold f_X6_doWork
  simp (disch := omega) only [↓lt_eq, bd, bd2, Option.bind_some, nI_lit, nI_clamp, nI_add, xb_nI, if_true, gi_sw, gi_sw0, si_sw, si_sw0, hY.g0, hY.g2, hY.g4, hY.g13, hY.g14, hY.f0, hY.f2, hY.h, hY.l, hY.t, hY.r, ↓reduceIte, pLEt, pLEf, pLTt, pLTf, pEQf, pML, pMG, pMf, pMg, hC.1.h1]
  exact a1
/-- a handler that holds nothing does no work -/
theorem work_none (h : Nat) : ∀ (z i : Nat) (s : Int32 × XD), i + z = nR s.2 → (∀ r, r < nR s.2 → sHolds s.2 (nI h) r = false) → fo (sWorkF h) i z s = s := by
  intro z
  induction z with
  | zero => intro i s _ _; rfl
  | succ z ih =>
    intro i s hi hn
    have e : sWorkF h i s = s := by
      rw [sWorkF_eq, if_neg (c := sHolds s.2 (nI h) i = true) (by rw [hn i (by omega)]; decide)]
      split <;> rfl
    rw [fo, e]
    exact ih (i + 1) s (by omega) hn
theorem C_value (hY : WY Y w) (hD : DJ ops d) (hC : CR P ops d c) {li le he wa : Int32} (s1 : sml li) (s2 : sml le) (s3 : sml he) (s4 : sml wa) : ∃ c', f_X0_value Y (w + 4) li le he wa (sw N w c) = some (sFV ops li le he wa, sw N w c') ∧ CR P ops d c' := by
  have h6 := hD.H6
  obtain ⟨hC1, hC2, hC3⟩ := hC
  obtain ⟨⟨g, k1⟩, k2, k3, k4, k5⟩ := hD.C
  obtain ⟨c', a1, a2⟩ := C_value_L (N := N) hY s1 s2 s3 s4 ops 0 0 FU g c (fun _ => le.toInt) k1 (by rw [Nat.zero_add]; exact hC2.1.1) (fun k hk => by rw [Nat.zero_add]; exact hC2.1.2 k hk) (by omega) (by unfold FU; omega) (by omega) (by omega) (fun k hk => absurd hk (by omega)) (fun _ => rfl)
  refine ⟨c', a1, ?_, hC2.same (fun k => a2 _ _ (by omega)) (fun k => a2 _ _ (by omega)) (fun k => a2 _ _ (by omega)), fun i hi => by rw [a2 _ _ (by omega)]; exact hC3 i hi⟩
  obtain ⟨w1, w2, w3, w4, w5⟩ := hC1
  exact ⟨fun k j h => by rw [a2 _ _ (by omega)]; exact w1 k j h, fun i k j hi h => by rw [a2 _ _ (by omega)]; exact w2 i k j hi h, fun i k j hi h => by rw [a2 _ _ (by omega)]; exact w3 i k j hi h, fun i k hi h3 h => by rw [a2 _ _ (by omega)]; exact w4 i k hi h3 h, fun i k j hi h => by rw [a2 _ _ (by omega)]; exact w5 i k j hi h⟩
theorem sTake_kept (hD : DJ ops d) {h : Nat} {amt : Int32} (hh : h < nH d) : nH (sTake d h amt) = nH d ∧ nL (sTake d h amt) = nL d ∧ nR (sTake d h amt) = nR d ∧ (∀ r, sTake d h amt (104 + 8 * r) = d (104 + 8 * r)) := by
  have h6 := hD.H6
  have hD1 : ∀ v, DJ ops (upd d (12 + 6 * h) v) := fun v => DJ_F hD (fun j hj => by unfold FX at hj; exact upd_n (by omega))
  have fr : ∀ j, j < 12 ∨ (104 ≤ j ∧ (j - 104) % 8 = 0) → sTake d h amt j = d j := by
    intro j hj
    by_cases q : j < 12
    · exact sTake_far hD hh (by omega)
    · unfold sTake
      split
      · exact upd_n (by omega)
      · have hB := (hD1 (d (12 + 6 * h) - mn amt (d (12 + 6 * h)))).broke (h := h) (by rw [nH_same (upd_n (by omega))]; exact hh)
        obtain ⟨k1, -, k3⟩ := sLeaveAll_keep hB (nI h)
        obtain ⟨m1, m2⟩ := sReAll_keep k1 (nI h)
        unfold sBankrupt
        rw [m2 j (by omega), k3 j (by omega), upd_n (by omega), upd_n (by omega)]
  exact ⟨nH_same (fr 1 (by omega)), nL_same (fr 2 (by omega)), nR_same (fr 3 (by omega)), fun r => fr _ (by omega)⟩
theorem C_chargeFine (hY : WY Y w) (hD : DJ ops d) (hC : CR P ops d c) (hT : tM d ≤ 1000000) {r : Nat} (hr : r < nR d) (ho : d (107 + 8 * r) = nI 1) (hh : d (108 + 8 * r) ≠ -nI 1) : ∃ c', f_X6_chargeFine Y w (w + (30 + r)) (sw N w c) = some (sw N w c') ∧ CR P ops (sProg (sMustPay d (hR d r) (sFineV ops d r) 3 (50 + 7 * lR d r)) r) c' := by
  have h6 := hD.H6
  have h8 := hD.L8
  have h60 := hD.R60
  obtain ⟨hl, el⟩ := hD.line hr
  obtain ⟨k1, k2⟩ := holder_of hD hr ho hh
  have tp : toP (50 + 7 * lR d r) := by unfold toP; omega
  obtain ⟨s1, s2, s3, s4⟩ := fine_sml hD hT hr
  obtain ⟨c1, v1, v2⟩ := C_value (N := N) hY hD hC s1 s2 s3 s4
  obtain ⟨c2, t1, t2⟩ := C_takeFrom (N := N) hY hD v2 (h := hR d r) (amt := sFineV ops d r) k1
  have hD2 := hD.take (h := hR d r) (amt := sFineV ops d r) k1
  obtain ⟨z1, z2, z3, z4⟩ := sTake_kept hD (h := hR d r) (amt := sFineV ops d r) k1
  have f4 := sTake_far hD (h := hR d r) (j := 15 + 6 * hR d r) (amt := sFineV ops d r) k1 (by omega)
  have f5 := sTake_far hD (h := hR d r) (j := 50 + 7 * lR d r) (amt := sFineV ops d r) k1 (by omega)
  have m1 := mustPay_kept hD (amount := sFineV ops d r) (Or.inl rfl) tp k1
  have m2 := (hD.mustPay (amount := sFineV ops d r) (Or.inl rfl) tp k1).1
  -- the accounts
  have C3 := t2.free_h hD2 (i := hR d r) (k := 4) (j := 15) (v := d (15 + 6 * hR d r) + mn (sFineV ops d r) (d (12 + 6 * hR d r))) (by rw [z1]; exact k1) (by unfold Hp; decide)
  have hD3 : DJ ops (upd (sTake d (hR d r) (sFineV ops d r)) (15 + 6 * hR d r) (d (15 + 6 * hR d r) + mn (sFineV ops d r) (d (12 + 6 * hR d r)))) := DJ_F hD2 (fun j hj => by unfold FX at hj; exact upd_n (by omega))
  have C4 := C3.free_l hD3 (i := lR d r) (v := d (50 + 7 * lR d r) + mn (sFineV ops d r) (d (12 + 6 * hR d r))) (by rw [nL_same (upd_n (by omega)), z2]; exact hl)
  have em := sMustPay_take hD (h := hR d r) (acc := 3) (to := 50 + 7 * lR d r) (amt := sFineV ops d r) (Or.inl rfl) tp k1
  rw [show 12 + 6 * hR d r + 3 = 15 + 6 * hR d r by omega] at em
  rw [← em] at C4
  have C5 := C4.free_r m2 (r := r) (k := 6) (j := 111) (v := sMustPay d (hR d r) (sFineV ops d r) 3 (50 + 7 * lR d r) 0) (by rw [m1.R]; exact hr) (by unfold Rp; decide) (by omega) (by omega)
  have e0 : sMustPay d (hR d r) (sFineV ops d r) 3 (50 + 7 * lR d r) 0 = d 0 := m1.2.2.2.1
  rw [e0] at C5
  unfold sProg
  rw [e0]
  refine ⟨_, ?_, C5⟩
  have vv := v1
  rw [show sFV ops (d (104 + 8 * r)) (d (109 + 8 * r)) (nI (sHeld d (d (108 + 8 * r)))) (d 0 - d (111 + 8 * r)) = sFineV ops d r from rfl] at vv
  rw [k2, el] at vv
  have l0 : c2 (30 + r) 0 = nI (lR d r) := by rw [t2.1.r0 (by rw [z3]; exact hr), z4, el]
  have l4 : c2 (8 + hR d r) 4 = d (15 + 6 * hR d r) := by rw [t2.1.h4 (by rw [z1]; exact k1), f4]
  have l2 : c2 (14 + 2 * lR d r) 2 = d (50 + 7 * lR d r) := by rw [t2.1.l2 (by rw [z2]; exact hl), f5]
  have l6 : c2 0 6 = d 0 := by rw [t2.1.w6, sTake_far hD k1 (by omega)]
  have lh : c1 (30 + r) 4 = nI (hR d r) := by rw [v2.1.r4 hr, k2]
  have hsh : f_X6_hasHandler Y w (nI (hR d r)) (sw N w c) = nI 1 := hC.1.hsH hD.H h6 k1
  have hsl : f_X6_hasLine Y w (nI (lR d r)) (sw N w c) = nI 1 := hC.1.hsL hD.L h8 hl
  unfold f_X6_chargeFine
  simp (disch := omega) only [↓lt_eq, bd, bd2, Option.bind_some, nI_lit, nI_clamp, nI_add, xb_nI, if_true, gi_sw, gi_sw0, si_sw, si_sw0, hY.g0, hY.g2, hY.g4, hY.g13, hY.g14, hY.f0, hY.f2, hY.h, hY.l, hY.t, hY.r, ↓reduceIte, pLEt, pLEf, pLTt, pLTf, pEQf, pML, pMG, pMf, pMg, hC.1.r4, k2, hsh, hsl, hC.1.r0, el, hC.1.r5, hC.2.2 _ k1, hC.1.w6, hC.1.r6, vv, lh, t1, up2_n, l4, l0, l2, l6]
theorem C_tick_5 (hC : CR P ops d c) (hD : DJ ops d) : CR P ops (sT5 d) (up2 c 0 6 (d 0 + nI 1)) := hC.free_w hD (k := 6) (j := 0) (by unfold Wp; decide) (by omega) (by omega) (by omega)
end CC3

