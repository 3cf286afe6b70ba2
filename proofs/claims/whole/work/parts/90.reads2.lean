/-! THE FACE'S READS: state, handler, line, tenant, request, calm, errorOffset (laid out by gen90.py) -/
section FR
variable {P : Nat → Int32} {Y : XY} {B w : Nat} {N : XN} {d : XD} {ops : List Int32}
theorem K_has_out {x : Int32} : (gi N w 1 = nI (nH d) → outR x (nH d) → f_X6_hasHandler Y w x N = nI 0) ∧ (gi N w 3 = nI (nL d) → outR x (nL d) → f_X6_hasLine Y w x N = nI 0) ∧ (gi N w 5 = nI (nR d) → outR x (nR d) → f_X6_hasRequest Y w x N = nI 0) := by
  have key : ∀ n, outR x n → (if x < nI 0 then nI 0 else if nI n ≤ x then nI 0 else nI 1) = nI 0 := by
    intro n h
    rcases h with h | h
    · rw [if_pos h]
    · by_cases q : x < nI 0
      · rw [if_pos q]
      · rw [if_neg q, if_pos h]
  refine ⟨fun e h => ?_, fun e h => ?_, fun e h => ?_⟩
  · unfold f_X6_hasHandler; rw [e]; exact key _ h
  · unfold f_X6_hasLine; rw [e]; exact key _ h
  · unfold f_X6_hasRequest; rw [e]; exact key _ h
theorem K_has_in {j : Nat} : (gi N w 1 = nI (nH d) → nH d ≤ 6 → j < nH d → f_X6_hasHandler Y w (nI j) N = nI 1) ∧ (gi N w 3 = nI (nL d) → nL d ≤ 8 → j < nL d → f_X6_hasLine Y w (nI j) N = nI 1) ∧ (gi N w 5 = nI (nR d) → nR d ≤ 60 → j < nR d → f_X6_hasRequest Y w (nI j) N = nI 1) := by
  have key : ∀ n, n < 100 → j < n → (if nI j < nI 0 then nI 0 else if nI n ≤ nI j then nI 0 else nI 1) = nI 1 := by
    intro n hn h
    rw [if_neg (nI_nlt (Nat.zero_le j) (by omega)), if_neg (nI_ge h (by omega))]
  refine ⟨fun e h h2 => ?_, fun e h h2 => ?_, fun e h h2 => ?_⟩
  · unfold f_X6_hasHandler; rw [e]; exact key _ (by omega) h2
  · unfold f_X6_hasLine; rw [e]; exact key _ (by omega) h2
  · unfold f_X6_hasRequest; rw [e]; exact key _ (by omega) h2
theorem nz10 : (nI 1 = nI 0) = False := eq_false (by decide)

theorem K_state_out  {x : Int32} (h : outR x 10) : f_X7_state Y B x N = some (.inr IAE, N) := by
  unfold f_X7_state
  simp only [nI_lit, outR_ne h (show 0 < 10 by omega) (by omega), outR_ne h (show 1 < 10 by omega) (by omega), outR_ne h (show 2 < 10 by omega) (by omega), outR_ne h (show 3 < 10 by omega) (by omega), outR_ne h (show 4 < 10 by omega) (by omega), outR_ne h (show 5 < 10 by omega) (by omega), outR_ne h (show 6 < 10 by omega) (by omega), outR_ne h (show 7 < 10 by omega) (by omega), outR_ne h (show 8 < 10 by omega) (by omega), outR_ne h (show 9 < 10 by omega) (by omega), if_false]
  rfl
theorem K_state (h5 : gp Y B 5 = w) (hW : WY Y w) (hD : DJ ops d) (hC : CR P ops d (wc N w)) {k : Nat} (hk : k < 10) : f_X7_state Y B (nI k) N = some (.inl (sTold d k), N) := by
  have r0 := fun s => C_requestsIn (N := N) (s := s) hW hD hC
  have r1 := C_broken (N := N) hW hD hC
  have r2 := C_allCoins (N := N) hW hD hC
  rw [sw_wc] at r1 r2
  simp only [sw_wc] at r0
  unfold f_X7_state sTold
  rcases (show k = 0 ∨ k = 1 ∨ k = 2 ∨ k = 3 ∨ k = 4 ∨ k = 5 ∨ k = 6 ∨ k = 7 ∨ k = 8 ∨ k = 9 by omega) with rfl | rfl | rfl | rfl | rfl | rfl | rfl | rfl | rfl | rfl
  · simp (disch := omega) only [nI_lit, ↓reduceIte, pLEt, pLEf, pLTt, pLTf, pEQf, pML, pMG, pMf, pMg, h5, gi_wc0 N w, hC.1.w6, hC.1.w1, hC.1.w3, hC.1.w5, hC.1.w7, bd, Option.bind_some, r0, r1, r2]
    rfl
  · simp (disch := omega) only [nI_lit, ↓reduceIte, pLEt, pLEf, pLTt, pLTf, pEQf, pML, pMG, pMf, pMg, h5, gi_wc0 N w, hC.1.w6, hC.1.w1, hC.1.w3, hC.1.w5, hC.1.w7, bd, Option.bind_some, r0, r1, r2]
    rfl
  · simp (disch := omega) only [nI_lit, ↓reduceIte, pLEt, pLEf, pLTt, pLTf, pEQf, pML, pMG, pMf, pMg, h5, gi_wc0 N w, hC.1.w6, hC.1.w1, hC.1.w3, hC.1.w5, hC.1.w7, bd, Option.bind_some, r0, r1, r2]
    rfl
  · simp (disch := omega) only [nI_lit, ↓reduceIte, pLEt, pLEf, pLTt, pLTf, pEQf, pML, pMG, pMf, pMg, h5, gi_wc0 N w, hC.1.w6, hC.1.w1, hC.1.w3, hC.1.w5, hC.1.w7, bd, Option.bind_some, r0, r1, r2]
    rfl
  · simp (disch := omega) only [nI_lit, ↓reduceIte, pLEt, pLEf, pLTt, pLTf, pEQf, pML, pMG, pMf, pMg, h5, gi_wc0 N w, hC.1.w6, hC.1.w1, hC.1.w3, hC.1.w5, hC.1.w7, bd, Option.bind_some, r0, r1, r2]
    rfl
  · simp (disch := omega) only [nI_lit, ↓reduceIte, pLEt, pLEf, pLTt, pLTf, pEQf, pML, pMG, pMf, pMg, h5, gi_wc0 N w, hC.1.w6, hC.1.w1, hC.1.w3, hC.1.w5, hC.1.w7, bd, Option.bind_some, r0, r1, r2]
    rfl
  · simp (disch := omega) only [nI_lit, ↓reduceIte, pLEt, pLEf, pLTt, pLTf, pEQf, pML, pMG, pMf, pMg, h5, gi_wc0 N w, hC.1.w6, hC.1.w1, hC.1.w3, hC.1.w5, hC.1.w7, bd, Option.bind_some, r0, r1, r2]
    rfl
  · simp (disch := omega) only [nI_lit, ↓reduceIte, pLEt, pLEf, pLTt, pLTf, pEQf, pML, pMG, pMf, pMg, h5, gi_wc0 N w, hC.1.w6, hC.1.w1, hC.1.w3, hC.1.w5, hC.1.w7, bd, Option.bind_some, r0, r1, r2]
    rfl
  · simp (disch := omega) only [nI_lit, ↓reduceIte, pLEt, pLEf, pLTt, pLTf, pEQf, pML, pMG, pMf, pMg, h5, gi_wc0 N w, hC.1.w6, hC.1.w1, hC.1.w3, hC.1.w5, hC.1.w7, bd, Option.bind_some, r0, r1, r2]
    rfl
  · simp (disch := omega) only [nI_lit, ↓reduceIte, pLEt, pLEf, pLTt, pLTf, pEQf, pML, pMG, pMf, pMg, h5, gi_wc0 N w, hC.1.w6, hC.1.w1, hC.1.w3, hC.1.w5, hC.1.w7, bd, Option.bind_some, r0, r1, r2]
    rfl
theorem MF_state_out {x : Int32} (h : outR x 10) : f_X8_state Y (B + 908) x N = some (nI 0, mm N B (nI 1)) := by
  unfold f_X8_state
  have e0 : si N (B + 908) 0 (nI 0) = mm N B (nI 0) := rfl
  simp (disch := omega) only [↓lt_eq, nI_lit, e0, in_outS (k := 9) (by omega) h, ↓reduceIte, pLEt, pLEf, pLTt, pLTf, pEQf, pML, pMG, pMf, pMg, bd2, fails_t (c := 1), Option.bind_some, nz10]
theorem MF_state (hM : MY Y (B + 908)) (hd : N.1 (B + 910) = d) (hD : DJ ops d) {k : Nat} (hk : k < 10) : f_X8_state Y (B + 908) (nI k) N = some (sTold d k, mm N B (nI 0)) := by
  have e0 : si N (B + 908) 0 (nI 0) = mm N B (nI 0) := rfl
  have e1 := M_told (Y := Y) (m := B + 908) (N := mm N B (nI 0)) hD hk
  rw [← mm_sd hM hd] at e1
  unfold f_X8_state
  simp (disch := omega) only [↓lt_eq, nI_lit, e0, in_inS (j := k) (k := 9), ↓reduceIte, pLEt, pLEf, pLTt, pLTf, pEQf, pML, pMG, pMf, pMg, bd2, bd, fails_f, Option.bind_some, nz10, e1]
/-- the memory behind a model's call that only reads -/
theorem after_read {N' : XN} (h : N'.1 = N.1) (hI : IV B N) (t : Int32) : IV B (mm N' B t) ∧ ∀ a, a ≠ B + 923 → (mm N' B t).2 a = N'.2 a := ⟨(hI.ints h).sc (sc_mm N' B t), fun _ _ => rfl⟩
theorem row_ints {N' : XN} (h : N'.1 = N.1) (hd : N.1 (B + 910) = d) : N'.1 (B + 910) = d := by rw [h]; exact hd
theorem F_state (hY : YO Y B) (hI : IV B N) (x : Int32) : FC2 Y B [IAE] (f_X7_state Y B x) (f_X8_state Y (B + 908) x) N := by
  obtain ⟨⟨g0, g3, g4, g5, g6, g7⟩, -, -, hW, hW2, -, hM, -⟩ := hY
  have hI' := hI
  obtain ⟨⟨ops, d, hD, hz, ht, hd, P, hC⟩, -, -⟩ := hI'
  rcases ix_or x (n := 10) (by omega) with h | ⟨k, hk, rfl⟩
  · refine ⟨_, N, K_state_out h, fun N' hN' => ⟨_, _, MF_state_out h, (after_read hN' hI _).1, (after_read hN' hI _).2, 0, by decide, rfl, gi_mm _ _ _⟩⟩
  · refine ⟨_, N, K_state g5 hW hD hC hk, fun N' hN' => ⟨_, _, MF_state hM (row_ints hN' hd) hD hk, (after_read hN' hI _).1, (after_read hN' hI _).2, gi_mm _ _ _, rfl⟩⟩

theorem K_handler_o1 (h5 : gp Y B 5 = w) (hW : WY Y w) (hD : DJ ops d) (hC : CR P ops d (wc N w)) {x y : Int32} (h : outR x (nH d)) : f_X7_handler Y B x y N = some (.inr IOB, N) := by
  have e : gi N w 1 = nI (nH d) := (hC.1.w1).trans hD.H
  unfold f_X7_handler
  rw [h5, K_has_out.1 e h]
  simp only [nI_lit, if_true]
  rfl
theorem K_handler_o2 (h5 : gp Y B 5 = w) (hW : WY Y w) (hD : DJ ops d) (hC : CR P ops d (wc N w)) {j : Nat} (hj : j < nH d) {y : Int32} (h : outR y 8) : f_X7_handler Y B (nI j) y N = some (.inr IAE, N) := by
  have hb := hD.H6
  have e : gi N w 1 = nI (nH d) := (hC.1.w1).trans hD.H
  have e2 := (K_has_in (Y := Y) (N := N) (w := w) (d := d) (j := j)).1 e hb hj
  unfold f_X7_handler
  simp (disch := omega) only [nI_lit, ↓lt_eq, h5, e2, ↓reduceIte, pLEt, pLEf, pLTt, pLTf, pEQf, pML, pMG, pMf, pMg, nz10, xb_nI, if_true, outR_ne h (show 0 < 8 by omega) (by omega), outR_ne h (show 1 < 8 by omega) (by omega), outR_ne h (show 2 < 8 by omega) (by omega), outR_ne h (show 3 < 8 by omega) (by omega), outR_ne h (show 4 < 8 by omega) (by omega), outR_ne h (show 5 < 8 by omega) (by omega), outR_ne h (show 6 < 8 by omega) (by omega), outR_ne h (show 7 < 8 by omega) (by omega), if_false]
  rfl
theorem K_handler (h5 : gp Y B 5 = w) (hW : WY Y w) (hD : DJ ops d) (hC : CR P ops d (wc N w)) {j : Nat} (hj : j < nH d) {k : Nat} (hk : k < 8) : f_X7_handler Y B (nI j) (nI k) N = some (.inl (sToldH d j k), N) := by
  have hb := hD.H6
  have e : gi N w 1 = nI (nH d) := (hC.1.w1).trans hD.H
  have e2 := (K_has_in (Y := Y) (N := N) (w := w) (d := d) (j := j)).1 e hb hj
  have r0 := C_linesOf (N := N) (h := nI j) hW hD hC
  rw [sw_wc] at r0
  unfold f_X7_handler sToldH
  rcases (show k = 0 ∨ k = 1 ∨ k = 2 ∨ k = 3 ∨ k = 4 ∨ k = 5 ∨ k = 6 ∨ k = 7 by omega) with rfl | rfl | rfl | rfl | rfl | rfl | rfl | rfl
  · simp (disch := omega) only [nI_lit, ↓lt_eq, h5, e2, ↓reduceIte, pLEt, pLEf, pLTt, pLTf, pEQf, pML, pMG, pMf, pMg, nz10, xb_nI, nI_clamp, if_true, hW.g0, hW.g2, hW.g4, hW.h, hW.l, hW.t, hW.r, gi_wc N w, bd, Option.bind_some, hC.1.h0, hC.1.h1, hC.1.h2, hC.1.h4, hC.1.h5, hC.1.h6, hC.2.2 j hj, r0]
    first | rfl | (simp only [aN1, aN2, aN3, aN4, aN5, aN6, aN7, Nat.add_zero, Nat.reduceLT, Nat.reduceEqDiff, Nat.reduceSub, Nat.reduceAdd, ↓reduceIte])
  · simp (disch := omega) only [nI_lit, ↓lt_eq, h5, e2, ↓reduceIte, pLEt, pLEf, pLTt, pLTf, pEQf, pML, pMG, pMf, pMg, nz10, xb_nI, nI_clamp, if_true, hW.g0, hW.g2, hW.g4, hW.h, hW.l, hW.t, hW.r, gi_wc N w, bd, Option.bind_some, hC.1.h0, hC.1.h1, hC.1.h2, hC.1.h4, hC.1.h5, hC.1.h6, hC.2.2 j hj, r0]
    first | rfl | (simp only [aN1, aN2, aN3, aN4, aN5, aN6, aN7, Nat.add_zero, Nat.reduceLT, Nat.reduceEqDiff, Nat.reduceSub, Nat.reduceAdd, ↓reduceIte])
  · rcases hD.B j hj with q | q
    all_goals (simp (disch := omega) only [nI_lit, ↓lt_eq, h5, e2, ↓reduceIte, pLEt, pLEf, pLTt, pLTf, pEQf, pML, pMG, pMf, pMg, nz10, xb_nI, nI_clamp, if_true, hW.g0, hW.g2, hW.g4, hW.h, hW.l, hW.t, hW.r, gi_wc N w, bd, Option.bind_some, hC.1.h0, hC.1.h1, hC.1.h2, hC.1.h4, hC.1.h5, hC.1.h6, hC.2.2 j hj, r0, q]; first | rfl | (simp only [aN1, aN2, aN3, aN4, aN5, aN6, aN7, Nat.add_zero, Nat.reduceLT, Nat.reduceEqDiff, Nat.reduceSub, Nat.reduceAdd, ↓reduceIte, q]))
  · simp (disch := omega) only [nI_lit, ↓lt_eq, h5, e2, ↓reduceIte, pLEt, pLEf, pLTt, pLTf, pEQf, pML, pMG, pMf, pMg, nz10, xb_nI, nI_clamp, if_true, hW.g0, hW.g2, hW.g4, hW.h, hW.l, hW.t, hW.r, gi_wc N w, bd, Option.bind_some, hC.1.h0, hC.1.h1, hC.1.h2, hC.1.h4, hC.1.h5, hC.1.h6, hC.2.2 j hj, r0]
    first | rfl | (simp only [aN1, aN2, aN3, aN4, aN5, aN6, aN7, Nat.add_zero, Nat.reduceLT, Nat.reduceEqDiff, Nat.reduceSub, Nat.reduceAdd, ↓reduceIte])
  · simp (disch := omega) only [nI_lit, ↓lt_eq, h5, e2, ↓reduceIte, pLEt, pLEf, pLTt, pLTf, pEQf, pML, pMG, pMf, pMg, nz10, xb_nI, nI_clamp, if_true, hW.g0, hW.g2, hW.g4, hW.h, hW.l, hW.t, hW.r, gi_wc N w, bd, Option.bind_some, hC.1.h0, hC.1.h1, hC.1.h2, hC.1.h4, hC.1.h5, hC.1.h6, hC.2.2 j hj, r0]
    first | rfl | (simp only [aN1, aN2, aN3, aN4, aN5, aN6, aN7, Nat.add_zero, Nat.reduceLT, Nat.reduceEqDiff, Nat.reduceSub, Nat.reduceAdd, ↓reduceIte])
  · simp (disch := omega) only [nI_lit, ↓lt_eq, h5, e2, ↓reduceIte, pLEt, pLEf, pLTt, pLTf, pEQf, pML, pMG, pMf, pMg, nz10, xb_nI, nI_clamp, if_true, hW.g0, hW.g2, hW.g4, hW.h, hW.l, hW.t, hW.r, gi_wc N w, bd, Option.bind_some, hC.1.h0, hC.1.h1, hC.1.h2, hC.1.h4, hC.1.h5, hC.1.h6, hC.2.2 j hj, r0]
    first | rfl | (simp only [aN1, aN2, aN3, aN4, aN5, aN6, aN7, Nat.add_zero, Nat.reduceLT, Nat.reduceEqDiff, Nat.reduceSub, Nat.reduceAdd, ↓reduceIte])
  · simp (disch := omega) only [nI_lit, ↓lt_eq, h5, e2, ↓reduceIte, pLEt, pLEf, pLTt, pLTf, pEQf, pML, pMG, pMf, pMg, nz10, xb_nI, nI_clamp, if_true, hW.g0, hW.g2, hW.g4, hW.h, hW.l, hW.t, hW.r, gi_wc N w, bd, Option.bind_some, hC.1.h0, hC.1.h1, hC.1.h2, hC.1.h4, hC.1.h5, hC.1.h6, hC.2.2 j hj, r0]
    first | rfl | (simp only [aN1, aN2, aN3, aN4, aN5, aN6, aN7, Nat.add_zero, Nat.reduceLT, Nat.reduceEqDiff, Nat.reduceSub, Nat.reduceAdd, ↓reduceIte])
  · simp (disch := omega) only [nI_lit, ↓lt_eq, h5, e2, ↓reduceIte, pLEt, pLEf, pLTt, pLTf, pEQf, pML, pMG, pMf, pMg, nz10, xb_nI, nI_clamp, if_true, hW.g0, hW.g2, hW.g4, hW.h, hW.l, hW.t, hW.r, gi_wc N w, bd, Option.bind_some, hC.1.h0, hC.1.h1, hC.1.h2, hC.1.h4, hC.1.h5, hC.1.h6, hC.2.2 j hj, r0]
    first | rfl | (simp only [aN1, aN2, aN3, aN4, aN5, aN6, aN7, Nat.add_zero, Nat.reduceLT, Nat.reduceEqDiff, Nat.reduceSub, Nat.reduceAdd, ↓reduceIte])
theorem MF_handler_o1 (hM : MY Y (B + 908)) (hd : N.1 (B + 910) = d) (hD : DJ ops d) {x y : Int32} (h : outR x (nH d)) : f_X8_handler Y (B + 908) x y N = some (nI 0, mm N B (nI 1)) := by
  have e0 : si N (B + 908) 0 (nI 0) = mm N B (nI 0) := rfl
  unfold f_X8_handler
  simp (disch := omega) only [↓lt_eq, nI_lit, e0, (noH hM hd hD x).1 h, ↓reduceIte, pLEt, pLEf, pLTt, pLTf, pEQf, pML, pMG, pMf, pMg, bd2, Option.bind_some, nz10]
theorem MF_handler_o2 (hM : MY Y (B + 908)) (hd : N.1 (B + 910) = d) (hD : DJ ops d) {j : Nat} (hj : j < nH d) {y : Int32} (h : outR y 8) : f_X8_handler Y (B + 908) (nI j) y N = some (nI 0, mm N B (nI 2)) := by
  have e0 : si N (B + 908) 0 (nI 0) = mm N B (nI 0) := rfl
  have e9 := (noN (Y := Y) (B := B) (N := N) (n := 8) (by omega) y).1 h
  rw [pk_sub (by omega)] at e9
  unfold f_X8_handler
  simp (disch := omega) only [↓lt_eq, nI_lit, e0, (noH hM hd hD (nI j)).2 j hj rfl, ↓reduceIte, pLEt, pLEf, pLTt, pLTf, pEQf, pML, pMG, pMf, pMg, bd2, Option.bind_some, nz10, e9, Nat.reduceSub]
theorem MF_handler (hM : MY Y (B + 908)) (hd : N.1 (B + 910) = d) (hD : DJ ops d) {j : Nat} (hj : j < nH d) {k : Nat} (hk : k < 8) : f_X8_handler Y (B + 908) (nI j) (nI k) N = some (sToldH d j k, mm N B (nI 0)) := by
  have hb := hD.H6
  have e0 : si N (B + 908) 0 (nI 0) = mm N B (nI 0) := rfl
  have e9 := (noN (Y := Y) (B := B) (N := N) (n := 8) (by omega) (nI k)).2 k hk rfl
  rw [pk_sub (by omega)] at e9
  have e1 := M_toldHandler (Y := Y) (m := B + 908) (N := mm N B (nI 0)) hM hD (show j < 6 by omega) hk
  rw [← mm_sd hM hd] at e1
  unfold f_X8_handler
  simp (disch := omega) only [↓lt_eq, nI_lit, e0, (noH hM hd hD (nI j)).2 j hj rfl, ↓reduceIte, pLEt, pLEf, pLTt, pLTf, pEQf, pML, pMG, pMf, pMg, bd2, bd, Option.bind_some, nz10, e9, e1, Nat.reduceSub]
theorem F_handler (hY : YO Y B) (hI : IV B N) (x y : Int32) : FC2 Y B [IOB, IAE] (f_X7_handler Y B x y) (f_X8_handler Y (B + 908) x y) N := by
  obtain ⟨⟨g0, g3, g4, g5, g6, g7⟩, -, -, hW, hW2, -, hM, -⟩ := hY
  have hI' := hI
  obtain ⟨⟨ops, d, hD, hz, ht, hd, P, hC⟩, -, -⟩ := hI'
  have hb := hD.H6
  rcases ix_or x (n := nH d) (by omega) with h | ⟨j, hj, rfl⟩
  · exact ⟨_, N, K_handler_o1 g5 hW hD hC h, fun N' hN' => ⟨_, _, MF_handler_o1 hM (row_ints hN' hd) hD h, (after_read hN' hI _).1, (after_read hN' hI _).2, 0, by decide, rfl, gi_mm _ _ _⟩⟩
  · rcases ix_or y (n := 8) (by omega) with h | ⟨k, hk, rfl⟩
    · exact ⟨_, N, K_handler_o2 g5 hW hD hC hj h, fun N' hN' => ⟨_, _, MF_handler_o2 hM (row_ints hN' hd) hD hj h, (after_read hN' hI _).1, (after_read hN' hI _).2, 1, by decide, rfl, gi_mm _ _ _⟩⟩
    · exact ⟨_, N, K_handler g5 hW hD hC hj hk, fun N' hN' => ⟨_, _, MF_handler hM (row_ints hN' hd) hD hj hk, (after_read hN' hI _).1, (after_read hN' hI _).2, gi_mm _ _ _, rfl⟩⟩

def sReq (d : XD) (j k : Nat) : Int32 := d (104 + 8 * j + k)
theorem M_req {j k : Nat} (hj : j < 60) (hk : k < 7) : f_X8_ofRequest Y (B + 908) (nI j) (nI k) (sd N (gp Y (B + 908) 8) d) = some (sReq d j k) := M_ofRequest (by omega)

theorem K_line_o1 (h5 : gp Y B 5 = w) (hW : WY Y w) (hD : DJ ops d) (hC : CR P ops d (wc N w)) {x y : Int32} (h : outR x (nL d)) : f_X7_line Y B x y N = some (.inr IOB, N) := by
  have e : gi N w 3 = nI (nL d) := (hC.1.w3).trans hD.L
  unfold f_X7_line
  rw [h5, K_has_out.2.1 e h]
  simp only [nI_lit, if_true]
  rfl
theorem K_line_o2 (h5 : gp Y B 5 = w) (hW : WY Y w) (hD : DJ ops d) (hC : CR P ops d (wc N w)) {j : Nat} (hj : j < nL d) {y : Int32} (h : outR y 5) : f_X7_line Y B (nI j) y N = some (.inr IAE, N) := by
  have hb := hD.L8
  have e : gi N w 3 = nI (nL d) := (hC.1.w3).trans hD.L
  have e2 := (K_has_in (Y := Y) (N := N) (w := w) (d := d) (j := j)).2.1 e hb hj
  unfold f_X7_line
  simp (disch := omega) only [nI_lit, ↓lt_eq, h5, e2, ↓reduceIte, pLEt, pLEf, pLTt, pLTf, pEQf, pML, pMG, pMf, pMg, nz10, xb_nI, if_true, outR_ne h (show 0 < 5 by omega) (by omega), outR_ne h (show 1 < 5 by omega) (by omega), outR_ne h (show 2 < 5 by omega) (by omega), outR_ne h (show 3 < 5 by omega) (by omega), outR_ne h (show 4 < 5 by omega) (by omega), if_false]
  rfl
theorem K_line (h5 : gp Y B 5 = w) (hW : WY Y w) (hD : DJ ops d) (hC : CR P ops d (wc N w)) {j : Nat} (hj : j < nL d) {k : Nat} (hk : k < 5) : f_X7_line Y B (nI j) (nI k) N = some (.inl (sToldL d j k), N) := by
  have hb := hD.L8
  have e : gi N w 3 = nI (nL d) := (hC.1.w3).trans hD.L
  have e2 := (K_has_in (Y := Y) (N := N) (w := w) (d := d) (j := j)).2.1 e hb hj
  have r0 := C_openOf (N := N) (l := nI j) (h := -nI 1) hW hD hC
  rw [sw_wc] at r0
  unfold f_X7_line sToldL
  rcases (show k = 0 ∨ k = 1 ∨ k = 2 ∨ k = 3 ∨ k = 4 by omega) with rfl | rfl | rfl | rfl | rfl
  · simp (disch := omega) only [nI_lit, ↓lt_eq, h5, e2, ↓reduceIte, pLEt, pLEf, pLTt, pLTf, pEQf, pML, pMG, pMf, pMg, nz10, xb_nI, nI_clamp, if_true, hW.g0, hW.g2, hW.g4, hW.h, hW.l, hW.t, hW.r, gi_wc N w, bd, Option.bind_some, hC.1.l0, hC.1.l1, hC.1.l2, hC.1.l4, r0]
    first | rfl | (simp only [aN1, aN2, aN3, aN4, aN5, aN6, aN7, Nat.add_zero, Nat.reduceLT, Nat.reduceEqDiff, Nat.reduceSub, Nat.reduceAdd, ↓reduceIte])
  · simp (disch := omega) only [nI_lit, ↓lt_eq, h5, e2, ↓reduceIte, pLEt, pLEf, pLTt, pLTf, pEQf, pML, pMG, pMf, pMg, nz10, xb_nI, nI_clamp, if_true, hW.g0, hW.g2, hW.g4, hW.h, hW.l, hW.t, hW.r, gi_wc N w, bd, Option.bind_some, hC.1.l0, hC.1.l1, hC.1.l2, hC.1.l4, r0]
    first | rfl | (simp only [aN1, aN2, aN3, aN4, aN5, aN6, aN7, Nat.add_zero, Nat.reduceLT, Nat.reduceEqDiff, Nat.reduceSub, Nat.reduceAdd, ↓reduceIte])
  · simp (disch := omega) only [nI_lit, ↓lt_eq, h5, e2, ↓reduceIte, pLEt, pLEf, pLTt, pLTf, pEQf, pML, pMG, pMf, pMg, nz10, xb_nI, nI_clamp, if_true, hW.g0, hW.g2, hW.g4, hW.h, hW.l, hW.t, hW.r, gi_wc N w, bd, Option.bind_some, hC.1.l0, hC.1.l1, hC.1.l2, hC.1.l4, r0]
    first | rfl | (simp only [aN1, aN2, aN3, aN4, aN5, aN6, aN7, Nat.add_zero, Nat.reduceLT, Nat.reduceEqDiff, Nat.reduceSub, Nat.reduceAdd, ↓reduceIte])
  · simp (disch := omega) only [nI_lit, ↓lt_eq, h5, e2, ↓reduceIte, pLEt, pLEf, pLTt, pLTf, pEQf, pML, pMG, pMf, pMg, nz10, xb_nI, nI_clamp, if_true, hW.g0, hW.g2, hW.g4, hW.h, hW.l, hW.t, hW.r, gi_wc N w, bd, Option.bind_some, hC.1.l0, hC.1.l1, hC.1.l2, hC.1.l4, r0]
    first | rfl | (simp only [aN1, aN2, aN3, aN4, aN5, aN6, aN7, Nat.add_zero, Nat.reduceLT, Nat.reduceEqDiff, Nat.reduceSub, Nat.reduceAdd, ↓reduceIte])
  · simp (disch := omega) only [nI_lit, ↓lt_eq, h5, e2, ↓reduceIte, pLEt, pLEf, pLTt, pLTf, pEQf, pML, pMG, pMf, pMg, nz10, xb_nI, nI_clamp, if_true, hW.g0, hW.g2, hW.g4, hW.h, hW.l, hW.t, hW.r, gi_wc N w, bd, Option.bind_some, hC.1.l0, hC.1.l1, hC.1.l2, hC.1.l4, r0]
    first | rfl | (simp only [aN1, aN2, aN3, aN4, aN5, aN6, aN7, Nat.add_zero, Nat.reduceLT, Nat.reduceEqDiff, Nat.reduceSub, Nat.reduceAdd, ↓reduceIte])
theorem MF_line_o1 (hM : MY Y (B + 908)) (hd : N.1 (B + 910) = d) (hD : DJ ops d) {x y : Int32} (h : outR x (nL d)) : f_X8_line Y (B + 908) x y N = some (nI 0, mm N B (nI 1)) := by
  have e0 : si N (B + 908) 0 (nI 0) = mm N B (nI 0) := rfl
  unfold f_X8_line
  simp (disch := omega) only [↓lt_eq, nI_lit, e0, (noL hM hd hD x).1 h, ↓reduceIte, pLEt, pLEf, pLTt, pLTf, pEQf, pML, pMG, pMf, pMg, bd2, Option.bind_some, nz10]
theorem MF_line_o2 (hM : MY Y (B + 908)) (hd : N.1 (B + 910) = d) (hD : DJ ops d) {j : Nat} (hj : j < nL d) {y : Int32} (h : outR y 5) : f_X8_line Y (B + 908) (nI j) y N = some (nI 0, mm N B (nI 2)) := by
  have e0 : si N (B + 908) 0 (nI 0) = mm N B (nI 0) := rfl
  have e9 := (noN (Y := Y) (B := B) (N := N) (n := 5) (by omega) y).1 h
  rw [pk_sub (by omega)] at e9
  unfold f_X8_line
  simp (disch := omega) only [↓lt_eq, nI_lit, e0, (noL hM hd hD (nI j)).2 j hj rfl, ↓reduceIte, pLEt, pLEf, pLTt, pLTf, pEQf, pML, pMG, pMf, pMg, bd2, Option.bind_some, nz10, e9, Nat.reduceSub]
theorem MF_line (hM : MY Y (B + 908)) (hd : N.1 (B + 910) = d) (hD : DJ ops d) {j : Nat} (hj : j < nL d) {k : Nat} (hk : k < 5) : f_X8_line Y (B + 908) (nI j) (nI k) N = some (sToldL d j k, mm N B (nI 0)) := by
  have hb := hD.L8
  have e0 : si N (B + 908) 0 (nI 0) = mm N B (nI 0) := rfl
  have e9 := (noN (Y := Y) (B := B) (N := N) (n := 5) (by omega) (nI k)).2 k hk rfl
  rw [pk_sub (by omega)] at e9
  have e1 := M_toldLine (Y := Y) (m := B + 908) (N := mm N B (nI 0)) hD (show j < 8 by omega) hk
  rw [← mm_sd hM hd] at e1
  unfold f_X8_line
  simp (disch := omega) only [↓lt_eq, nI_lit, e0, (noL hM hd hD (nI j)).2 j hj rfl, ↓reduceIte, pLEt, pLEf, pLTt, pLTf, pEQf, pML, pMG, pMf, pMg, bd2, bd, Option.bind_some, nz10, e9, e1, Nat.reduceSub]
theorem F_line (hY : YO Y B) (hI : IV B N) (x y : Int32) : FC2 Y B [IOB, IAE] (f_X7_line Y B x y) (f_X8_line Y (B + 908) x y) N := by
  obtain ⟨⟨g0, g3, g4, g5, g6, g7⟩, -, -, hW, hW2, -, hM, -⟩ := hY
  have hI' := hI
  obtain ⟨⟨ops, d, hD, hz, ht, hd, P, hC⟩, -, -⟩ := hI'
  have hb := hD.L8
  rcases ix_or x (n := nL d) (by omega) with h | ⟨j, hj, rfl⟩
  · exact ⟨_, N, K_line_o1 g5 hW hD hC h, fun N' hN' => ⟨_, _, MF_line_o1 hM (row_ints hN' hd) hD h, (after_read hN' hI _).1, (after_read hN' hI _).2, 0, by decide, rfl, gi_mm _ _ _⟩⟩
  · rcases ix_or y (n := 5) (by omega) with h | ⟨k, hk, rfl⟩
    · exact ⟨_, N, K_line_o2 g5 hW hD hC hj h, fun N' hN' => ⟨_, _, MF_line_o2 hM (row_ints hN' hd) hD hj h, (after_read hN' hI _).1, (after_read hN' hI _).2, 1, by decide, rfl, gi_mm _ _ _⟩⟩
    · exact ⟨_, N, K_line g5 hW hD hC hj hk, fun N' hN' => ⟨_, _, MF_line hM (row_ints hN' hd) hD hj hk, (after_read hN' hI _).1, (after_read hN' hI _).2, gi_mm _ _ _, rfl⟩⟩

theorem K_request_o1 (h5 : gp Y B 5 = w) (hW : WY Y w) (hD : DJ ops d) (hC : CR P ops d (wc N w)) {x y : Int32} (h : outR x (nR d)) : f_X7_request Y B x y N = some (.inr IOB, N) := by
  have e : gi N w 5 = nI (nR d) := (hC.1.w5).trans hD.R
  unfold f_X7_request
  rw [h5, K_has_out.2.2 e h]
  simp only [nI_lit, if_true]
  rfl
theorem K_request_o2 (h5 : gp Y B 5 = w) (hW : WY Y w) (hD : DJ ops d) (hC : CR P ops d (wc N w)) {j : Nat} (hj : j < nR d) {y : Int32} (h : outR y 7) : f_X7_request Y B (nI j) y N = some (.inr IAE, N) := by
  have hb := hD.R60
  have e : gi N w 5 = nI (nR d) := (hC.1.w5).trans hD.R
  have e2 := (K_has_in (Y := Y) (N := N) (w := w) (d := d) (j := j)).2.2 e hb hj
  unfold f_X7_request
  simp (disch := omega) only [nI_lit, ↓lt_eq, h5, e2, ↓reduceIte, pLEt, pLEf, pLTt, pLTf, pEQf, pML, pMG, pMf, pMg, nz10, xb_nI, if_true, outR_ne h (show 0 < 7 by omega) (by omega), outR_ne h (show 1 < 7 by omega) (by omega), outR_ne h (show 2 < 7 by omega) (by omega), outR_ne h (show 3 < 7 by omega) (by omega), outR_ne h (show 4 < 7 by omega) (by omega), outR_ne h (show 5 < 7 by omega) (by omega), outR_ne h (show 6 < 7 by omega) (by omega), if_false]
  rfl
theorem K_request (h5 : gp Y B 5 = w) (hW : WY Y w) (hD : DJ ops d) (hC : CR P ops d (wc N w)) {j : Nat} (hj : j < nR d) {k : Nat} (hk : k < 7) : f_X7_request Y B (nI j) (nI k) N = some (.inl (sReq d j k), N) := by
  have hb := hD.R60
  have e : gi N w 5 = nI (nR d) := (hC.1.w5).trans hD.R
  have e2 := (K_has_in (Y := Y) (N := N) (w := w) (d := d) (j := j)).2.2 e hb hj

  unfold f_X7_request sReq
  rcases (show k = 0 ∨ k = 1 ∨ k = 2 ∨ k = 3 ∨ k = 4 ∨ k = 5 ∨ k = 6 by omega) with rfl | rfl | rfl | rfl | rfl | rfl | rfl
  · simp (disch := omega) only [nI_lit, ↓lt_eq, h5, e2, ↓reduceIte, pLEt, pLEf, pLTt, pLTf, pEQf, pML, pMG, pMf, pMg, nz10, xb_nI, nI_clamp, if_true, hW.g0, hW.g2, hW.g4, hW.h, hW.l, hW.t, hW.r, gi_wc N w, bd, Option.bind_some, hC.1.r0, hC.1.r1, hC.1.r2, hC.1.r3, hC.1.r4, hC.1.r5, hC.1.r7]
    first | rfl | (simp only [aN1, aN2, aN3, aN4, aN5, aN6, aN7, Nat.add_zero, Nat.reduceLT, Nat.reduceEqDiff, Nat.reduceSub, Nat.reduceAdd, ↓reduceIte])
  · simp (disch := omega) only [nI_lit, ↓lt_eq, h5, e2, ↓reduceIte, pLEt, pLEf, pLTt, pLTf, pEQf, pML, pMG, pMf, pMg, nz10, xb_nI, nI_clamp, if_true, hW.g0, hW.g2, hW.g4, hW.h, hW.l, hW.t, hW.r, gi_wc N w, bd, Option.bind_some, hC.1.r0, hC.1.r1, hC.1.r2, hC.1.r3, hC.1.r4, hC.1.r5, hC.1.r7]
    first | rfl | (simp only [aN1, aN2, aN3, aN4, aN5, aN6, aN7, Nat.add_zero, Nat.reduceLT, Nat.reduceEqDiff, Nat.reduceSub, Nat.reduceAdd, ↓reduceIte])
  · simp (disch := omega) only [nI_lit, ↓lt_eq, h5, e2, ↓reduceIte, pLEt, pLEf, pLTt, pLTf, pEQf, pML, pMG, pMf, pMg, nz10, xb_nI, nI_clamp, if_true, hW.g0, hW.g2, hW.g4, hW.h, hW.l, hW.t, hW.r, gi_wc N w, bd, Option.bind_some, hC.1.r0, hC.1.r1, hC.1.r2, hC.1.r3, hC.1.r4, hC.1.r5, hC.1.r7]
    first | rfl | (simp only [aN1, aN2, aN3, aN4, aN5, aN6, aN7, Nat.add_zero, Nat.reduceLT, Nat.reduceEqDiff, Nat.reduceSub, Nat.reduceAdd, ↓reduceIte])
  · simp (disch := omega) only [nI_lit, ↓lt_eq, h5, e2, ↓reduceIte, pLEt, pLEf, pLTt, pLTf, pEQf, pML, pMG, pMf, pMg, nz10, xb_nI, nI_clamp, if_true, hW.g0, hW.g2, hW.g4, hW.h, hW.l, hW.t, hW.r, gi_wc N w, bd, Option.bind_some, hC.1.r0, hC.1.r1, hC.1.r2, hC.1.r3, hC.1.r4, hC.1.r5, hC.1.r7]
    first | rfl | (simp only [aN1, aN2, aN3, aN4, aN5, aN6, aN7, Nat.add_zero, Nat.reduceLT, Nat.reduceEqDiff, Nat.reduceSub, Nat.reduceAdd, ↓reduceIte])
  · simp (disch := omega) only [nI_lit, ↓lt_eq, h5, e2, ↓reduceIte, pLEt, pLEf, pLTt, pLTf, pEQf, pML, pMG, pMf, pMg, nz10, xb_nI, nI_clamp, if_true, hW.g0, hW.g2, hW.g4, hW.h, hW.l, hW.t, hW.r, gi_wc N w, bd, Option.bind_some, hC.1.r0, hC.1.r1, hC.1.r2, hC.1.r3, hC.1.r4, hC.1.r5, hC.1.r7]
    first | rfl | (simp only [aN1, aN2, aN3, aN4, aN5, aN6, aN7, Nat.add_zero, Nat.reduceLT, Nat.reduceEqDiff, Nat.reduceSub, Nat.reduceAdd, ↓reduceIte])
  · simp (disch := omega) only [nI_lit, ↓lt_eq, h5, e2, ↓reduceIte, pLEt, pLEf, pLTt, pLTf, pEQf, pML, pMG, pMf, pMg, nz10, xb_nI, nI_clamp, if_true, hW.g0, hW.g2, hW.g4, hW.h, hW.l, hW.t, hW.r, gi_wc N w, bd, Option.bind_some, hC.1.r0, hC.1.r1, hC.1.r2, hC.1.r3, hC.1.r4, hC.1.r5, hC.1.r7]
    first | rfl | (simp only [aN1, aN2, aN3, aN4, aN5, aN6, aN7, Nat.add_zero, Nat.reduceLT, Nat.reduceEqDiff, Nat.reduceSub, Nat.reduceAdd, ↓reduceIte])
  · simp (disch := omega) only [nI_lit, ↓lt_eq, h5, e2, ↓reduceIte, pLEt, pLEf, pLTt, pLTf, pEQf, pML, pMG, pMf, pMg, nz10, xb_nI, nI_clamp, if_true, hW.g0, hW.g2, hW.g4, hW.h, hW.l, hW.t, hW.r, gi_wc N w, bd, Option.bind_some, hC.1.r0, hC.1.r1, hC.1.r2, hC.1.r3, hC.1.r4, hC.1.r5, hC.1.r7]
    first | rfl | (simp only [aN1, aN2, aN3, aN4, aN5, aN6, aN7, Nat.add_zero, Nat.reduceLT, Nat.reduceEqDiff, Nat.reduceSub, Nat.reduceAdd, ↓reduceIte])
theorem MF_request_o1 (hM : MY Y (B + 908)) (hd : N.1 (B + 910) = d) (hD : DJ ops d) {x y : Int32} (h : outR x (nR d)) : f_X8_request Y (B + 908) x y N = some (nI 0, mm N B (nI 1)) := by
  have e0 : si N (B + 908) 0 (nI 0) = mm N B (nI 0) := rfl
  unfold f_X8_request
  simp (disch := omega) only [↓lt_eq, nI_lit, e0, (noR hM hd hD x).1 h, ↓reduceIte, pLEt, pLEf, pLTt, pLTf, pEQf, pML, pMG, pMf, pMg, bd2, Option.bind_some, nz10]
theorem MF_request_o2 (hM : MY Y (B + 908)) (hd : N.1 (B + 910) = d) (hD : DJ ops d) {j : Nat} (hj : j < nR d) {y : Int32} (h : outR y 7) : f_X8_request Y (B + 908) (nI j) y N = some (nI 0, mm N B (nI 2)) := by
  have e0 : si N (B + 908) 0 (nI 0) = mm N B (nI 0) := rfl
  have e9 := (noN (Y := Y) (B := B) (N := N) (n := 7) (by omega) y).1 h
  rw [pk_sub (by omega)] at e9
  unfold f_X8_request
  simp (disch := omega) only [↓lt_eq, nI_lit, e0, (noR hM hd hD (nI j)).2 j hj rfl, ↓reduceIte, pLEt, pLEf, pLTt, pLTf, pEQf, pML, pMG, pMf, pMg, bd2, Option.bind_some, nz10, e9, Nat.reduceSub]
theorem MF_request (hM : MY Y (B + 908)) (hd : N.1 (B + 910) = d) (hD : DJ ops d) {j : Nat} (hj : j < nR d) {k : Nat} (hk : k < 7) : f_X8_request Y (B + 908) (nI j) (nI k) N = some (sReq d j k, mm N B (nI 0)) := by
  have hb := hD.R60
  have e0 : si N (B + 908) 0 (nI 0) = mm N B (nI 0) := rfl
  have e9 := (noN (Y := Y) (B := B) (N := N) (n := 7) (by omega) (nI k)).2 k hk rfl
  rw [pk_sub (by omega)] at e9
  have e1 := M_req (Y := Y) (B := B) (N := mm N B (nI 0)) (d := d) (show j < 60 by omega) hk
  rw [← mm_sd hM hd] at e1
  unfold f_X8_request
  simp (disch := omega) only [↓lt_eq, nI_lit, e0, (noR hM hd hD (nI j)).2 j hj rfl, ↓reduceIte, pLEt, pLEf, pLTt, pLTf, pEQf, pML, pMG, pMf, pMg, bd2, bd, Option.bind_some, nz10, e9, e1, Nat.reduceSub]
theorem F_request (hY : YO Y B) (hI : IV B N) (x y : Int32) : FC2 Y B [IOB, IAE] (f_X7_request Y B x y) (f_X8_request Y (B + 908) x y) N := by
  obtain ⟨⟨g0, g3, g4, g5, g6, g7⟩, -, -, hW, hW2, -, hM, -⟩ := hY
  have hI' := hI
  obtain ⟨⟨ops, d, hD, hz, ht, hd, P, hC⟩, -, -⟩ := hI'
  have hb := hD.R60
  rcases ix_or x (n := nR d) (by omega) with h | ⟨j, hj, rfl⟩
  · exact ⟨_, N, K_request_o1 g5 hW hD hC h, fun N' hN' => ⟨_, _, MF_request_o1 hM (row_ints hN' hd) hD h, (after_read hN' hI _).1, (after_read hN' hI _).2, 0, by decide, rfl, gi_mm _ _ _⟩⟩
  · rcases ix_or y (n := 7) (by omega) with h | ⟨k, hk, rfl⟩
    · exact ⟨_, N, K_request_o2 g5 hW hD hC hj h, fun N' hN' => ⟨_, _, MF_request_o2 hM (row_ints hN' hd) hD hj h, (after_read hN' hI _).1, (after_read hN' hI _).2, 1, by decide, rfl, gi_mm _ _ _⟩⟩
    · exact ⟨_, N, K_request g5 hW hD hC hj hk, fun N' hN' => ⟨_, _, MF_request hM (row_ints hN' hd) hD hj hk, (after_read hN' hI _).1, (after_read hN' hI _).2, gi_mm _ _ _, rfl⟩⟩

end FR