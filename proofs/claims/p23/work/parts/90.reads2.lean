/-! PRUNED: of whole -/
section FR
variable {P : Nat → Int32} {Y : XY} {B w : Nat} {N : XN} {d : XD} {ops : List Int32}
theorem K_has_in {j : Nat} : (gi N w 1 = nI (nH d) → nH d ≤ 6 → j < nH d → f_X6_hasHandler Y w (nI j) N = nI 1) ∧ (gi N w 3 = nI (nL d) → nL d ≤ 8 → j < nL d → f_X6_hasLine Y w (nI j) N = nI 1) ∧ (gi N w 5 = nI (nR d) → nR d ≤ 60 → j < nR d → f_X6_hasRequest Y w (nI j) N = nI 1) := by
  have key : ∀ n, n < 100 → j < n → (if nI j < nI 0 then nI 0 else if nI n ≤ nI j then nI 0 else nI 1) = nI 1 := by
    intro n hn h
    rw [if_neg (nI_nlt (Nat.zero_le j) (by omega)), if_neg (nI_ge h (by omega))]
  refine ⟨fun e h h2 => ?_, fun e h h2 => ?_, fun e h h2 => ?_⟩
  · unfold f_X6_hasHandler; rw [e]; exact key _ (by omega) h2
  · unfold f_X6_hasLine; rw [e]; exact key _ (by omega) h2
  · unfold f_X6_hasRequest; rw [e]; exact key _ (by omega) h2
theorem nz10 : (nI 1 = nI 0) = False := eq_false (by decide)

theorem K_state (h5 : gp Y B 5 = w) (hW : WY Y w) (hD : DJ ops d) (hC : CR P ops d (wc N w)) {k : Nat} (hk : k < 10) : f_X7_state Y B (nI k) N = some (.inl (sTold d k), N) := by
  have r0 := fun s => C_requestsIn (N := N) (s := s) hW hD hC
  have r1 := C_broken (N := N) hW hD hC
  have r2 := C_allCoins (N := N) hW hD hC
  rw [sw_wc] at r1 r2
  simp only [sw_wc] at r0
  unfold f_X7_state sTold
  rcases (show k = 0 ∨ k = 1 ∨ k = 2 ∨ k = 3 ∨ k = 4 ∨ k = 5 ∨ k = 6 ∨ k = 7 ∨ k = 8 ∨ k = 9 by omega) with rfl | rfl | rfl | rfl | rfl | rfl | rfl | rfl | rfl | rfl
  · simp (disch := omega) only [nI_lit, ↓reduceIte, pLEt, pLEf, pLTt, pLTf, pEQf, pML, pMG, pMf, pMg, h5, gi_wc0 N w, hC.1.w6, hC.1.w1, hC.1.w3, hC.1.w5, hC.1.w7, bd, Option.bind_some, r0, r1, r2]
    rfl
  · simp (disch := omega) only [nI_lit, ↓reduceIte, pLEt, pLEf, pLTt, pLTf, pEQf, pML, pMG, pMf, pMg, h5, gi_wc0 N w, hC.1.w6, hC.1.w1, hC.1.w3, hC.1.w5, hC.1.w7, bd, Option.bind_some, r0, r1, r2]
    rfl
  · simp (disch := omega) only [nI_lit, ↓reduceIte, pLEt, pLEf, pLTt, pLTf, pEQf, pML, pMG, pMf, pMg, h5, gi_wc0 N w, hC.1.w6, hC.1.w1, hC.1.w3, hC.1.w5, hC.1.w7, bd, Option.bind_some, r0, r1, r2]
    rfl
  · simp (disch := omega) only [nI_lit, ↓reduceIte, pLEt, pLEf, pLTt, pLTf, pEQf, pML, pMG, pMf, pMg, h5, gi_wc0 N w, hC.1.w6, hC.1.w1, hC.1.w3, hC.1.w5, hC.1.w7, bd, Option.bind_some, r0, r1, r2]
    rfl
  · simp (disch := omega) only [nI_lit, ↓reduceIte, pLEt, pLEf, pLTt, pLTf, pEQf, pML, pMG, pMf, pMg, h5, gi_wc0 N w, hC.1.w6, hC.1.w1, hC.1.w3, hC.1.w5, hC.1.w7, bd, Option.bind_some, r0, r1, r2]
    rfl
  · simp (disch := omega) only [nI_lit, ↓reduceIte, pLEt, pLEf, pLTt, pLTf, pEQf, pML, pMG, pMf, pMg, h5, gi_wc0 N w, hC.1.w6, hC.1.w1, hC.1.w3, hC.1.w5, hC.1.w7, bd, Option.bind_some, r0, r1, r2]
    rfl
  · simp (disch := omega) only [nI_lit, ↓reduceIte, pLEt, pLEf, pLTt, pLTf, pEQf, pML, pMG, pMf, pMg, h5, gi_wc0 N w, hC.1.w6, hC.1.w1, hC.1.w3, hC.1.w5, hC.1.w7, bd, Option.bind_some, r0, r1, r2]
    rfl
  · simp (disch := omega) only [nI_lit, ↓reduceIte, pLEt, pLEf, pLTt, pLTf, pEQf, pML, pMG, pMf, pMg, h5, gi_wc0 N w, hC.1.w6, hC.1.w1, hC.1.w3, hC.1.w5, hC.1.w7, bd, Option.bind_some, r0, r1, r2]
    rfl
  · simp (disch := omega) only [nI_lit, ↓reduceIte, pLEt, pLEf, pLTt, pLTf, pEQf, pML, pMG, pMf, pMg, h5, gi_wc0 N w, hC.1.w6, hC.1.w1, hC.1.w3, hC.1.w5, hC.1.w7, bd, Option.bind_some, r0, r1, r2]
    rfl
  · simp (disch := omega) only [nI_lit, ↓reduceIte, pLEt, pLEf, pLTt, pLTf, pEQf, pML, pMG, pMf, pMg, h5, gi_wc0 N w, hC.1.w6, hC.1.w1, hC.1.w3, hC.1.w5, hC.1.w7, bd, Option.bind_some, r0, r1, r2]
    rfl
theorem K_handler (h5 : gp Y B 5 = w) (hW : WY Y w) (hD : DJ ops d) (hC : CR P ops d (wc N w)) {j : Nat} (hj : j < nH d) {k : Nat} (hk : k < 8) : f_X7_handler Y B (nI j) (nI k) N = some (.inl (sToldH d j k), N) := by
  have hb := hD.H6
  have e : gi N w 1 = nI (nH d) := (hC.1.w1).trans hD.H
  have e2 := (K_has_in (Y := Y) (N := N) (w := w) (d := d) (j := j)).1 e hb hj
  have r0 := C_linesOf (N := N) (h := nI j) hW hD hC
  rw [sw_wc] at r0
  unfold f_X7_handler sToldH
  rcases (show k = 0 ∨ k = 1 ∨ k = 2 ∨ k = 3 ∨ k = 4 ∨ k = 5 ∨ k = 6 ∨ k = 7 by omega) with rfl | rfl | rfl | rfl | rfl | rfl | rfl | rfl
  · simp (disch := omega) only [nI_lit, ↓lt_eq, h5, e2, ↓reduceIte, pLEt, pLEf, pLTt, pLTf, pEQf, pML, pMG, pMf, pMg, nz10, xb_nI, nI_clamp, if_true, hW.g0, hW.g2, hW.g4, hW.h, hW.l, hW.t, hW.r, gi_wc N w, bd, Option.bind_some, hC.1.h0, hC.1.h1, hC.1.h2, hC.1.h4, hC.1.h5, hC.1.h6, hC.2.2 j hj, r0]
    first | rfl | (simp only [aN1, aN2, aN3, aN4, aN5, aN6, aN7, Nat.add_zero, Nat.reduceLT, Nat.reduceEqDiff, Nat.reduceSub, Nat.reduceAdd, ↓reduceIte])
  · simp (disch := omega) only [nI_lit, ↓lt_eq, h5, e2, ↓reduceIte, pLEt, pLEf, pLTt, pLTf, pEQf, pML, pMG, pMf, pMg, nz10, xb_nI, nI_clamp, if_true, hW.g0, hW.g2, hW.g4, hW.h, hW.l, hW.t, hW.r, gi_wc N w, bd, Option.bind_some, hC.1.h0, hC.1.h1, hC.1.h2, hC.1.h4, hC.1.h5, hC.1.h6, hC.2.2 j hj, r0]
    first | rfl | (simp only [aN1, aN2, aN3, aN4, aN5, aN6, aN7, Nat.add_zero, Nat.reduceLT, Nat.reduceEqDiff, Nat.reduceSub, Nat.reduceAdd, ↓reduceIte])
  · rcases hD.B j hj with q | q
    all_goals (simp (disch := omega) only [nI_lit, ↓lt_eq, h5, e2, ↓reduceIte, pLEt, pLEf, pLTt, pLTf, pEQf, pML, pMG, pMf, pMg, nz10, xb_nI, nI_clamp, if_true, hW.g0, hW.g2, hW.g4, hW.h, hW.l, hW.t, hW.r, gi_wc N w, bd, Option.bind_some, hC.1.h0, hC.1.h1, hC.1.h2, hC.1.h4, hC.1.h5, hC.1.h6, hC.2.2 j hj, r0, q]; first | rfl | (simp only [aN1, aN2, aN3, aN4, aN5, aN6, aN7, Nat.add_zero, Nat.reduceLT, Nat.reduceEqDiff, Nat.reduceSub, Nat.reduceAdd, ↓reduceIte, q]))
  · simp (disch := omega) only [nI_lit, ↓lt_eq, h5, e2, ↓reduceIte, pLEt, pLEf, pLTt, pLTf, pEQf, pML, pMG, pMf, pMg, nz10, xb_nI, nI_clamp, if_true, hW.g0, hW.g2, hW.g4, hW.h, hW.l, hW.t, hW.r, gi_wc N w, bd, Option.bind_some, hC.1.h0, hC.1.h1, hC.1.h2, hC.1.h4, hC.1.h5, hC.1.h6, hC.2.2 j hj, r0]
    first | rfl | (simp only [aN1, aN2, aN3, aN4, aN5, aN6, aN7, Nat.add_zero, Nat.reduceLT, Nat.reduceEqDiff, Nat.reduceSub, Nat.reduceAdd, ↓reduceIte])
  · simp (disch := omega) only [nI_lit, ↓lt_eq, h5, e2, ↓reduceIte, pLEt, pLEf, pLTt, pLTf, pEQf, pML, pMG, pMf, pMg, nz10, xb_nI, nI_clamp, if_true, hW.g0, hW.g2, hW.g4, hW.h, hW.l, hW.t, hW.r, gi_wc N w, bd, Option.bind_some, hC.1.h0, hC.1.h1, hC.1.h2, hC.1.h4, hC.1.h5, hC.1.h6, hC.2.2 j hj, r0]
    first | rfl | (simp only [aN1, aN2, aN3, aN4, aN5, aN6, aN7, Nat.add_zero, Nat.reduceLT, Nat.reduceEqDiff, Nat.reduceSub, Nat.reduceAdd, ↓reduceIte])
  · simp (disch := omega) only [nI_lit, ↓lt_eq, h5, e2, ↓reduceIte, pLEt, pLEf, pLTt, pLTf, pEQf, pML, pMG, pMf, pMg, nz10, xb_nI, nI_clamp, if_true, hW.g0, hW.g2, hW.g4, hW.h, hW.l, hW.t, hW.r, gi_wc N w, bd, Option.bind_some, hC.1.h0, hC.1.h1, hC.1.h2, hC.1.h4, hC.1.h5, hC.1.h6, hC.2.2 j hj, r0]
    first | rfl | (simp only [aN1, aN2, aN3, aN4, aN5, aN6, aN7, Nat.add_zero, Nat.reduceLT, Nat.reduceEqDiff, Nat.reduceSub, Nat.reduceAdd, ↓reduceIte])
  · simp (disch := omega) only [nI_lit, ↓lt_eq, h5, e2, ↓reduceIte, pLEt, pLEf, pLTt, pLTf, pEQf, pML, pMG, pMf, pMg, nz10, xb_nI, nI_clamp, if_true, hW.g0, hW.g2, hW.g4, hW.h, hW.l, hW.t, hW.r, gi_wc N w, bd, Option.bind_some, hC.1.h0, hC.1.h1, hC.1.h2, hC.1.h4, hC.1.h5, hC.1.h6, hC.2.2 j hj, r0]
    first | rfl | (simp only [aN1, aN2, aN3, aN4, aN5, aN6, aN7, Nat.add_zero, Nat.reduceLT, Nat.reduceEqDiff, Nat.reduceSub, Nat.reduceAdd, ↓reduceIte])
  · simp (disch := omega) only [nI_lit, ↓lt_eq, h5, e2, ↓reduceIte, pLEt, pLEf, pLTt, pLTf, pEQf, pML, pMG, pMf, pMg, nz10, xb_nI, nI_clamp, if_true, hW.g0, hW.g2, hW.g4, hW.h, hW.l, hW.t, hW.r, gi_wc N w, bd, Option.bind_some, hC.1.h0, hC.1.h1, hC.1.h2, hC.1.h4, hC.1.h5, hC.1.h6, hC.2.2 j hj, r0]
    first | rfl | (simp only [aN1, aN2, aN3, aN4, aN5, aN6, aN7, Nat.add_zero, Nat.reduceLT, Nat.reduceEqDiff, Nat.reduceSub, Nat.reduceAdd, ↓reduceIte])
def sReq (d : XD) (j k : Nat) : Int32 := d (104 + 8 * j + k)
theorem K_line (h5 : gp Y B 5 = w) (hW : WY Y w) (hD : DJ ops d) (hC : CR P ops d (wc N w)) {j : Nat} (hj : j < nL d) {k : Nat} (hk : k < 5) : f_X7_line Y B (nI j) (nI k) N = some (.inl (sToldL d j k), N) := by
  have hb := hD.L8
  have e : gi N w 3 = nI (nL d) := (hC.1.w3).trans hD.L
  have e2 := (K_has_in (Y := Y) (N := N) (w := w) (d := d) (j := j)).2.1 e hb hj
  have r0 := C_openOf (N := N) (l := nI j) (h := -nI 1) hW hD hC
  rw [sw_wc] at r0
  unfold f_X7_line sToldL
  rcases (show k = 0 ∨ k = 1 ∨ k = 2 ∨ k = 3 ∨ k = 4 by omega) with rfl | rfl | rfl | rfl | rfl
  · simp (disch := omega) only [nI_lit, ↓lt_eq, h5, e2, ↓reduceIte, pLEt, pLEf, pLTt, pLTf, pEQf, pML, pMG, pMf, pMg, nz10, xb_nI, nI_clamp, if_true, hW.g0, hW.g2, hW.g4, hW.h, hW.l, hW.t, hW.r, gi_wc N w, bd, Option.bind_some, hC.1.l0, hC.1.l1, hC.1.l2, hC.1.l4, r0]
    first | rfl | (simp only [aN1, aN2, aN3, aN4, aN5, aN6, aN7, Nat.add_zero, Nat.reduceLT, Nat.reduceEqDiff, Nat.reduceSub, Nat.reduceAdd, ↓reduceIte])
  · simp (disch := omega) only [nI_lit, ↓lt_eq, h5, e2, ↓reduceIte, pLEt, pLEf, pLTt, pLTf, pEQf, pML, pMG, pMf, pMg, nz10, xb_nI, nI_clamp, if_true, hW.g0, hW.g2, hW.g4, hW.h, hW.l, hW.t, hW.r, gi_wc N w, bd, Option.bind_some, hC.1.l0, hC.1.l1, hC.1.l2, hC.1.l4, r0]
    first | rfl | (simp only [aN1, aN2, aN3, aN4, aN5, aN6, aN7, Nat.add_zero, Nat.reduceLT, Nat.reduceEqDiff, Nat.reduceSub, Nat.reduceAdd, ↓reduceIte])
  · simp (disch := omega) only [nI_lit, ↓lt_eq, h5, e2, ↓reduceIte, pLEt, pLEf, pLTt, pLTf, pEQf, pML, pMG, pMf, pMg, nz10, xb_nI, nI_clamp, if_true, hW.g0, hW.g2, hW.g4, hW.h, hW.l, hW.t, hW.r, gi_wc N w, bd, Option.bind_some, hC.1.l0, hC.1.l1, hC.1.l2, hC.1.l4, r0]
    first | rfl | (simp only [aN1, aN2, aN3, aN4, aN5, aN6, aN7, Nat.add_zero, Nat.reduceLT, Nat.reduceEqDiff, Nat.reduceSub, Nat.reduceAdd, ↓reduceIte])
  · simp (disch := omega) only [nI_lit, ↓lt_eq, h5, e2, ↓reduceIte, pLEt, pLEf, pLTt, pLTf, pEQf, pML, pMG, pMf, pMg, nz10, xb_nI, nI_clamp, if_true, hW.g0, hW.g2, hW.g4, hW.h, hW.l, hW.t, hW.r, gi_wc N w, bd, Option.bind_some, hC.1.l0, hC.1.l1, hC.1.l2, hC.1.l4, r0]
    first | rfl | (simp only [aN1, aN2, aN3, aN4, aN5, aN6, aN7, Nat.add_zero, Nat.reduceLT, Nat.reduceEqDiff, Nat.reduceSub, Nat.reduceAdd, ↓reduceIte])
  · simp (disch := omega) only [nI_lit, ↓lt_eq, h5, e2, ↓reduceIte, pLEt, pLEf, pLTt, pLTf, pEQf, pML, pMG, pMf, pMg, nz10, xb_nI, nI_clamp, if_true, hW.g0, hW.g2, hW.g4, hW.h, hW.l, hW.t, hW.r, gi_wc N w, bd, Option.bind_some, hC.1.l0, hC.1.l1, hC.1.l2, hC.1.l4, r0]
    first | rfl | (simp only [aN1, aN2, aN3, aN4, aN5, aN6, aN7, Nat.add_zero, Nat.reduceLT, Nat.reduceEqDiff, Nat.reduceSub, Nat.reduceAdd, ↓reduceIte])
theorem K_request (h5 : gp Y B 5 = w) (hW : WY Y w) (hD : DJ ops d) (hC : CR P ops d (wc N w)) {j : Nat} (hj : j < nR d) {k : Nat} (hk : k < 7) : f_X7_request Y B (nI j) (nI k) N = some (.inl (sReq d j k), N) := by
  have hb := hD.R60
  have e : gi N w 5 = nI (nR d) := (hC.1.w5).trans hD.R
  have e2 := (K_has_in (Y := Y) (N := N) (w := w) (d := d) (j := j)).2.2 e hb hj

  unfold f_X7_request sReq
  rcases (show k = 0 ∨ k = 1 ∨ k = 2 ∨ k = 3 ∨ k = 4 ∨ k = 5 ∨ k = 6 by omega) with rfl | rfl | rfl | rfl | rfl | rfl | rfl
  · simp (disch := omega) only [nI_lit, ↓lt_eq, h5, e2, ↓reduceIte, pLEt, pLEf, pLTt, pLTf, pEQf, pML, pMG, pMf, pMg, nz10, xb_nI, nI_clamp, if_true, hW.g0, hW.g2, hW.g4, hW.h, hW.l, hW.t, hW.r, gi_wc N w, bd, Option.bind_some, hC.1.r0, hC.1.r1, hC.1.r2, hC.1.r3, hC.1.r4, hC.1.r5, hC.1.r7]
    first | rfl | (simp only [aN1, aN2, aN3, aN4, aN5, aN6, aN7, Nat.add_zero, Nat.reduceLT, Nat.reduceEqDiff, Nat.reduceSub, Nat.reduceAdd, ↓reduceIte])
  · simp (disch := omega) only [nI_lit, ↓lt_eq, h5, e2, ↓reduceIte, pLEt, pLEf, pLTt, pLTf, pEQf, pML, pMG, pMf, pMg, nz10, xb_nI, nI_clamp, if_true, hW.g0, hW.g2, hW.g4, hW.h, hW.l, hW.t, hW.r, gi_wc N w, bd, Option.bind_some, hC.1.r0, hC.1.r1, hC.1.r2, hC.1.r3, hC.1.r4, hC.1.r5, hC.1.r7]
    first | rfl | (simp only [aN1, aN2, aN3, aN4, aN5, aN6, aN7, Nat.add_zero, Nat.reduceLT, Nat.reduceEqDiff, Nat.reduceSub, Nat.reduceAdd, ↓reduceIte])
  · simp (disch := omega) only [nI_lit, ↓lt_eq, h5, e2, ↓reduceIte, pLEt, pLEf, pLTt, pLTf, pEQf, pML, pMG, pMf, pMg, nz10, xb_nI, nI_clamp, if_true, hW.g0, hW.g2, hW.g4, hW.h, hW.l, hW.t, hW.r, gi_wc N w, bd, Option.bind_some, hC.1.r0, hC.1.r1, hC.1.r2, hC.1.r3, hC.1.r4, hC.1.r5, hC.1.r7]
    first | rfl | (simp only [aN1, aN2, aN3, aN4, aN5, aN6, aN7, Nat.add_zero, Nat.reduceLT, Nat.reduceEqDiff, Nat.reduceSub, Nat.reduceAdd, ↓reduceIte])
  · simp (disch := omega) only [nI_lit, ↓lt_eq, h5, e2, ↓reduceIte, pLEt, pLEf, pLTt, pLTf, pEQf, pML, pMG, pMf, pMg, nz10, xb_nI, nI_clamp, if_true, hW.g0, hW.g2, hW.g4, hW.h, hW.l, hW.t, hW.r, gi_wc N w, bd, Option.bind_some, hC.1.r0, hC.1.r1, hC.1.r2, hC.1.r3, hC.1.r4, hC.1.r5, hC.1.r7]
    first | rfl | (simp only [aN1, aN2, aN3, aN4, aN5, aN6, aN7, Nat.add_zero, Nat.reduceLT, Nat.reduceEqDiff, Nat.reduceSub, Nat.reduceAdd, ↓reduceIte])
  · simp (disch := omega) only [nI_lit, ↓lt_eq, h5, e2, ↓reduceIte, pLEt, pLEf, pLTt, pLTf, pEQf, pML, pMG, pMf, pMg, nz10, xb_nI, nI_clamp, if_true, hW.g0, hW.g2, hW.g4, hW.h, hW.l, hW.t, hW.r, gi_wc N w, bd, Option.bind_some, hC.1.r0, hC.1.r1, hC.1.r2, hC.1.r3, hC.1.r4, hC.1.r5, hC.1.r7]
    first | rfl | (simp only [aN1, aN2, aN3, aN4, aN5, aN6, aN7, Nat.add_zero, Nat.reduceLT, Nat.reduceEqDiff, Nat.reduceSub, Nat.reduceAdd, ↓reduceIte])
  · simp (disch := omega) only [nI_lit, ↓lt_eq, h5, e2, ↓reduceIte, pLEt, pLEf, pLTt, pLTf, pEQf, pML, pMG, pMf, pMg, nz10, xb_nI, nI_clamp, if_true, hW.g0, hW.g2, hW.g4, hW.h, hW.l, hW.t, hW.r, gi_wc N w, bd, Option.bind_some, hC.1.r0, hC.1.r1, hC.1.r2, hC.1.r3, hC.1.r4, hC.1.r5, hC.1.r7]
    first | rfl | (simp only [aN1, aN2, aN3, aN4, aN5, aN6, aN7, Nat.add_zero, Nat.reduceLT, Nat.reduceEqDiff, Nat.reduceSub, Nat.reduceAdd, ↓reduceIte])
  · simp (disch := omega) only [nI_lit, ↓lt_eq, h5, e2, ↓reduceIte, pLEt, pLEf, pLTt, pLTf, pEQf, pML, pMG, pMf, pMg, nz10, xb_nI, nI_clamp, if_true, hW.g0, hW.g2, hW.g4, hW.h, hW.l, hW.t, hW.r, gi_wc N w, bd, Option.bind_some, hC.1.r0, hC.1.r1, hC.1.r2, hC.1.r3, hC.1.r4, hC.1.r5, hC.1.r7]
    first | rfl | (simp only [aN1, aN2, aN3, aN4, aN5, aN6, aN7, Nat.add_zero, Nat.reduceLT, Nat.reduceEqDiff, Nat.reduceSub, Nat.reduceAdd, ↓reduceIte])
end FR
