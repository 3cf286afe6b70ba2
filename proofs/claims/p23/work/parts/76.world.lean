/-! PRUNED: of whole -/
theorem mn_comm (a b : Int32) : mn a b = mn b a := by
  unfold mn
  by_cases h1 : b ≤ a
  · by_cases h2 : a ≤ b
    · rw [if_pos h1, if_pos h2]; exact Int32.le_antisymm h1 h2
    · rw [if_pos h1, if_neg h2]
  · rw [if_neg h1, if_pos]
    rcases Int32.le_total a b with q | q
    · exact q
    · exact absurd q h1
section CW1
variable {P : Nat → Int32} {Y : XY} {w : Nat} {N : XN} {c : Nat → Nat → Int32} {d : XD} {ops : List Int32}
theorem C_raised_L (hY : WY Y w) (hD : DJ ops d) (hC : CD (nH d) (nL d) (nR d) (nT d) d c) {l : Int32} : ∀ (z i a D9 : Nat), i + z = nR d → z < D9 → f_X6_raisedInWindow_4 Y D9 w l (nI a) (nI i) (sw N w c) = some (nI (a + cntF (sRaisedP d l) i z)) := by
  have h60 := hD.R60
  intro z
  induction z with
  | zero =>
    intro i a D9 hi hD9
    obtain ⟨D8, rfl⟩ : ∃ z, D9 = z + 1 := ⟨D9 - 1, by omega⟩
    rw [f_X6_raisedInWindow_4]
    simp (disch := omega) only [↓lt_eq, bd, bd2, Option.bind_some, nI_lit, nI_clamp, nI_add, xb_nI, if_true, gi_sw, gi_sw0, si_sw, si_sw0, hY.g0, hY.g2, hY.g4, hY.g13, hY.g14, hY.f0, hY.f2, hY.h, hY.l, hY.t, hY.r, hC.w5, hD.R, iLEt]
    simp [cntF]
  | succ z ih =>
    intro i a D9 hi hD9
    obtain ⟨D8, rfl⟩ : ∃ z, D9 = z + 1 := ⟨D9 - 1, by omega⟩
    rw [f_X6_raisedInWindow_4]
    simp (disch := omega) only [↓lt_eq, bd, bd2, Option.bind_some, nI_lit, nI_clamp, nI_add, xb_nI, if_true, gi_sw, gi_sw0, si_sw, si_sw0, hY.g0, hY.g2, hY.g4, hY.g13, hY.g14, hY.f0, hY.f2, hY.h, hY.l, hY.t, hY.r, hC.w5, hC.w6, hC.w9, hD.R, iLEf, hC.r0, hC.r3, hC.r1]
    unfold cntF
    have i0 := ih (i + 1) a D8 (by omega) (by omega)
    have i1 := ih (i + 1) (a + 1) D8 (by omega) (by omega)
    unfold sRaisedP at i0 i1 ⊢
    by_cases q1 : d (104 + 8 * i) = l
    · simp only [eq_true q1, if_true, decide_true, Bool.true_and]
      by_cases q2 : d (107 + 8 * i) = nI 0
      · simp only [eq_true q2, if_true, decide_true, Bool.not_true, Bool.false_and, Bool.false_eq_true, if_false, Nat.zero_add]
        exact i0
      · simp only [eq_false q2, if_false, decide_false, Bool.not_false, Bool.true_and]
        by_cases q3 : d (105 + 8 * i) ≤ d 0 - d 6
        · simp only [eq_true q3, if_true, decide_true, Bool.not_true, Bool.false_eq_true, if_false, Nat.zero_add]
          exact i0
        · simp only [eq_false q3, if_false, decide_false, Bool.not_false, if_true]
          rw [← Nat.add_assoc]
          exact i1
    · simp only [eq_false q1, if_false, decide_false, Bool.false_and, Bool.false_eq_true, Nat.zero_add]
      exact i0
theorem C_raised (hY : WY Y w) (hD : DJ ops d) (hC : CD (nH d) (nL d) (nR d) (nT d) d c) {l : Int32} : f_X6_raisedInWindow Y w l (sw N w c) = some (nI (sRaised d l)) := by
  unfold f_X6_raisedInWindow
  have := C_raised_L (N := N) (l := l) hY hD hC (nR d) 0 0 FU (by omega) (by have := hD.R60; unfold FU; omega)
  simp only [nI_lit]
  rw [this]
  simp [sRaised, cnt]
/-- how many a handler holds, when one request changes -/
theorem sHeld_one {d' : XD} {r : Nat} (hR : nR d' = nR d) (hr : r < nR d) {h : Int32} (hs : ∀ j, j ≠ r → d' (107 + 8 * j) = d (107 + 8 * j) ∧ d' (108 + 8 * j) = d (108 + 8 * j)) : sHeld d' h + (if sHolds d h r then 1 else 0) = sHeld d h + (if sHolds d' h r then 1 else 0) := by
  unfold sHeld cnt
  rw [hR]
  refine cntF_one (fun j hj => ?_) (Nat.zero_le r) (by omega)
  unfold sHolds sOpen
  rw [(hs j hj).1, (hs j hj).2]
theorem sHeld_same {d' : XD} (hR : nR d' = nR d) {h : Int32} (hs : ∀ j, j < nR d → d' (107 + 8 * j) = d (107 + 8 * j) ∧ d' (108 + 8 * j) = d (108 + 8 * j)) : sHeld d' h = sHeld d h := by
  unfold sHeld cnt
  rw [hR]
  refine cntF_same (fun j _ hj => ?_)
  unfold sHolds sOpen
  rw [(hs j (by omega)).1, (hs j (by omega)).2]
theorem sHeld_le (h : Int32) : sHeld d h ≤ nR d := cntF_le _ _ _
theorem CD.hsH {H L R : Nat} {T : Nat → Nat} (hC : CD H L R T d c) (e : d 1 = nI H) (h6 : H ≤ 6) {t : Nat} (ht : t < H) : f_X6_hasHandler Y w (nI t) (sw N w c) = nI 1 := by
  unfold f_X6_hasHandler
  simp (disch := omega) only [nI_lit, gi_sw0, hC.w1, e, iLTf, iLEf]
theorem CD.hsL {H L R : Nat} {T : Nat → Nat} (hC : CD H L R T d c) (e : d 2 = nI L) (h8 : L ≤ 8) {t : Nat} (ht : t < L) : f_X6_hasLine Y w (nI t) (sw N w c) = nI 1 := by
  unfold f_X6_hasLine
  simp (disch := omega) only [nI_lit, gi_sw0, hC.w3, e, iLTf, iLEf]
theorem hsM {M : XN} : f_X6_hasHandler Y w (-nI 1) M = nI 0 := by
  unfold f_X6_hasHandler
  exact if_pos m1_lt
/-- the assigning's choice, by the counts that the class keeps -/
theorem C_assign_L (hY : WY Y w) (hD : DJ ops d) (hC : CD (nH d) (nL d) (nR d) (nT d) d c) {r l : Nat} (hr : r < nR d) (hl : l < nL d) {e : XD}
    (et : ∀ k, k < nT d l → e (52 + 7 * l + k) = d (52 + 7 * l + k))
    (eh : ∀ k t, k < nT d l → t < nH d → d (52 + 7 * l + k) = nI t → c (8 + t) 3 = nI (sHeld e (nI t)) ∧ sHeld e (nI t) ≤ 60) :
    ∀ (z k D9 : Nat) (s : Int32 × Int32), k + z = nT d l → z < D9 → (s.1 = -nI 1 ∨ ∃ k' t, k' < nT d l ∧ t < nH d ∧ d (52 + 7 * l + k') = nI t ∧ s.1 = nI t ∧ s.2 = nI (sHeld e (nI t))) →
    ∃ D8, f_X6_assign_27 Y D9 w (w + (30 + r)) (w + (14 + 2 * l)) s.1 (nI k) (sw N w c) = f_X6_assign_27 Y (D8 + 1) w (w + (30 + r)) (w + (14 + 2 * l)) (fo (sBestF e l) k z s).1 (nI (nT d l)) (sw N w c) := by
  have h60 := hD.R60
  have h8 := hD.L8
  have h6 := hD.H6
  obtain ⟨t1, t2, t3, -⟩ := hD.ln l hl
  have hsH : ∀ t, t < nH d → f_X6_hasHandler Y w (nI t) (sw N w c) = nI 1 := fun t ht => hC.hsH hD.H h6 ht
  intro z
  induction z with
  | zero =>
    intro k D9 s hi hD9 hs
    refine ⟨D9 - 1, ?_⟩
    rw [show D9 - 1 + 1 = D9 by omega, show k = nT d l by omega]
    rfl
  | succ z ih =>
    intro k D9 s hi hD9 hs
    obtain ⟨D8, rfl⟩ : ∃ z, D9 = z + 1 := ⟨D9 - 1, by omega⟩
    obtain ⟨t, ht, htk⟩ := t3 k (by omega)
    obtain ⟨b1, b2⟩ := eh k t (by omega) ht htk
    have st : (nI t = -nI 1 ∨ ∃ k' t', k' < nT d l ∧ t' < nH d ∧ d (52 + 7 * l + k') = nI t' ∧ nI t = nI t' ∧ nI (sHeld e (nI t)) = nI (sHeld e (nI t'))) := Or.inr ⟨k, t, by omega, ht, htk, rfl, rfl⟩
    rw [f_X6_assign_27, fo, sBestF_eq, et k (by omega), htk]
    rcases hs with q | ⟨k', t', q1, q2, q3, q4, q5⟩
    · obtain ⟨D7, i1⟩ := ih (k + 1) D8 (nI t, nI (sHeld e (nI t))) (by omega) (by omega) st
      refine ⟨D7, ?_⟩
      simp (disch := omega) only [↓lt_eq, bd, bd2, Option.bind_some, nI_lit, nI_clamp, nI_add, xb_nI, if_true, gi_sw, gi_sw0, si_sw, si_sw0, hY.g0, hY.g2, hY.g4, hY.g13, hY.g14, hY.f0, hY.f2, hY.h, hY.l, hY.t, hY.r, hC.l4, t1, iLEf, hC.t, htk, hsH, iEQf, q, iM0, iMt]
      exact i1
    · obtain ⟨c1, c2⟩ := eh k' t' q1 q2 q3
      by_cases q6 : sHeld e (nI t) < sHeld e (nI t')
      · obtain ⟨D7, i1⟩ := ih (k + 1) D8 (nI t, nI (sHeld e (nI t))) (by omega) (by omega) st
        refine ⟨D7, ?_⟩
        simp (disch := omega) only [↓lt_eq, bd, bd2, Option.bind_some, nI_lit, nI_clamp, nI_add, xb_nI, if_true, gi_sw, gi_sw0, si_sw, si_sw0, hY.g0, hY.g2, hY.g4, hY.g13, hY.g14, hY.f0, hY.f2, hY.h, hY.l, hY.t, hY.r, hC.l4, t1, iLEf, iLTf, iLTt, hC.t, htk, hsH, iEQf, q4, q5, iMf, b1, c1]
        exact i1
      · obtain ⟨D7, i1⟩ := ih (k + 1) D8 s (by omega) (by omega) (Or.inr ⟨k', t', q1, q2, q3, q4, q5⟩)
        refine ⟨D7, ?_⟩
        simp (disch := omega) only [↓lt_eq, bd, bd2, Option.bind_some, nI_lit, nI_clamp, nI_add, xb_nI, if_true, gi_sw, gi_sw0, si_sw, si_sw0, hY.g0, hY.g2, hY.g4, hY.g13, hY.g14, hY.f0, hY.f2, hY.h, hY.l, hY.t, hY.r, hC.l4, t1, iLEt, iLEf, iLTf, iLTt, hC.t, htk, hsH, iEQf, q4, q5, iMf, b1, c1]
        rw [q4] at i1
        exact i1
/-- behind the assigning: counts, holder, progress -/
theorem C_assign (hY : WY Y w) (hD : DJ ops d) (hC : CR P ops d c) {r : Nat} (hr : r < nR d) (ho : d (107 + 8 * r) = nI 1) (hn : ∀ k, k < nT d (lR d r) → d (52 + 7 * lR d r + k) ≠ d (108 + 8 * r)) :
    ∃ c', f_X6_assign Y w (w + (30 + r)) (sw N w c) = some (sw N w c') ∧ CR P ops (sAssign d r) c' := by
  have h60 := hD.R60
  have h8 := hD.L8
  have h6 := hD.H6
  obtain ⟨hl, el⟩ := hD.line hr
  obtain ⟨t1, t2, t3, -⟩ := hD.ln _ hl
  obtain ⟨hC1, hC2, hC3⟩ := hC
  have e3 : nR (upd d (108 + 8 * r) (-nI 1)) = nR d := nR_same (upd_n (by omega))
  have eh : ∀ t, t < nH d → d (108 + 8 * r) ≠ nI t → sHeld (upd d (108 + 8 * r) (-nI 1)) (nI t) = sHeld d (nI t) := by
    intro t ht q
    have := sHeld_one (d := d) (d' := upd d (108 + 8 * r) (-nI 1)) (h := nI t) e3 hr (fun j hj => ⟨upd_n (by omega), upd_n (by omega)⟩)
    unfold sHolds at this
    rw [upd_s, decide_eq_false q, decide_eq_false (neg1_nI (by omega))] at this
    simpa using this
  have L := C_assign_L (N := N) hY hD hC1 hr hl (e := upd d (108 + 8 * r) (-nI 1)) (fun k hk => upd_n (by omega)) (fun k t hk ht hkt => by
    rw [eh t ht (fun q => hn k hk (hkt.trans q.symm))]
    have := sHeld_le (d := d) (nI t)
    exact ⟨hC3 t ht, by omega⟩) (nT d (lR d r)) 0 FU (-nI 1, nI 0) (by omega) (by unfold FU; omega) (Or.inl rfl)
  obtain ⟨D8, L⟩ := L
  have et : nT (upd d (108 + 8 * r) (-nI 1)) (lR d r) = nT d (lR d r) := nT_same (upd_n (by omega))
  have eb : (fo (sBestF (upd d (108 + 8 * r) (-nI 1)) (lR d r)) 0 (nT d (lR d r)) (-nI 1, nI 0)).1 = sAssign d r (108 + 8 * r) := by
    rw [(sAssign_at r).1]
    unfold sBest
    show _ = (fo (sBestF (upd d (108 + 8 * r) (-nI 1)) (lR d r)) 0 (nT (upd d (108 + 8 * r) (-nI 1)) (lR d r)) (-1, 0)).1
    rw [et]
    rfl
  have hb := (hD.assign hr ho).2
  obtain ⟨s1, s2, s3⟩ := sAssign_at (d := d) r
  have hD' := (hD.assign hr ho).1
  have cd : ∀ {c'' : Nat → Nat → Int32}, CD (nH d) (nL d) (nR d) (nT d) d c'' → CD (nH (sAssign d r)) (nL (sAssign d r)) (nR (sAssign d r)) (nT (sAssign d r)) (sAssign d r) (up2 (up2 c'' (30 + r) 4 (sAssign d r (108 + 8 * r))) (30 + r) 6 (d 0)) := by
    intro c'' h
    have := (h.ur4 h6 h8 hr (v := sAssign d r (108 + 8 * r))).ur6 h6 h8 hr (v := d 0)
    have es : upd (upd d (108 + 8 * r) (sAssign d r (108 + 8 * r))) (111 + 8 * r) (d 0) = sAssign d r := by
      funext j
      by_cases q1 : j = 111 + 8 * r
      · rw [q1, upd_s, s2]
      · by_cases q2 : j = 108 + 8 * r
        · rw [q2, upd_n (by omega), upd_s]
        · rw [upd_n q1, upd_n q2, s3 j q2 q1]
    rw [es] at this
    exact this.row (s3 1 (by omega) (by omega)) (s3 2 (by omega) (by omega)) (s3 3 (by omega) (by omega)) (fun l hl => s3 _ (by omega) (by omega))
  have eH : nH (sAssign d r) = nH d := nH_same (s3 1 (by omega) (by omega))
  have key : ∀ i, sHeld (sAssign d r) (nI i) + (if d (108 + 8 * r) = nI i then 1 else 0) = sHeld d (nI i) + (if sAssign d r (108 + 8 * r) = nI i then 1 else 0) := by
    intro i
    have := sHeld_one (d := d) (d' := sAssign d r) (h := nI i) (nR_same (s3 3 (by omega) (by omega))) hr (fun j hj => ⟨s3 _ (by omega) (by omega), s3 _ (by omega) (by omega)⟩)
    unfold sHolds sOpen at this
    rw [s3 (107 + 8 * r) (by omega) (by omega), decide_eq_true ho, Bool.true_and, Bool.true_and] at this
    simp only [decide_eq_true_eq] at this
    exact this
  have hob := (hD.opens hr ho).1
  have hsH : ∀ t, t < nH d → f_X6_hasHandler Y w (nI t) (sw N w c) = nI 1 := fun t ht => hC1.hsH hD.H h6 ht
  unfold f_X6_assign
  simp (disch := omega) only [↓lt_eq, bd, bd2, Option.bind_some, nI_lit, nI_clamp, nI_add, xb_nI, if_true, gi_sw, gi_sw0, si_sw, si_sw0, hY.g0, hY.g2, hY.g4, hY.g13, hY.g14, hY.f0, hY.f2, hY.h, hY.l, hY.t, hY.r, hC1.r0, el, hC1.hsL hD.L h8 hl, iEQf]
  rw [show f_X6_assign_27 Y FU w (w + (30 + r)) (w + (14 + 2 * lR d r)) (-nI 1) (nI 0) (sw N w c) = _ from L, f_X6_assign_27, eb]
  simp (disch := omega) only [↓lt_eq, bd, bd2, Option.bind_some, nI_lit, nI_clamp, nI_add, xb_nI, if_true, gi_sw, gi_sw0, si_sw, si_sw0, hY.g0, hY.g2, hY.g4, hY.g13, hY.g14, hY.f0, hY.f2, hY.h, hY.l, hY.t, hY.r, hC1.l4, t1, iLEt, hC1.r4]
  have hb' : sAssign d r (108 + 8 * r) = -nI 1 ∨ ∃ t, t < nH d ∧ sAssign d r (108 + 8 * r) = nI t ∧ d (108 + 8 * r) ≠ nI t := by
    rcases hb with q | ⟨k, q1, q2⟩
    · exact Or.inl q
    · obtain ⟨t, q3, q4⟩ := t3 k q1
      exact Or.inr ⟨t, q3, q2.trans q4, fun q5 => hn k q1 (q4.trans q5.symm)⟩
  rcases hob with o1 | ⟨g, o1, o2⟩
  · rcases hb' with b1 | ⟨t, b1, b2, b3⟩
    · have cd' := cd hC1
      rw [b1] at cd' key ⊢
      simp (disch := omega) only [↓lt_eq, bd, bd2, Option.bind_some, nI_lit, nI_clamp, nI_add, xb_nI, if_true, gi_sw, gi_sw0, si_sw, si_sw0, hY.g0, hY.g2, hY.g4, hY.g13, hY.g14, hY.f0, hY.f2, hY.h, hY.l, hY.t, hY.r, o1, hsM, iEQt, iM0, hC1.w6, up2_n]
      refine ⟨_, rfl, cd', (hC2.up (by omega) (by omega)).up (by omega) (by omega), fun i hi => ?_⟩
      have k := key i
      rw [o1, if_neg (neg1_nI (by omega))] at k
      rw [up2_n _ _ (by omega), up2_n _ _ (by omega), hC3 i (by omega), show sHeld (sAssign d r) (nI i) = sHeld d (nI i) by omega]
    · have cd' := cd (hC1.jh h6 (i := t) (by omega) (v := c (8 + t) 3 + nI 1))
      rw [b2] at cd' key ⊢
      simp (disch := omega) only [↓lt_eq, bd, bd2, Option.bind_some, nI_lit, nI_clamp, nI_add, xb_nI, if_true, gi_sw, gi_sw0, si_sw, si_sw0, hY.g0, hY.g2, hY.g4, hY.g13, hY.g14, hY.f0, hY.f2, hY.h, hY.l, hY.t, hY.r, o1, hsM, iEQt, iM0, iLTf, hC1.w6, up2_n]
      refine ⟨_, rfl, cd', ((hC2.up (by omega) (by omega)).up (by omega) (by omega)).up (by omega) (by omega), fun i hi => ?_⟩
      have k := key i
      rw [o1, if_neg (neg1_nI (by omega))] at k
      rw [up2_n _ _ (by omega), up2_n _ _ (by omega)]
      by_cases q : i = t
      · subst q
        rw [if_pos rfl] at k
        rw [up2_s, hC3 i (by omega), nI_add, show sHeld (sAssign d r) (nI i) = sHeld d (nI i) + 1 by omega]
      · rw [if_neg (fun q2 => q ((nI_eq (by omega) (by omega)).mp q2).symm)] at k
        rw [up2_n _ _ (by omega), hC3 i (by omega), show sHeld (sAssign d r) (nI i) = sHeld d (nI i) by omega]
  · have kg := key g
    rw [o2, if_pos rfl] at kg
    rcases hb' with b1 | ⟨t, b1, b2, b3⟩
    · have cd' := cd (hC1.jh h6 (i := g) (by omega) (v := c (8 + g) 3 - nI 1))
      rw [b1] at cd' key kg ⊢
      simp (disch := omega) only [↓lt_eq, bd, bd2, Option.bind_some, nI_lit, nI_clamp, nI_add, xb_nI, if_true, gi_sw, gi_sw0, si_sw, si_sw0, hY.g0, hY.g2, hY.g4, hY.g13, hY.g14, hY.f0, hY.f2, hY.h, hY.l, hY.t, hY.r, o2, hsH, iEQf, iM0, iLTf, hC1.w6, up2_n]
      refine ⟨_, rfl, cd', ((hC2.up (by omega) (by omega)).up (by omega) (by omega)).up (by omega) (by omega), fun i hi => ?_⟩
      have k := key i
      rw [if_neg (neg1_nI (by omega))] at k kg
      rw [up2_n _ _ (by omega), up2_n _ _ (by omega)]
      by_cases q : i = g
      · subst q
        rw [up2_s, hC3 i (by omega), pk_sub (by omega), show sHeld (sAssign d r) (nI i) = sHeld d (nI i) - 1 by omega]
      · rw [o2, if_neg (fun q2 => q ((nI_eq (by omega) (by omega)).mp q2).symm)] at k
        rw [up2_n _ _ (by omega), hC3 i (by omega), show sHeld (sAssign d r) (nI i) = sHeld d (nI i) by omega]
    · have gt : g ≠ t := fun q => b3 (by rw [o2, q])
      have cd' := cd ((hC1.jh h6 (i := g) (by omega) (v := c (8 + g) 3 - nI 1)).jh h6 (i := t) (by omega) (v := c (8 + t) 3 + nI 1))
      rw [b2] at cd' key kg ⊢
      simp (disch := omega) only [↓lt_eq, bd, bd2, Option.bind_some, nI_lit, nI_clamp, nI_add, xb_nI, if_true, gi_sw, gi_sw0, si_sw, si_sw0, hY.g0, hY.g2, hY.g4, hY.g13, hY.g14, hY.f0, hY.f2, hY.h, hY.l, hY.t, hY.r, o2, hsH, iEQf, iLTf, hC1.w6, up2_n]
      refine ⟨_, rfl, cd', (((hC2.up (by omega) (by omega)).up (by omega) (by omega)).up (by omega) (by omega)).up (by omega) (by omega), fun i hi => ?_⟩
      have k := key i
      rw [o2] at k
      rw [if_neg (fun q2 => gt ((nI_eq (by omega) (by omega)).mp q2).symm)] at kg
      rw [up2_n _ _ (by omega), up2_n _ _ (by omega)]
      by_cases q : i = t
      · subst q
        rw [if_pos rfl, if_neg (fun q2 => gt ((nI_eq (by omega) (by omega)).mp q2))] at k
        rw [up2_s, hC3 i (by omega), nI_add, show sHeld (sAssign d r) (nI i) = sHeld d (nI i) + 1 by omega]
      · rw [if_neg (c := nI t = nI i) (fun q2 => q ((nI_eq (by omega) (by omega)).mp q2).symm)] at k
        rw [up2_n _ _ (by omega)]
        by_cases q3 : i = g
        · subst q3
          rw [up2_s, hC3 i (by omega), pk_sub (by omega), show sHeld (sAssign d r) (nI i) = sHeld d (nI i) - 1 by omega]
        · rw [if_neg (fun q2 => q3 ((nI_eq (by omega) (by omega)).mp q2).symm)] at k
          rw [up2_n _ _ (by omega), hC3 i (by omega), show sHeld (sAssign d r) (nI i) = sHeld d (nI i) by omega]
end CW1

