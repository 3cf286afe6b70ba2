/-! THE MODEL'S WORK, AS FUNCTIONS OF ITS ROW (74, 75, 76 .. are laid out of *.src by mac.py, which writes the lists of rules out) -/
/-- where the model's rows lie -/
def MY (Y : XY) (m : Nat) : Prop := (gp Y m 1 = m + 1 ∧ gp Y m 8 = m + 2 ∧ gp Y m 9 = m + 3 ∧ gp Y m 10 = m + 4 ∧ gp Y m 11 = m + 5 ∧ gp Y m 12 = m + 6 ∧ gp Y m 17 = m + 15 ∧ gp Y m 18 = m + 16) ∧ (∀ i, i < 8 → gp Y (m + 6) i = m + 7 + i) ∧ (kn Y (m + 2) = 1784 ∧ kn Y (m + 3) = 1784 ∧ kn Y (m + 4) = 584 ∧ kn Y (m + 5) = 584) ∧ (∀ i, i < 8 → kn Y (m + 7 + i) = 1784)
theorem MY.g1 {Y : XY} {m : Nat} (h : MY Y m) : gp Y m 1 = m + 1 := h.1.1
theorem MY.g8 {Y : XY} {m : Nat} (h : MY Y m) : gp Y m 8 = m + 2 := h.1.2.1
theorem MY.g9 {Y : XY} {m : Nat} (h : MY Y m) : gp Y m 9 = m + 3 := h.1.2.2.1
theorem MY.g10 {Y : XY} {m : Nat} (h : MY Y m) : gp Y m 10 = m + 4 := h.1.2.2.2.1
theorem MY.g11 {Y : XY} {m : Nat} (h : MY Y m) : gp Y m 11 = m + 5 := h.1.2.2.2.2.1
theorem MY.g12 {Y : XY} {m : Nat} (h : MY Y m) : gp Y m 12 = m + 6 := h.1.2.2.2.2.2.1
theorem MY.g17 {Y : XY} {m : Nat} (h : MY Y m) : gp Y m 17 = m + 15 := h.1.2.2.2.2.2.2.1
theorem MY.g18 {Y : XY} {m : Nat} (h : MY Y m) : gp Y m 18 = m + 16 := h.1.2.2.2.2.2.2.2
theorem MY.k8 {Y : XY} {m : Nat} (h : MY Y m) : kn Y (gp Y m 8) = 1784 := by rw [h.g8]; exact h.2.2.1.1
theorem MY.n8 {Y : XY} {m : Nat} (h : MY Y m) : gp Y m 18 ≠ gp Y m 8 := by rw [h.g8, h.g18]; omega
/-- the memory but for the rows that only pass things on inside a call -/
def jn (Y : XY) (m : Nat) (N N' : XN) : Prop := (∀ a, a ≠ gp Y m 18 → N'.1 a = N.1 a) ∧ ∀ a, a ≠ gp Y m 17 → N'.2 a = N.2 a
theorem jn.rfl' {Y : XY} {m : Nat} {N : XN} : jn Y m N N := ⟨fun _ _ => rfl, fun _ _ => rfl⟩
theorem jn.trans {Y : XY} {m : Nat} {N N' N'' : XN} (h : jn Y m N N') (h' : jn Y m N' N'') : jn Y m N N'' := ⟨fun a q => (h'.1 a q).trans (h.1 a q), fun a q => (h'.2 a q).trans (h.2 a q)⟩
section XM3
variable {Y : XY} {m : Nat} {N : XN} {d : XD}
theorem sd_at (N : XN) (a : Nat) (f : XD) : (sd N a f).1 a = f := by funext k; exact gi_sd N a f k
theorem M_tenantPlace {a l : Nat} {h : Int32} (hk : kn Y a = 1784) (hl : l < 8) (ht : d (51 + 7 * l) = nI (nT d l)) (h3 : nT d l ≤ 3) : f_X8_tenantPlace Y a (nI l) h (sd N a d) = some (pI (sTP d l h)) := by
  unfold f_X8_tenantPlace sTP
  have := M_tenantPlace_L (Y := Y) (N := N) (h := h) hk hl ht h3 (nT d l) 0 FU (by omega) (by unfold FU; omega)
  simp only [nI_lit, pk_mul, nI_add] at this ⊢
  exact this
theorem M_isTenant {l : Nat} {h : Int32} (hM : MY Y m) (hl : l < 8) (ht : d (51 + 7 * l) = nI (nT d l)) (h3 : nT d l ≤ 3) : f_X8_isTenant Y m h (nI l) (sd N (gp Y m 8) d) = some (if (sTP d l h).isSome then nI 1 else nI 0) := by
  unfold f_X8_isTenant bd
  rw [M_tenantPlace hM.k8 hl ht h3]
  cases e : sTP d l h with
  | none => rfl
  | some k =>
    have hk : k < 2 ^ 31 := by have := (sTPF_some e).2.1; omega
    simp only [pI, Option.bind_some, nI_lit]
    exact if_neg (nI_neg1 hk)
theorem M_leave_L {l n : Nat} (hl : l < 8) (hn : n ≤ 3) : ∀ (c k D9 : Nat) (e : XD), e (51 + 7 * l) = nI n → k + c = n → c < D9 → n ≤ 2 ∨ c = 0 → f_X8_leave_38 Y D9 m (nI (48 + 7 * l)) (nI k) (sd N (gp Y m 8) e) = some (sd N (gp Y m 8) (fo (fun j e => upd e (52 + 7 * l + j) (e (53 + 7 * l + j))) k c e)) := by
  intro c
  induction c with
  | zero =>
    intro k D9 e he hi hD hq
    obtain ⟨D8, rfl⟩ : ∃ z, D9 = z + 1 := ⟨D9 - 1, by omega⟩
    rw [f_X8_leave_38]
    simp (disch := omega) only [↓lt_eq, bd, bd2, Option.bind_some, f_X8_handlerAt, f_X8_lineAt, f_X8_requestAt, nI_lit, pk_mul, nI_add, aN1, aN2, aN3, aN4, aN5, aN6, aN7, Nat.add_zero, Nat.reduceAdd, xb_nI, nI_clamp, gi_sd, si_sd, if_true, he, iLEt]
    rfl
  | succ c ih =>
    intro k D9 e he hi hD hq
    obtain ⟨D8, rfl⟩ : ∃ z, D9 = z + 1 := ⟨D9 - 1, by omega⟩
    rw [f_X8_leave_38]
    simp (disch := omega) only [↓lt_eq, bd, bd2, Option.bind_some, f_X8_handlerAt, f_X8_lineAt, f_X8_requestAt, nI_lit, pk_mul, nI_add, aN1, aN2, aN3, aN4, aN5, aN6, aN7, Nat.add_zero, Nat.reduceAdd, xb_nI, nI_clamp, gi_sd, si_sd, if_true, aM1, he, iLEf]
    rw [ih (k + 1) D8 _ (by rw [upd_n (by omega)]; exact he) (by omega) (by omega) (by omega)]
    rfl
theorem M_leave {l : Nat} {h : Int32} (hM : MY Y m) (hl : l < 8) (ht : d (51 + 7 * l) = nI (nT d l)) (h3 : nT d l ≤ 3) : f_X8_leave Y m h (nI l) (sd N (gp Y m 8) d) = some (sd N (gp Y m 8) (sLeave d h l)) := by
  unfold f_X8_leave sLeave bd
  rw [M_tenantPlace hM.k8 hl ht h3]
  cases e : sTP d l h with
  | none => rfl
  | some k =>
    have hk := (sTPF_some e).2.1
    simp (disch := omega) only [pI, ↓lt_eq, bd, bd2, Option.bind_some, f_X8_handlerAt, f_X8_lineAt, f_X8_requestAt, nI_lit, pk_mul, nI_add, aN1, aN2, aN3, aN4, aN5, aN6, aN7, Nat.add_zero, Nat.reduceAdd, xb_nI, nI_clamp, gi_sd, si_sd, if_true, iMf]
    have es : d (51 + 7 * l) - nI 1 = nI (nT d l - 1) := by
      rw [ht, show nT d l = (nT d l - 1) + 1 by omega]
      exact nI_pred _
    exact M_leave_L hl (n := nT d l - 1) (by omega) (nT d l - 1 - k) k FU _ (by rw [upd_s]; exact es) (by omega) (by unfold FU; omega) (by omega)
theorem sBestF_eq {e : XD} {l k : Nat} {s : Int32 × Int32} : sBestF e l k s = if s.1 = -nI 1 then (e (52 + 7 * l + k), nI (sHeld e (e (52 + 7 * l + k)))) else if nI (sHeld e (e (52 + 7 * l + k))) < s.2 then (e (52 + 7 * l + k), nI (sHeld e (e (52 + 7 * l + k)))) else s := rfl
theorem M_assign_L {r l : Nat} (hr : r < 60) (hl : l < 8) {e : XD} (e3 : e 3 = nI (nR e)) (e6 : nR e ≤ 60) (ht : e (51 + 7 * l) = nI (nT e l)) (h3 : nT e l ≤ 3) : ∀ (c k D9 : Nat) (s : Int32 × Int32), k + c = nT e l → c < D9 → f_X8_assign_35 Y D9 m (nI (104 + 8 * r)) (nI (48 + 7 * l)) s.1 s.2 (nI k) (sd N (gp Y m 8) e) = some (sd N (gp Y m 8) (upd (upd e (108 + 8 * r) (fo (sBestF e l) k c s).1) (111 + 8 * r) (e 0))) := by
  intro c
  induction c with
  | zero =>
    intro k D9 s hi hD
    obtain ⟨D8, rfl⟩ : ∃ z, D9 = z + 1 := ⟨D9 - 1, by omega⟩
    rw [f_X8_assign_35]
    simp (disch := omega) only [↓lt_eq, bd, bd2, Option.bind_some, f_X8_handlerAt, f_X8_lineAt, f_X8_requestAt, nI_lit, pk_mul, nI_add, aN1, aN2, aN3, aN4, aN5, aN6, aN7, Nat.add_zero, Nat.reduceAdd, xb_nI, nI_clamp, gi_sd, si_sd, if_true, ht, iLEt, upd_n]
    rfl
  | succ c ih =>
    intro k D9 s hi hD
    obtain ⟨D8, rfl⟩ : ∃ z, D9 = z + 1 := ⟨D9 - 1, by omega⟩
    rw [f_X8_assign_35]
    simp (disch := omega) only [↓lt_eq, bd, bd2, Option.bind_some, f_X8_handlerAt, f_X8_lineAt, f_X8_requestAt, nI_lit, pk_mul, nI_add, aN1, aN2, aN3, aN4, aN5, aN6, aN7, Nat.add_zero, Nat.reduceAdd, xb_nI, nI_clamp, gi_sd, si_sd, if_true, ht, iLEf, M_heldBy e3 e6]
    rw [fo, sBestF_eq]
    by_cases q1 : s.1 = -nI 1
    · simp only [eq_true q1, if_true]
      exact ih (k + 1) D8 (e (52 + 7 * l + k), nI (sHeld e (e (52 + 7 * l + k)))) (by omega) (by omega)
    · simp only [eq_false q1, if_false]
      by_cases q2 : nI (sHeld e (e (52 + 7 * l + k))) < s.2
      · simp only [eq_true q2, if_true]
        exact ih (k + 1) D8 (e (52 + 7 * l + k), nI (sHeld e (e (52 + 7 * l + k)))) (by omega) (by omega)
      · simp only [eq_false q2, if_false]
        exact ih (k + 1) D8 s (by omega) (by omega)
theorem M_assign {ops : List Int32} (hD : DJ ops d) {r : Nat} (hr : r < nR d) : f_X8_assign Y m (nI r) (sd N (gp Y m 8) d) = some (sd N (gp Y m 8) (sAssign d r)) := by
  have h60 := hD.R60
  have h8 := hD.L8
  obtain ⟨hl, el⟩ := hD.line hr
  obtain ⟨t1, t2, -, -⟩ := hD.ln _ hl
  unfold f_X8_assign
  simp (disch := omega) only [↓lt_eq, bd, bd2, Option.bind_some, f_X8_handlerAt, f_X8_lineAt, f_X8_requestAt, nI_lit, pk_mul, nI_add, aN1, aN2, aN3, aN4, aN5, aN6, aN7, Nat.add_zero, Nat.reduceAdd, xb_nI, nI_clamp, gi_sd, si_sd, if_true, el]
  have e3 : nR (upd d (108 + 8 * r) (-1)) = nR d := nR_same (upd_n (by omega))
  have et : nT (upd d (108 + 8 * r) (-1)) (lR d r) = nT d (lR d r) := nT_same (upd_n (by omega))
  have := M_assign_L (Y := Y) (m := m) (N := N) (r := r) (l := lR d r) (e := upd d (108 + 8 * r) (-1)) (by omega) (by omega) (by rw [e3, upd_n (by omega)]; exact hD.R) (by omega) (by rw [et, upd_n (by omega)]; exact t1) (by omega) (nT d (lR d r)) 0 FU (-1, 0) (by omega) (by unfold FU; omega)
  rw [upd_n (j := 0) (by omega)] at this
  unfold sAssign sBest
  rw [et]
  exact this
theorem M_raisedOn_L {l : Int32} (h3 : d 3 = nI (nR d)) (h6 : nR d ≤ 60) : ∀ (c i a D9 : Nat), i + c = nR d → c < D9 → f_X8_raisedOn_4 Y D9 m l (nI a) (nI i) (sd N (gp Y m 8) d) = some (nI (a + cntF (sRaisedP d l) i c)) := by
  intro c
  induction c with
  | zero =>
    intro i a D9 hi hD
    obtain ⟨D8, rfl⟩ : ∃ z, D9 = z + 1 := ⟨D9 - 1, by omega⟩
    rw [f_X8_raisedOn_4]
    simp (disch := omega) only [↓lt_eq, bd, bd2, Option.bind_some, f_X8_handlerAt, f_X8_lineAt, f_X8_requestAt, nI_lit, pk_mul, nI_add, aN1, aN2, aN3, aN4, aN5, aN6, aN7, Nat.add_zero, Nat.reduceAdd, xb_nI, nI_clamp, gi_sd, si_sd, if_true, h3, iLEt]
    simp [cntF]
  | succ c ih =>
    intro i a D9 hi hD
    obtain ⟨D8, rfl⟩ : ∃ z, D9 = z + 1 := ⟨D9 - 1, by omega⟩
    rw [f_X8_raisedOn_4]
    simp (disch := omega) only [↓lt_eq, bd, bd2, Option.bind_some, f_X8_handlerAt, f_X8_lineAt, f_X8_requestAt, nI_lit, pk_mul, nI_add, aN1, aN2, aN3, aN4, aN5, aN6, aN7, Nat.add_zero, Nat.reduceAdd, xb_nI, nI_clamp, gi_sd, si_sd, if_true, h3, iLEf, M_ofRequest]
    unfold cntF
    have i0 := ih (i + 1) (a + 0) D8 (by omega) (by omega)
    have i1 := ih (i + 1) (a + 1) D8 (by omega) (by omega)
    rw [Nat.add_zero] at i0
    unfold sRaisedP at i0 i1 ⊢
    by_cases q1 : d (104 + 8 * i) = l
    · by_cases q2 : d (107 + 8 * i) = nI 0
      · rw [if_pos q1, if_pos q2, i0]; simp [q1, q2]
      · by_cases q3 : d (105 + 8 * i) ≤ d 0 - d 6
        · rw [if_pos q1, if_neg q2, if_pos q3, i0]; simp [q1, q2, q3]
        · rw [if_pos q1, if_neg q2, if_neg q3, i1]; simp [q1, q2, q3, Nat.add_assoc]
    · rw [if_neg q1, i0]; simp [q1]
theorem M_raisedOn {l : Int32} (h3 : d 3 = nI (nR d)) (h6 : nR d ≤ 60) : f_X8_raisedOn Y m l (sd N (gp Y m 8) d) = some (nI (sRaised d l)) := by
  unfold f_X8_raisedOn
  have := M_raisedOn_L (Y := Y) (m := m) (N := N) (l := l) h3 h6 (nR d) 0 0 FU (by omega) (by unfold FU; omega)
  simp only [nI_lit]
  rw [this]
  simp [sRaised, cnt]
theorem M_min (a b : Int32) (N : XN) : f_X8_min Y a b N = mn a b := rfl
theorem M_raiseNow {ops : List Int32} (hD : DJ ops d) {r : Nat} (hr : r < nR d) (ho : d (107 + 8 * r) = nI 0) : f_X8_raiseNow Y m (nI r) (sd N (gp Y m 8) d) = some (sd N (gp Y m 8) (sRaiseNow d r)) := by
  have h60 := hD.R60
  have h8 := hD.L8
  obtain ⟨hl, el⟩ := hD.line hr
  unfold f_X8_raiseNow sRaiseNow
  simp (disch := omega) only [↓lt_eq, bd, bd2, Option.bind_some, f_X8_handlerAt, f_X8_lineAt, f_X8_requestAt, nI_lit, pk_mul, nI_add, aN1, aN2, aN3, aN4, aN5, aN6, aN7, Nat.add_zero, Nat.reduceAdd, xb_nI, nI_clamp, gi_sd, si_sd, if_true, ↓reduceIte, pLEt, pLEf, pLTt, pLTf, pEQf, pML, pMG, pMf, pMg, el, M_raisedOn hD.R hD.R60, f_X8_ofLine, M_min]
  by_cases q : nI (sRaised d (nI (lR d r)) + 1) ≤ d (49 + 7 * lR d r)
  · rw [if_pos q, if_pos q]
    have e3 : nR (sOpened d r) = nR d := nR_same (by unfold sOpened; rw [upd_n (by omega), upd_n (by omega)])
    have := M_assign (Y := Y) (m := m) (N := N) (hD.opened hr ho) (r := r) (by rw [e3]; exact hr)
    unfold sOpened at this
    rw [upd_n (j := 106 + 8 * r) (by omega), this]
    rfl
  · rw [if_neg q, if_neg q]
    simp (disch := omega) only [upd_n]
theorem M_mustPay_R {h : Int32} (n : Nat) (hn : n ≤ 60) {ops : List Int32} : ∀ (c i D9 : Nat) (e : XD), DJ ops e → nR e = n → i + c = n → c < D9 → f_X8_mustPay_108 Y D9 m h (nI i) (sd N (gp Y m 8) e) = some (sd N (gp Y m 8) (fo (fun r e => if sHolds e h r then sAssign e r else e) i c e)) := by
  intro c
  induction c with
  | zero =>
    intro i D9 e hE hR hi hD
    obtain ⟨D8, rfl⟩ : ∃ z, D9 = z + 1 := ⟨D9 - 1, by omega⟩
    rw [f_X8_mustPay_108]
    simp (disch := omega) only [↓lt_eq, bd, bd2, Option.bind_some, f_X8_handlerAt, f_X8_lineAt, f_X8_requestAt, nI_lit, pk_mul, nI_add, aN1, aN2, aN3, aN4, aN5, aN6, aN7, Nat.add_zero, Nat.reduceAdd, xb_nI, nI_clamp, gi_sd, si_sd, if_true, hE.R, iLEt]
    rfl
  | succ c ih =>
    intro i D9 e hE hR hi hD
    obtain ⟨D8, rfl⟩ : ∃ z, D9 = z + 1 := ⟨D9 - 1, by omega⟩
    rw [f_X8_mustPay_108]
    simp (disch := omega) only [↓lt_eq, bd, bd2, Option.bind_some, f_X8_handlerAt, f_X8_lineAt, f_X8_requestAt, nI_lit, pk_mul, nI_add, aN1, aN2, aN3, aN4, aN5, aN6, aN7, Nat.add_zero, Nat.reduceAdd, xb_nI, nI_clamp, gi_sd, si_sd, if_true, hE.R, iLEf, M_holds]
    unfold fo
    by_cases q : sHolds e h i = true
    · have q2 := q
      unfold sHolds sOpen at q2
      simp only [Bool.and_eq_true, decide_eq_true_eq] at q2
      simp only [q, if_true]
      rw [if_neg (by decide)]
      rw [M_assign hE (by omega), Option.bind_some]
      exact ih (i + 1) D8 _ (hE.assign (by omega) q2.1).1 ((nR_same ((sAssign_at i).2.2 3 (by omega) (by omega))).trans hR) (by omega) (by omega)
    · simp only [q, if_false, Bool.false_eq_true, if_true]
      exact ih (i + 1) D8 e hE hR (by omega) (by omega)
theorem M_mustPay_L {h : Int32} (n : Nat) (hn : n ≤ 8) {ops : List Int32} (hM : MY Y m) : ∀ (c i D9 : Nat) (e : XD), DJ ops e → nL e = n → i + c = n → c < D9 → f_X8_mustPay_81 Y D9 m h (nI i) (sd N (gp Y m 8) e) = some (sd N (gp Y m 8) (sReAll (fo (fun l e => sLeave e h l) i c e) h)) := by
  intro c
  induction c with
  | zero =>
    intro i D9 e hE hR hi hD
    obtain ⟨D8, rfl⟩ : ∃ z, D9 = z + 1 := ⟨D9 - 1, by omega⟩
    have h60 := hE.R60
    rw [f_X8_mustPay_81]
    simp (disch := omega) only [↓lt_eq, bd, bd2, Option.bind_some, f_X8_handlerAt, f_X8_lineAt, f_X8_requestAt, nI_lit, pk_mul, nI_add, aN1, aN2, aN3, aN4, aN5, aN6, aN7, Nat.add_zero, Nat.reduceAdd, xb_nI, nI_clamp, gi_sd, si_sd, if_true, hE.L, iLEt]
    exact M_mustPay_R (nR e) hE.R60 (nR e) 0 FU e hE rfl (by omega) (by unfold FU; omega)
  | succ c ih =>
    intro i D9 e hE hR hi hD
    obtain ⟨D8, rfl⟩ : ∃ z, D9 = z + 1 := ⟨D9 - 1, by omega⟩
    obtain ⟨t1, t2, -, -⟩ := hE.ln i (by omega)
    rw [f_X8_mustPay_81]
    simp (disch := omega) only [↓lt_eq, bd, bd2, Option.bind_some, f_X8_handlerAt, f_X8_lineAt, f_X8_requestAt, nI_lit, pk_mul, nI_add, aN1, aN2, aN3, aN4, aN5, aN6, aN7, Nat.add_zero, Nat.reduceAdd, xb_nI, nI_clamp, gi_sd, si_sd, if_true, hE.L, iLEf, M_leave hM (l := i) (by omega) t1 t2]
    exact ih (i + 1) D8 _ (hE.leave (by omega) h) ((nL_same (sLeave_far (hE.ln i (by omega)) h (by omega))).trans hR) (by omega) (by omega)
set_option maxRecDepth 100000 in
theorem M_mustPay {ops : List Int32} (hM : MY Y m) (hD : DJ ops d) {h acc to : Nat} {amount : Int32} (ha : acc = 3 ∨ acc = 4) (ht : toP to) (hh : h < nH d) : f_X8_mustPay Y m (nI h) amount (nI acc) (nI to) (sd N (gp Y m 8) d) = some (sd N (gp Y m 8) (sMustPay d h amount acc to)) := by
  have h6 := hD.H6
  have ht' := ht
  unfold toP at ht'
  have hP := hD.paid (amount := amount) ha ht hh
  have eH : nH (sPaid d h amount acc to) = nH d := nH_same (sPaid_FX ha ht (by omega) (FXc (by omega)))
  have hB := hP.broke (h := h) (by rw [eH]; exact hh)
  have hg : (12 + 6 * h + acc) < 1784 := by omega
  rw [sMustPay_eq]
  unfold f_X8_mustPay
  simp (disch := omega) only [↓lt_eq, bd, bd2, Option.bind_some, f_X8_handlerAt, f_X8_lineAt, f_X8_requestAt, nI_lit, pk_mul, nI_add, aN1, aN2, aN3, aN4, aN5, aN6, aN7, Nat.add_zero, Nat.reduceAdd, xb_nI, nI_clamp, gi_sd, si_sd, if_true, ↓reduceIte, pLEt, pLEf, pLTt, pLTf, pEQf, pML, pMG, pMf, pMg, M_min, upd_n]
  by_cases q : mn amount (d (12 + 6 * h)) = amount
  · rw [if_pos q, if_pos q]
    rfl
  · rw [if_neg q, if_neg q]
    exact M_mustPay_L (Y := Y) (m := m) (N := N) (h := nI h) (nL (upd (sPaid d h amount acc to) (14 + 6 * h) (nI 1))) hB.L8 hM (nL (upd (sPaid d h amount acc to) (14 + 6 * h) (nI 1))) 0 FU _ hB rfl (by omega) (by have := hB.L8; unfold FU; omega)
theorem M_answer {ops : List Int32} (hD : DJ ops d) {r h : Nat} (hr : r < nR d) (hh : h < nH d) : f_X8_answer Y m (nI r) (nI h) (sd N (gp Y m 8) d) = some (sd N (gp Y m 8) (sAnswer d r h)) := by
  have h60 := hD.R60
  have h8 := hD.L8
  have h6 := hD.H6
  obtain ⟨hl, el⟩ := hD.line hr
  unfold f_X8_answer
  simp (maxSteps := 2000000) (disch := omega) only [↓lt_eq, bd, bd2, Option.bind_some, f_X8_handlerAt, f_X8_lineAt, f_X8_requestAt, nI_lit, pk_mul, nI_add, aN1, aN2, aN3, aN4, aN5, aN6, aN7, Nat.add_zero, Nat.reduceAdd, xb_nI, nI_clamp, gi_sd, si_sd, if_true, ↓reduceIte, pLEt, pLEf, pLTt, pLTf, pEQf, pML, pMG, pMf, pMg, el, M_min, upd_n]
  rfl
end XM3
