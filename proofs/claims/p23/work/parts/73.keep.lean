/-! PRUNED: of whole -/
section KS
variable {ops : List Int32} {d : XD}
theorem sTPF_some {l : Nat} {h : Int32} : ∀ {c k j : Nat}, sTPF d l h k c = some j → k ≤ j ∧ j < k + c ∧ d (52 + 7 * l + j) = h := by
  intro c
  induction c with
  | zero => intro k j q; cases q
  | succ c ih =>
    intro k j q
    unfold sTPF at q
    split at q
    · rename_i e; cases q; exact ⟨Nat.le_refl _, by omega, e⟩
    · obtain ⟨a, b, e⟩ := ih q; exact ⟨by omega, by omega, e⟩
theorem sTPF_none {l : Nat} {h : Int32} : ∀ {c k : Nat}, sTPF d l h k c = none → ∀ j, k ≤ j → j < k + c → d (52 + 7 * l + j) ≠ h := by
  intro c
  induction c with
  | zero => intro k q j h1 h2; omega
  | succ c ih =>
    intro k q j h1 h2
    unfold sTPF at q
    split at q
    · cases q
    · rename_i e
      by_cases e2 : j = k
      · rw [e2]; exact e
      · exact ih q j (by omega) (by omega)
theorem shift_fo (l : Nat) : ∀ (c k : Nat) (e : XD) (j : Nat), fo (fun j e => upd e (52 + 7 * l + j) (e (53 + 7 * l + j))) k c e j = if 52 + 7 * l + k ≤ j ∧ j < 52 + 7 * l + k + c then e (j + 1) else e j := by
  intro c
  induction c with
  | zero => intro k e j; rw [if_neg (by omega)]; rfl
  | succ c ih =>
    intro k e j
    show fo _ (k + 1) c (upd e (52 + 7 * l + k) (e (53 + 7 * l + k))) j = _
    rw [ih]
    by_cases h1 : 52 + 7 * l + (k + 1) ≤ j ∧ j < 52 + 7 * l + (k + 1) + c
    · rw [if_pos h1, if_pos (by omega), upd_n (by omega)]
    · rw [if_neg h1]
      by_cases h2 : j = 52 + 7 * l + k
      · rw [h2, upd_s, if_pos (by omega), show 53 + 7 * l + k = 52 + 7 * l + k + 1 by omega]
      · rw [upd_n h2, if_neg (by omega)]
/-- a line without this tenant, or with it: what the leaving does -/
theorem sLeave_or {H l : Nat} (hn : LN H d l) (h : Int32) : (sTP d l h = none ∧ (∀ k, k < nT d l → d (52 + 7 * l + k) ≠ h) ∧ sLeave d h l = d) ∨
    ∃ k, sTP d l h = some k ∧ k < nT d l ∧ d (52 + 7 * l + k) = h ∧ ∀ j, sLeave d h l j = if j = 51 + 7 * l then nI (nT d l - 1) else if 52 + 7 * l + k ≤ j ∧ j < 52 + 7 * l + (nT d l - 1) then d (j + 1) else d j := by
  cases e : sTP d l h with
  | none =>
    refine Or.inl ⟨rfl, fun k hk => sTPF_none e k (by omega) (by omega), ?_⟩
    unfold sLeave; rw [e]
  | some k =>
    obtain ⟨-, h2, h3⟩ := sTPF_some e
    refine Or.inr ⟨k, rfl, by omega, h3, fun j => ?_⟩
    unfold sLeave; rw [e]
    show fo (fun (j : Nat) (e : XD) => upd e (52 + 7 * l + j) (e (53 + 7 * l + j))) k (nT d l - 1 - k) (upd d (51 + 7 * l) (d (51 + 7 * l) - 1)) j = _
    rw [shift_fo]
    obtain ⟨t1, t2, -, -⟩ := hn
    have es : d (51 + 7 * l) - 1 = nI (nT d l - 1) := by
      rw [t1, show nT d l = (nT d l - 1) + 1 by omega]
      exact nI_pred _
    by_cases q : j = 51 + 7 * l
    · rw [q, if_neg (by omega), if_pos rfl, upd_s, es]
    · rw [if_neg q]
      by_cases q2 : 52 + 7 * l + k ≤ j ∧ j < 52 + 7 * l + (nT d l - 1)
      · rw [if_pos (by omega), if_pos q2, upd_n (by omega)]
      · rw [if_neg (by omega), if_neg q2, upd_n q]
theorem sLeave_far {H l : Nat} (hn : LN H d l) (h : Int32) {j : Nat} (hj : j < 51 + 7 * l ∨ 55 + 7 * l ≤ j) : sLeave d h l j = d j := by
  rcases sLeave_or hn h with ⟨-, -, e⟩ | ⟨k, -, h1, h2, e⟩
  · rw [e]
  · have := hn.2.1
    rw [e, if_neg (by omega), if_neg (by omega)]
theorem sLeave_LN {H l : Nat} (hn : LN H d l) (h : Int32) : LN H (sLeave d h l) l ∧ (∀ k, k < nT (sLeave d h l) l → sLeave d h l (52 + 7 * l + k) ≠ h) ∧ nT (sLeave d h l) l ≤ nT d l := by
  rcases sLeave_or hn h with ⟨-, hno, e⟩ | ⟨k, -, h1, h2, e⟩
  · rw [e]; exact ⟨hn, hno, Nat.le_refl _⟩
  · obtain ⟨t1, t2, t3, t4⟩ := hn
    have e0 : sLeave d h l (51 + 7 * l) = nI (nT d l - 1) := by rw [e, if_pos rfl]
    have en : nT (sLeave d h l) l = nT d l - 1 := by
      show (sLeave d h l (51 + 7 * l)).toNatClampNeg = _
      rw [e0]; exact nI_clamp (by omega)
    have ek : ∀ i, i < nT d l - 1 → ∃ i', i' < nT d l ∧ i' ≠ k ∧ (i < k → i' = i) ∧ (k ≤ i → i' = i + 1) ∧ sLeave d h l (52 + 7 * l + i) = d (52 + 7 * l + i') := by
      intro i hi
      by_cases q : k ≤ i
      · refine ⟨i + 1, by omega, by omega, fun _ => by omega, fun _ => rfl, ?_⟩
        rw [e, if_neg (by omega), if_pos (by omega)]
        rfl
      · refine ⟨i, by omega, by omega, fun _ => rfl, fun _ => by omega, ?_⟩
        rw [e, if_neg (by omega), if_neg (by omega)]
    refine ⟨⟨by rw [en, e0], by omega, fun i hi => ?_, fun j i hj hi => ?_⟩, fun i hi => ?_, by omega⟩
    · rw [en] at hi
      obtain ⟨i', a, -, -, -, b⟩ := ek i hi
      rw [b]; exact t3 i' a
    · rw [en] at hi
      obtain ⟨i', a, -, a2, a3, b⟩ := ek i hi
      obtain ⟨j', a', -, a2', a3', b'⟩ := ek j (by omega)
      rw [b, b']
      refine t4 j' i' ?_ a
      by_cases q : k ≤ j
      · rw [a3' q, a3 (by omega)]; omega
      · rw [a2' (by omega)]
        by_cases q2 : k ≤ i
        · rw [a3 q2]; omega
        · rw [a2 (by omega)]; exact hj
    · rw [en] at hi
      obtain ⟨i', a, a1, -, -, b⟩ := ek i hi
      rw [b, ← h2]
      rcases Nat.lt_or_ge i' k with q | q
      · exact t4 i' k q h1
      · exact fun q2 => t4 k i' (by omega) a q2.symm
theorem DJ.leave (hD : DJ ops d) {l : Nat} (hl : l < nL d) (h : Int32) : DJ ops (sLeave d h l) :=
  DJ_L hD hl (fun j _ hj => sLeave_far (hD.ln l hl) h hj) (sLeave_LN (hD.ln l hl) h).1
theorem sBest_or (l : Nat) : (sBest d l = -1) ∨ ∃ k, k < nT d l ∧ sBest d l = d (52 + 7 * l + k) := by
  unfold sBest
  refine fo_inv (sBestF d l) (fun s => s.1 = -1 ∨ ∃ k, k < nT d l ∧ s.1 = d (52 + 7 * l + k)) (n := nT d l) ?_ (nT d l) 0 _ (by omega) (Or.inl rfl)
  intro i s hi hs
  unfold sBestF
  split
  · exact Or.inr ⟨i, hi, rfl⟩
  · split
    · exact Or.inr ⟨i, hi, rfl⟩
    · exact hs
theorem sAssign_at (r : Nat) : sAssign d r (108 + 8 * r) = sBest (upd d (108 + 8 * r) (-1)) (lR d r) ∧ sAssign d r (111 + 8 * r) = d 0 ∧ ∀ j, j ≠ 108 + 8 * r → j ≠ 111 + 8 * r → sAssign d r j = d j := by
  unfold sAssign
  refine ⟨by rw [upd_n (by omega), upd_s], upd_s _ _ _, fun j h1 h2 => by rw [upd_n h2, upd_n h1, upd_n h1]⟩
theorem sBest_upd {r l : Nat} {v : Int32} (h8 : l < 8) (h3 : nT d l ≤ 3) : (sBest (upd d (108 + 8 * r) v) l = -1) ∨ ∃ k, k < nT d l ∧ sBest (upd d (108 + 8 * r) v) l = d (52 + 7 * l + k) := by
  have et : nT (upd d (108 + 8 * r) v) l = nT d l := nT_same (upd_n (by omega))
  rcases sBest_or (d := upd d (108 + 8 * r) v) l with h | ⟨k, h1, h2⟩
  · exact Or.inl h
  · rw [et] at h1
    exact Or.inr ⟨k, h1, by rw [h2, upd_n (by omega)]⟩
theorem DJ.assign (hD : DJ ops d) {r : Nat} (hr : r < nR d) (ho : d (107 + 8 * r) = nI 1) : DJ ops (sAssign d r) ∧ (sAssign d r (108 + 8 * r) = -1 ∨ ∃ k, k < nT d (lR d r) ∧ sAssign d r (108 + 8 * r) = d (52 + 7 * lR d r + k)) := by
  obtain ⟨e1, e2, e3⟩ := sAssign_at (d := d) r
  obtain ⟨hl, -⟩ := hD.line hr
  have h8 := hD.L8
  obtain ⟨-, t2, t3, -⟩ := hD.ln _ hl
  have hb := sBest_upd (d := d) (r := r) (v := -1) (l := lR d r) (by omega) t2
  rw [← e1] at hb
  refine ⟨DJ_R hD hr (fun j _ hj => e3 j (by omega) (by omega)) ?_, hb⟩
  obtain ⟨a1, a2, a3, a4, a5⟩ := hD.rq r hr
  unfold RQ
  rw [e3 (104 + 8 * r) (by omega) (by omega), e3 (106 + 8 * r) (by omega) (by omega), e3 (109 + 8 * r) (by omega) (by omega), e3 (107 + 8 * r) (by omega) (by omega), e3 (110 + 8 * r) (by omega) (by omega), e2]
  refine ⟨a1, a2, a3, ⟨tM d, Nat.le_refl _, hD.T⟩, Or.inr (Or.inl ⟨ho, ?_, ?_⟩)⟩
  · rcases hb with q | ⟨k, q1, q2⟩
    · exact Or.inl q
    · obtain ⟨h, q3, q4⟩ := t3 k q1
      exact Or.inr ⟨h, q3, by rw [q2, q4]⟩
  · rcases a5 with q | q | q
    · exact q.2.2
    · exact q.2.2
    · rw [ho] at q
      rcases q.1 with z | z <;> exact absurd z (by decide)
/-- a request that comes: its places -/
theorem DJ.comes (hD : DJ ops d) {r : Nat} (hr : r < nR d) (ho : d (107 + 8 * r) = nI 0) : d (108 + 8 * r) = -nI 1 ∧ d (110 + 8 * r) = -nI 1 := by
  obtain ⟨-, -, -, -, a5⟩ := hD.rq r hr
  rcases a5 with q | q | q
  · exact q.2
  · rw [ho] at q; exact absurd q.1 (by decide)
  · rw [ho] at q; rcases q.1 with z | z <;> exact absurd z (by decide)
theorem DJ.opens (hD : DJ ops d) {r : Nat} (hr : r < nR d) (ho : d (107 + 8 * r) = nI 1) : (d (108 + 8 * r) = -nI 1 ∨ ∃ h, h < nH d ∧ d (108 + 8 * r) = nI h) ∧ d (110 + 8 * r) = -nI 1 := by
  obtain ⟨-, -, -, -, a5⟩ := hD.rq r hr
  rcases a5 with q | q | q
  · rw [ho] at q; exact absurd q.1 (by decide)
  · exact q.2
  · rw [ho] at q; rcases q.1 with z | z <;> exact absurd z (by decide)
/-- a request that is opened: state and work -/
def sOpened (d : XD) (r : Nat) : XD := upd (upd d (107 + 8 * r) (nI 1)) (109 + 8 * r) (d (106 + 8 * r))
theorem DJ.opened (hD : DJ ops d) {r : Nat} (hr : r < nR d) (ho : d (107 + 8 * r) = nI 0) : DJ ops (sOpened d r) := by
  obtain ⟨c1, c2⟩ := hD.comes hr ho
  refine DJ_R hD hr (fun j _ hj => by unfold sOpened; rw [upd_n (by omega), upd_n (by omega)]) ?_
  obtain ⟨a1, a2, a3, a4, a5⟩ := hD.rq r hr
  unfold RQ sOpened
  simp (disch := omega) only [upd_n, upd_s]
  exact ⟨a1, a2, a2, a4, Or.inr (Or.inl ⟨trivial, Or.inl c1, c2⟩)⟩
theorem DJ.raiseNow (hD : DJ ops d) {r : Nat} (hr : r < nR d) (ho : d (107 + 8 * r) = nI 0) : DJ ops (sRaiseNow d r) := by
  obtain ⟨c1, c2⟩ := hD.comes hr ho
  obtain ⟨hl, -⟩ := hD.line hr
  have h8 := hD.L8
  unfold sRaiseNow
  split
  · have hO := hD.opened hr ho
    have e3 : nR (sOpened d r) = nR d := nR_same (by unfold sOpened; rw [upd_n (by omega), upd_n (by omega)])
    exact (hO.assign (by rw [e3]; exact hr) (by unfold sOpened; rw [upd_n (by omega), upd_s])).1
  · have h1 : DJ ops (upd (upd d (50 + 7 * lR d r) (d (50 + 7 * lR d r) - mn (d 7) (d (50 + 7 * lR d r)))) 4 (d 4 + mn (d 7) (d (50 + 7 * lR d r)))) :=
      DJ_F hD (fun j hj => by
        unfold FX at hj
        rw [upd_n (by omega), upd_n (by omega)])
    refine DJ_R hD hr (fun j hj hj2 => ?_) ?_
    · unfold FX at hj
      rw [upd_n (by omega), upd_n (by omega), upd_n (by omega), upd_n (by omega)]
    · obtain ⟨a1, a2, a3, a4, a5⟩ := hD.rq r hr
      unfold RQ
      simp (disch := omega) only [upd_n, upd_s]
      exact ⟨a1, a2, a3, a4, Or.inr (Or.inr ⟨Or.inr trivial, c1, ⟨tM d, tM_lt d, hD.T⟩⟩)⟩
/-- what the leaving of all lines keeps -/
theorem sLeaveAll_keep (hD : DJ ops d) (h : Int32) : DJ ops (sLeaveAll d h) ∧ (∀ l k, l < nL d → k < nT (sLeaveAll d h) l → sLeaveAll d h (52 + 7 * l + k) ≠ h) ∧ (∀ j, j < 51 ∨ 104 ≤ j ∨ (j - 48) % 7 < 3 → sLeaveAll d h j = d j) := by
  have key : ∀ (c i : Nat) (e : XD), i + c = nL d → DJ ops e → (∀ j, j < 51 ∨ 104 ≤ j ∨ (j - 48) % 7 < 3 → e j = d j) → (∀ l k, l < i → k < nT e l → e (52 + 7 * l + k) ≠ h) →
      DJ ops (fo (fun l e => sLeave e h l) i c e) ∧ (∀ l k, l < nL d → k < nT (fo (fun l e => sLeave e h l) i c e) l → fo (fun l e => sLeave e h l) i c e (52 + 7 * l + k) ≠ h) ∧ (∀ j, j < 51 ∨ 104 ≤ j ∨ (j - 48) % 7 < 3 → fo (fun l e => sLeave e h l) i c e j = d j) := by
    intro c
    induction c with
    | zero => intro i e hi hE hj hg; exact ⟨hE, fun l k hl hk => hg l k (by omega) hk, hj⟩
    | succ c ih =>
      intro i e hi hE hj hg
      have h8 := hD.L8
      have eL : nL e = nL d := nL_same (hj 2 (by omega))
      have hn := hE.ln i (by omega)
      have hf := fun j hj => sLeave_far hn h (j := j) hj
      obtain ⟨g1, g2, g3⟩ := sLeave_LN hn h
      refine ih (i + 1) _ (by omega) (hE.leave (by omega) h) (fun j q => ?_) (fun l k hl hk => ?_)
      · show sLeave e h i j = d j
        rw [hf j (by omega)]; exact hj j q
      · by_cases q : l = i
        · subst q; exact g2 k hk
        · have et : nT (sLeave e h i) l = nT e l := nT_same (hf _ (by omega))
          rw [et] at hk
          have := (hE.ln l (by omega)).2.1
          show sLeave e h i (52 + 7 * l + k) ≠ h
          rw [hf (52 + 7 * l + k) (by omega)]
          exact hg l k (by omega) hk
  exact key (nL d) 0 d (by omega) hD (fun _ _ => rfl) (fun l k hl _ => absurd hl (by omega))
/-- what the assigning anew of all that a handler holds keeps -/
theorem sReAll_keep (hD : DJ ops d) (h : Int32) : DJ ops (sReAll d h) ∧ (∀ j, j < 108 ∨ ((j - 104) % 8 ≠ 4 ∧ (j - 104) % 8 ≠ 7) → sReAll d h j = d j) := by
  have key : ∀ (c i : Nat) (e : XD), i + c = nR d → DJ ops e → (∀ j, j < 108 ∨ ((j - 104) % 8 ≠ 4 ∧ (j - 104) % 8 ≠ 7) → e j = d j) →
      DJ ops (fo (fun r e => if sHolds e h r then sAssign e r else e) i c e) ∧ (∀ j, j < 108 ∨ ((j - 104) % 8 ≠ 4 ∧ (j - 104) % 8 ≠ 7) → fo (fun r e => if sHolds e h r then sAssign e r else e) i c e j = d j) := by
    intro c
    induction c with
    | zero => intro i e hi hE hj; exact ⟨hE, hj⟩
    | succ c ih =>
      intro i e hi hE hj
      have eR : nR e = nR d := nR_same (hj 3 (by omega))
      unfold fo
      refine ih (i + 1) _ (by omega) ?_ ?_
      · split
        · rename_i q
          unfold sHolds sOpen at q
          simp only [Bool.and_eq_true, decide_eq_true_eq] at q
          exact (hE.assign (by omega) q.1).1
        · exact hE
      · intro j q
        split
        · rw [(sAssign_at i).2.2 j (by omega) (by omega)]; exact hj j q
        · exact hj j q
  exact key (nR d) 0 d (by omega) hD (fun _ _ => rfl)
/-- the row behind a payment, before anybody is bankrupt -/
def sPaid (d : XD) (h : Nat) (amount : Int32) (acc to : Nat) : XD := upd (upd (upd d (12 + 6 * h) (d (12 + 6 * h) - mn amount (d (12 + 6 * h)))) (12 + 6 * h + acc) (d (12 + 6 * h + acc) + mn amount (d (12 + 6 * h)))) to (d to + mn amount (d (12 + 6 * h)))
theorem sMustPay_eq (h : Nat) (amount : Int32) (acc to : Nat) : sMustPay d h amount acc to = if mn amount (d (12 + 6 * h)) = amount then sPaid d h amount acc to else sReAll (sLeaveAll (upd (sPaid d h amount acc to) (14 + 6 * h) (nI 1)) (nI h)) (nI h) := rfl
/-- where a payment may go: the bank or a device -/
def toP (to : Nat) : Prop := to = 4 ∨ (48 ≤ to ∧ to < 104 ∧ (to - 48) % 7 = 2)
theorem sPaid_far {h acc to j : Nat} {amount : Int32} (ha : acc = 3 ∨ acc = 4) (h1 : j ≠ 12 + 6 * h) (h2 : j ≠ 12 + 6 * h + acc) (h3 : j ≠ to) : sPaid d h amount acc to j = d j := by
  unfold sPaid
  rw [upd_n h3, upd_n h2, upd_n h1]
theorem sPaid_FX {h acc to : Nat} {amount : Int32} (ha : acc = 3 ∨ acc = 4) (ht : toP to) (h6 : h < 6) {j : Nat} (hj : ¬ FX j) : sPaid d h amount acc to j = d j := by
  unfold FX at hj
  unfold toP at ht
  refine sPaid_far ha ?_ ?_ ?_ <;> omega
theorem DJ.paid (hD : DJ ops d) {h acc to : Nat} {amount : Int32} (ha : acc = 3 ∨ acc = 4) (ht : toP to) (hh : h < nH d) : DJ ops (sPaid d h amount acc to) := by
  have h6 := hD.H6
  exact DJ_F hD (fun j hj => sPaid_FX ha ht (by omega) hj)
theorem DJ.broke (hD : DJ ops d) {h : Nat} (hh : h < nH d) : DJ ops (upd d (14 + 6 * h) (nI 1)) := DJ_H hD hh (fun j _ q => upd_n q) (Or.inr (upd_s _ _ _))
theorem DJ.mustPay (hD : DJ ops d) {h acc to : Nat} {amount : Int32} (ha : acc = 3 ∨ acc = 4) (ht : toP to) (hh : h < nH d) : DJ ops (sMustPay d h amount acc to) ∧ (∀ j, (j < 12 ∧ j ≠ to) ∨ (104 ≤ j ∧ (j - 104) % 8 ≠ 4 ∧ (j - 104) % 8 ≠ 7) ∨ (48 ≤ j ∧ j < 104 ∧ (j - 48) % 7 < 3 ∧ j ≠ to) ∨ (12 ≤ j ∧ j < 48 ∧ (j - 12) % 6 = 1) → sMustPay d h amount acc to j = d j) := by
  have h6 := hD.H6
  have hP := hD.paid (amount := amount) ha ht hh
  have eH : nH (sPaid d h amount acc to) = nH d := nH_same (sPaid_FX ha ht (by omega) (FXc (by omega)))
  rw [sMustPay_eq]
  have ht' := ht
  unfold toP at ht'
  split
  · exact ⟨hP, fun j hj => sPaid_far ha (by omega) (by omega) (by omega)⟩
  · have hB := hP.broke (h := h) (by rw [eH]; exact hh)
    obtain ⟨k1, -, k3⟩ := sLeaveAll_keep hB (nI h)
    obtain ⟨m1, m2⟩ := sReAll_keep k1 (nI h)
    refine ⟨m1, fun j hj => ?_⟩
    rw [m2 j (by omega), k3 j (by omega), upd_n (by omega), sPaid_far ha (by omega) (by omega) (by omega)]
end KS

