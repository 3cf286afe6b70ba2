/-! A BANKRUPT HANDLER HOLDS NOTHING AND IS NO TENANT; A TENANT STAYS ONE WHILE OTHERS LEAVE -/
def BT (d : XD) : Prop := ∀ l, l < nL d → ∀ k, k < nT d l → ∀ h, h < nH d → d (52 + 7 * l + k) = nI h → d (14 + 6 * h) = nI 0
def BH (d : XD) : Prop := ∀ r, r < nR d → d (107 + 8 * r) = nI 1 → ∀ h, h < nH d → d (108 + 8 * r) = nI h → d (14 + 6 * h) = nI 0
def BX (d : XD) (w : Nat) (i : Nat) : Prop := ∀ r, r < nR d → d (107 + 8 * r) = nI 1 → ∀ h, h < nH d → d (108 + 8 * r) = nI h → d (14 + 6 * h) = nI 0 ∨ (h = w ∧ i ≤ r)
def BK (d : XD) : Prop := BT d ∧ BH d
def TN (d : XD) (l : Nat) (x : Int32) : Prop := ∃ j, j < nT d l ∧ d (52 + 7 * l + j) = x
section BKS
variable {ops : List Int32} {d d' e : XD} {l l' r h w i : Nat} {x y : Int32}
theorem TN_some (hd : TN d l x) : (sTP d l x).isSome = true := by
  obtain ⟨j, h1, h2⟩ := hd
  cases hs : sTP d l x with
  | some k => rfl
  | none => exact absurd h2 (sTPF_none hs j (Nat.zero_le _) (by omega))
theorem BT.same (h : BT d) (e1 : d' 1 = d 1) (e2 : d' 2 = d 2) (hf : ∀ i, i < nH d → d' (14 + 6 * i) = d (14 + 6 * i) ∨ d' (14 + 6 * i) = nI 0) (ht : ∀ l k, l < nL d → k < nT d' l → ∃ k', k' < nT d l ∧ d' (52 + 7 * l + k) = d (52 + 7 * l + k')) : BT d' := by
  intro l hl k hk x hx ex
  rw [nL_same e2] at hl
  rw [nH_same e1] at hx
  obtain ⟨k', a1, a2⟩ := ht l k hl hk
  rcases hf x hx with q | q
  · rw [q]; exact h l hl k' a1 x hx (a2.symm.trans ex)
  · exact q
theorem BH.same (h : BH d) (e1 : d' 1 = d 1) (e3 : d' 3 = d 3) (hf : ∀ i, i < nH d → d' (14 + 6 * i) = d (14 + 6 * i) ∨ d' (14 + 6 * i) = nI 0) (hr : ∀ r, r < nR d → (d' (107 + 8 * r) = d (107 + 8 * r) ∧ d' (108 + 8 * r) = d (108 + 8 * r)) ∨ d' (107 + 8 * r) ≠ nI 1 ∨ d' (108 + 8 * r) = -nI 1) (h6 : nH d ≤ 6) : BH d' := by
  intro r hr' ho x hx ex
  rw [nR_same e3] at hr'
  rw [nH_same e1] at hx
  rcases hr r hr' with ⟨a1, a2⟩ | a | a
  · rcases hf x hx with q | q
    · rw [q]; exact h r hr' (a1.symm.trans ho) x hx (a2.symm.trans ex)
    · exact q
  · exact absurd ho a
  · rw [ex] at a
    exact absurd a (nI_neg1 (by omega))
theorem BK.same (h : BK d) (h6 : nH d ≤ 6) (e1 : d' 1 = d 1) (e2 : d' 2 = d 2) (e3 : d' 3 = d 3) (hf : ∀ i, i < nH d → d' (14 + 6 * i) = d (14 + 6 * i) ∨ d' (14 + 6 * i) = nI 0) (h3 : ∀ l, l < nL d → nT d l ≤ 3) (ht : ∀ l k, l < nL d → k < 4 → d' (51 + 7 * l + k) = d (51 + 7 * l + k)) (hr : ∀ r, r < nR d → (d' (107 + 8 * r) = d (107 + 8 * r) ∧ d' (108 + 8 * r) = d (108 + 8 * r)) ∨ d' (107 + 8 * r) ≠ nI 1 ∨ d' (108 + 8 * r) = -nI 1) : BK d' := by
  refine ⟨h.1.same e1 e2 hf (fun l k hl hk => ?_), h.2.same e1 e3 hf hr h6⟩
  have en : nT d' l = nT d l := nT_same (ht l 0 hl (by omega))
  rw [en] at hk
  have := h3 l hl
  refine ⟨k, hk, ?_⟩
  have := ht l (k + 1) hl (by omega)
  rw [show 51 + 7 * l + (k + 1) = 52 + 7 * l + k by omega] at this
  exact this
theorem DJ.t3 (hD : DJ ops d) : ∀ l, l < nL d → nT d l ≤ 3 := fun l hl => (hD.ln l hl).2.1
/-- an assignment to a tenant -/
theorem BK.assign (h : BK d) (hD : DJ ops d) (hr : r < nR d) (ho : d (107 + 8 * r) = nI 1) : BK (sAssign d r) := by
  have h60 := hD.R60
  have h8 := hD.L8
  have h6 := hD.H6
  obtain ⟨-, -, s3⟩ := sAssign_at (d := d) r
  obtain ⟨-, s4⟩ := hD.assign hr ho
  have ff : ∀ j, j < 108 → sAssign d r j = d j := fun j hj => s3 j (by omega) (by omega)
  obtain ⟨hl, -⟩ := hD.line hr
  refine ⟨h.1.same (ff 1 (by omega)) (ff 2 (by omega)) (fun i hi => Or.inl (ff _ (by omega))) (fun l k hl hk => ?_), fun r' hr' ho' x hx ex => ?_⟩
  · rw [nT_same (ff _ (by omega))] at hk
    have := hD.t3 l hl
    exact ⟨k, hk, ff _ (by omega)⟩
  · rw [nR_same (ff 3 (by omega))] at hr'
    rw [nH_same (ff 1 (by omega))] at hx
    rw [ff (14 + 6 * x) (by omega)]
    by_cases q : r' = r
    · subst q
      rcases s4 with s4 | ⟨k, a1, a2⟩
      · rw [ex] at s4
        exact absurd s4 (nI_neg1 (by omega))
      · exact h.1 _ hl k a1 x hx (a2.symm.trans ex)
    · rw [s3 _ (by omega) (by omega)] at ho' ex
      exact h.2 r' hr' ho' x hx ex
theorem BX.step (hT : BT d) (h : BX d w i) (hD : DJ ops d) (hi : i < nR d) : BT (if sHolds d (nI w) i then sAssign d i else d) ∧ BX (if sHolds d (nI w) i then sAssign d i else d) w (i + 1) ∧ DJ ops (if sHolds d (nI w) i then sAssign d i else d) ∧ nR (if sHolds d (nI w) i then sAssign d i else d) = nR d := by
  have h60 := hD.R60
  have h8 := hD.L8
  have h6 := hD.H6
  by_cases p : sHolds d (nI w) i = true
  · rw [if_pos p]
    obtain ⟨ho, -⟩ := sHolds_of p
    obtain ⟨-, -, s3⟩ := sAssign_at (d := d) i
    obtain ⟨s5, s4⟩ := hD.assign hi ho
    have ff : ∀ j, j < 108 → sAssign d i j = d j := fun j hj => s3 j (by omega) (by omega)
    obtain ⟨hl, -⟩ := hD.line hi
    refine ⟨hT.same (ff 1 (by omega)) (ff 2 (by omega)) (fun i hi => Or.inl (ff _ (by omega))) (fun l k hl hk => ?_), fun r' hr' ho' x hx ex => ?_, s5, nR_same (ff 3 (by omega))⟩
    · rw [nT_same (ff _ (by omega))] at hk
      have := hD.t3 l hl
      exact ⟨k, hk, ff _ (by omega)⟩
    · rw [nR_same (ff 3 (by omega))] at hr'
      rw [nH_same (ff 1 (by omega))] at hx
      rw [ff (14 + 6 * x) (by omega)]
      by_cases q : r' = i
      · subst q
        rcases s4 with s4 | ⟨k, a1, a2⟩
        · rw [ex] at s4
          exact absurd s4 (nI_neg1 (by omega))
        · exact Or.inl (hT _ hl k a1 x hx (a2.symm.trans ex))
      · rw [s3 _ (by omega) (by omega)] at ho' ex
        rcases h r' hr' ho' x hx ex with a | ⟨a, b⟩
        · exact Or.inl a
        · exact Or.inr ⟨a, by omega⟩
  · rw [if_neg p]
    refine ⟨hT, fun r' hr' ho' x hx ex => ?_, hD, rfl⟩
    rcases h r' hr' ho' x hx ex with a | ⟨a, b⟩
    · exact Or.inl a
    · by_cases q : r' = i
      · exfalso
        refine p ?_
        subst q
        unfold sHolds sOpen
        rw [decide_eq_true ho', decide_eq_true (ex.trans (by rw [a]))]
        rfl
      · exact Or.inr ⟨a, by omega⟩
theorem BX.all (w : Nat) : ∀ (z i : Nat) (d : XD), BT d → BX d w i → DJ ops d → i + z = nR d → BK (fo (fun r e => if sHolds e (nI w) r then sAssign e r else e) i z d) := by
  intro z
  induction z with
  | zero =>
    intro i d hT h _ hi
    refine ⟨hT, fun r hr ho x hx ex => ?_⟩
    rcases h r hr ho x hx ex with a | ⟨-, b⟩
    · exact a
    · change r < nR d at hr
      omega
  | succ z ih =>
    intro i d hT h hD hi
    obtain ⟨a1, a2, a3, a4⟩ := h.step hT hD (by omega)
    rw [fo]
    exact ih (i + 1) _ a1 a2 a3 (by omega)
theorem leave_sub {H : Nat} (hn : ∀ l, l < nL d → LN H d l) (hl : l < nL d) (hl' : l' < nL d) (h8 : nL d ≤ 8) {k : Nat} (hk : k < nT (sLeave d x l') l) : ∃ k', k' < nT d l ∧ sLeave d x l' (52 + 7 * l + k) = d (52 + 7 * l + k') := by
  have h3 := (hn l hl).2.1
  by_cases q : l' = l
  · subst q
    rcases sLeave_or (hn l' hl) x with ⟨-, -, e⟩ | ⟨j, -, b2, -, b4⟩
    · rw [e] at hk ⊢; exact ⟨k, hk, rfl⟩
    · have en : nT (sLeave d x l') l' = nT d l' - 1 := by
        unfold nT
        rw [b4, if_pos rfl]
        exact nI_clamp (by omega)
      rw [en] at hk
      rw [b4, if_neg (by omega)]
      by_cases p : j ≤ k
      · rw [if_pos (by omega)]; exact ⟨k + 1, by omega, rfl⟩
      · rw [if_neg (by omega)]; exact ⟨k, by omega, rfl⟩
  · have en : nT (sLeave d x l') l = nT d l := nT_same (sLeave_far (hn l' hl') x (by omega))
    rw [en] at hk
    exact ⟨k, hk, sLeave_far (hn l' hl') x (by omega)⟩
theorem TN.leave {H : Nat} (hn : ∀ l, l < nL d → LN H d l) (hl : l < nL d) (hl' : l' < nL d) (ht : TN d l y) (hy : y ≠ x) : TN (sLeave d x l') l y := by
  have h3 := (hn l hl).2.1
  obtain ⟨j, j1, j2⟩ := ht
  by_cases q : l' = l
  · subst q
    rcases sLeave_or (hn l' hl) x with ⟨-, -, e⟩ | ⟨k, -, b2, b3, b4⟩
    · rw [e]; exact ⟨j, j1, j2⟩
    · have en : nT (sLeave d x l') l' = nT d l' - 1 := by
        unfold nT
        rw [b4, if_pos rfl]
        exact nI_clamp (by omega)
      have hne : j ≠ k := fun e => hy (by rw [← j2, e, b3])
      by_cases p : j < k
      · refine ⟨j, by omega, ?_⟩
        rw [b4, if_neg (by omega), if_neg (by omega)]; exact j2
      · refine ⟨j - 1, by omega, ?_⟩
        rw [b4, if_neg (by omega), if_pos (by omega), show 52 + 7 * l' + (j - 1) + 1 = 52 + 7 * l' + j by omega]; exact j2
  · have en : nT (sLeave d x l') l = nT d l := nT_same (sLeave_far (hn l' hl') x (by omega))
    exact ⟨j, by omega, (sLeave_far (hn l' hl') x (by omega)).trans j2⟩
theorem leaveAll_sub (hD : DJ ops d) : (∀ l k, l < nL d → k < nT (sLeaveAll d x) l → ∃ k', k' < nT d l ∧ sLeaveAll d x (52 + 7 * l + k) = d (52 + 7 * l + k')) ∧ ∀ l y, l < nL d → y ≠ x → TN d l y → TN (sLeaveAll d x) l y := by
  have h8 := hD.L8
  have key := fo_inv (fun l e => sLeave e x l) (fun e => DJ ops e ∧ nL e = nL d ∧ (∀ l k, l < nL d → k < nT e l → ∃ k', k' < nT d l ∧ e (52 + 7 * l + k) = d (52 + 7 * l + k')) ∧ ∀ l y, l < nL d → y ≠ x → TN d l y → TN e l y) (n := nL d) (fun i s hi hs => by
    obtain ⟨a1, a2, a3, a4⟩ := hs
    have hi' : i < nL s := by rw [a2]; exact hi
    refine ⟨a1.leave hi' x, (nL_same (sLeave_far (a1.ln i hi') x (by omega))).trans a2, fun l k hl hk => ?_, fun l y hl hy ht => ?_⟩
    · obtain ⟨k1, b1, b2⟩ := leave_sub a1.ln (by rw [a2]; exact hl) hi' a1.L8 hk
      obtain ⟨k2, c1, c2⟩ := a3 l k1 hl b1
      exact ⟨k2, c1, b2.trans c2⟩
    · exact TN.leave a1.ln (by rw [a2]; exact hl) hi' (a4 l y hl hy ht) hy) (nL d) 0 d (by omega) ⟨hD, rfl, fun l k hl hk => ⟨k, hk, rfl⟩, fun _ _ _ _ h => h⟩
  exact ⟨key.2.2.1, key.2.2.2⟩
/-- a bankruptcy -/
theorem BK.bankrupt (hb : BK d) (hD : DJ ops d) (hw : w < nH d) : BK (sBankrupt d w) ∧ ∀ l y, l < nL d → y ≠ nI w → TN d l y → TN (sBankrupt d w) l y := by
  have h60 := hD.R60
  have h8 := hD.L8
  have h6 := hD.H6
  have hD1 := hD.broke hw
  have u1 : upd d (14 + 6 * w) (nI 1) 1 = d 1 := upd_n (by omega)
  have u2 : upd d (14 + 6 * w) (nI 1) 2 = d 2 := upd_n (by omega)
  have u3 : upd d (14 + 6 * w) (nI 1) 3 = d 3 := upd_n (by omega)
  have uT : ∀ l, l < nL d → nT (upd d (14 + 6 * w) (nI 1)) l = nT d l := fun l hl => nT_same (upd_n (by omega))
  obtain ⟨k1, k2, k3⟩ := sLeaveAll_keep hD1 (nI w)
  obtain ⟨s1, s2⟩ := leaveAll_sub hD1 (x := nI w)
  have e1 : nH (sLeaveAll (upd d (14 + 6 * w) (nI 1)) (nI w)) = nH d := (nH_same (k3 1 (by omega))).trans (nH_same u1)
  have e2 : nL (sLeaveAll (upd d (14 + 6 * w) (nI 1)) (nI w)) = nL d := (nL_same (k3 2 (by omega))).trans (nL_same u2)
  have e3 : nR (sLeaveAll (upd d (14 + 6 * w) (nI 1)) (nI w)) = nR d := (nR_same (k3 3 (by omega))).trans (nR_same u3)
  have bt : BT (sLeaveAll (upd d (14 + 6 * w) (nI 1)) (nI w)) := by
    intro l hl k hk x hx ex
    rw [e2] at hl
    rw [e1] at hx
    have n1 := k2 l k (by rw [nL_same u2]; exact hl) hk
    obtain ⟨k', a1, a2⟩ := s1 l k (by rw [nL_same u2]; exact hl) hk
    rw [uT l hl] at a1
    have h3 := hD.t3 l hl
    rw [upd_n (by omega)] at a2
    have hxw : x ≠ w := fun q => n1 (by rw [ex, q])
    rw [k3 _ (by omega), upd_n (by omega)]
    exact hb.1 l hl k' a1 x hx (a2.symm.trans ex)
  have bx : BX (sLeaveAll (upd d (14 + 6 * w) (nI 1)) (nI w)) w 0 := by
    intro r hr ho x hx ex
    rw [e3] at hr
    rw [e1] at hx
    rw [k3 _ (by omega), upd_n (by omega)] at ho ex
    by_cases q : x = w
    · exact Or.inr ⟨q, Nat.zero_le _⟩
    · rw [k3 _ (by omega), upd_n (by omega)]
      exact Or.inl (hb.2 r hr ho x hx ex)
  refine ⟨BX.all w _ 0 _ bt bx k1 (Nat.zero_add _), fun l y hl hy ht => ?_⟩
  obtain ⟨-, m2⟩ := sReAll_keep k1 (nI w)
  obtain ⟨j, j1, j2⟩ := s2 l y (by rw [nL_same u2]; exact hl) hy (by
    obtain ⟨j, j1, j2⟩ := ht
    have h3 := hD.t3 l hl
    exact ⟨j, by rw [uT l hl]; exact j1, by rw [upd_n (by omega)]; exact j2⟩)
  have h3 := k1.t3 l (by rw [e2]; exact hl)
  unfold sBankrupt
  exact ⟨j, by rw [nT_same (m2 _ (by omega))]; exact j1, by rw [m2 _ (by omega)]; exact j2⟩
theorem BK.take (hb : BK d) (hD : DJ ops d) (hw : w < nH d) {amt : Int32} : BK (sTake d w amt) ∧ ∀ l y, l < nL d → y ≠ nI w → TN d l y → TN (sTake d w amt) l y := by
  have h60 := hD.R60
  have h8 := hD.L8
  have h6 := hD.H6
  have hD1 : DJ ops (upd d (12 + 6 * w) (d (12 + 6 * w) - mn amt (d (12 + 6 * w)))) := DJ_F hD (fun j hj => by unfold FX at hj; exact upd_n (by omega))
  have b1 : BK (upd d (12 + 6 * w) (d (12 + 6 * w) - mn amt (d (12 + 6 * w)))) := hb.same h6 (upd_n (by omega)) (upd_n (by omega)) (upd_n (by omega)) (fun i hi => Or.inl (upd_n (by omega))) hD.t3 (fun l k hl hk => upd_n (by omega)) (fun r hr => Or.inl ⟨upd_n (by omega), upd_n (by omega)⟩)
  have t1 : ∀ l y, l < nL d → TN d l y → TN (upd d (12 + 6 * w) (d (12 + 6 * w) - mn amt (d (12 + 6 * w)))) l y := fun l y hl ⟨j, j1, j2⟩ => ⟨j, by rw [nT_same (upd_n (by omega))]; exact j1, by rw [upd_n (by omega)]; exact j2⟩
  unfold sTake
  split
  · exact ⟨b1, fun l y hl _ ht => t1 l y hl ht⟩
  · obtain ⟨c1, c2⟩ := b1.bankrupt hD1 (w := w) (by rw [nH_same (upd_n (by omega))]; exact hw)
    exact ⟨c1, fun l y hl hy ht => c2 l y (by rw [nL_same (upd_n (by omega))]; exact hl) hy (t1 l y hl ht)⟩
theorem BK.mustPay (hb : BK d) (hD : DJ ops d) {acc to : Nat} {amt : Int32} (ha : acc = 3 ∨ acc = 4) (ht : toP to) (hw : w < nH d) : BK (sMustPay d w amt acc to) ∧ ∀ l y, l < nL d → y ≠ nI w → TN d l y → TN (sMustPay d w amt acc to) l y := by
  have h60 := hD.R60
  have h8 := hD.L8
  have h6 := hD.H6
  obtain ⟨c1, c2⟩ := hb.take hD hw (amt := amt)
  have hD2 := hD.take hw (amt := amt)
  obtain ⟨z1, z2, z3, -⟩ := sTake_kept hD hw (amt := amt)
  have g60 := hD2.R60
  have g8 := hD2.L8
  have g6 := hD2.H6
  rw [sMustPay_take hD ha ht hw]
  have ht' := ht
  unfold toP at ht'
  have bk1 : BK (upd (sTake d w amt) (12 + 6 * w + acc) (d (12 + 6 * w + acc) + mn amt (d (12 + 6 * w)))) := c1.same hD2.H6 (upd_n (by omega)) (upd_n (by omega)) (upd_n (by omega)) (fun i hi => Or.inl (upd_n (by omega))) hD2.t3 (fun l k hl hk => upd_n (by omega)) (fun r hr => Or.inl ⟨upd_n (by omega), upd_n (by omega)⟩)
  have eH : nH (upd (sTake d w amt) (12 + 6 * w + acc) (d (12 + 6 * w + acc) + mn amt (d (12 + 6 * w)))) = nH d := (nH_same (upd_n (by omega))).trans z1
  have eL : nL (upd (sTake d w amt) (12 + 6 * w + acc) (d (12 + 6 * w + acc) + mn amt (d (12 + 6 * w)))) = nL d := (nL_same (upd_n (by omega))).trans z2
  have eR : nR (upd (sTake d w amt) (12 + 6 * w + acc) (d (12 + 6 * w + acc) + mn amt (d (12 + 6 * w)))) = nR d := (nR_same (upd_n (by omega))).trans z3
  refine ⟨bk1.same (by rw [eH]; exact h6) (upd_n (by omega)) (upd_n (by omega)) (upd_n (by omega)) (fun i hi => Or.inl (upd_n (by omega))) (fun l hl => ?_) (fun l k hl hk => upd_n (by omega)) (fun r hr => Or.inl ⟨upd_n (by omega), upd_n (by omega)⟩), fun l y hl hy htn => ?_⟩
  · rw [eL] at hl
    rw [nT_same (upd_n (by omega))]
    exact hD2.t3 l (by rw [z2]; exact hl)
  · obtain ⟨j, j1, j2⟩ := c2 l y hl hy htn
    have h3 := hD2.t3 l (by rw [z2]; exact hl)
    exact ⟨j, by rw [nT_same (upd_n (by omega)), nT_same (upd_n (by omega))]; exact j1, by rw [upd_n (by omega), upd_n (by omega)]; exact j2⟩
theorem BK.raiseNow (hb : BK d) (hD : DJ ops d) (hr : r < nR d) (ho : d (107 + 8 * r) = nI 0) : BK (sRaiseNow d r) := by
  have h60 := hD.R60
  have h8 := hD.L8
  have h6 := hD.H6
  obtain ⟨hl, -⟩ := hD.line hr
  unfold sRaiseNow
  split
  · have b1 : BK (sOpened d r) := hb.same h6 (by unfold sOpened; rw [upd_n (by omega), upd_n (by omega)]) (by unfold sOpened; rw [upd_n (by omega), upd_n (by omega)]) (by unfold sOpened; rw [upd_n (by omega), upd_n (by omega)]) (fun i hi => Or.inl (by unfold sOpened; rw [upd_n (by omega), upd_n (by omega)])) hD.t3 (fun l k hl hk => by unfold sOpened; rw [upd_n (by omega), upd_n (by omega)]) (fun r' hr' => by
      by_cases q : r' = r
      · subst q
        refine Or.inr (Or.inr ?_)
        unfold sOpened
        rw [upd_n (by omega), upd_n (by omega)]
        exact (hD.comes hr ho).1
      · refine Or.inl ⟨?_, ?_⟩ <;> (unfold sOpened; rw [upd_n (by omega), upd_n (by omega)]))
    have hD1 := hD.opened hr ho
    exact b1.assign hD1 (r := r) (by unfold sOpened; rw [nR_same ((upd_n (by omega)).trans (upd_n (by omega)))]; exact hr) (by unfold sOpened; rw [upd_n (by omega), upd_s])
  · refine hb.same h6 ?_ ?_ ?_ (fun i hi => Or.inl ?_) hD.t3 (fun l k hl hk => ?_) (fun r' hr' => ?_)
    · rw [upd_n (by omega), upd_n (by omega), upd_n (by omega), upd_n (by omega)]
    · rw [upd_n (by omega), upd_n (by omega), upd_n (by omega), upd_n (by omega)]
    · rw [upd_n (by omega), upd_n (by omega), upd_n (by omega), upd_n (by omega)]
    · rw [upd_n (by omega), upd_n (by omega), upd_n (by omega), upd_n (by omega)]
    · rw [upd_n (by omega), upd_n (by omega), upd_n (by omega), upd_n (by omega)]
    · by_cases q : r' = r
      · subst q
        refine Or.inr (Or.inl ?_)
        rw [upd_n (by omega), upd_s]; decide
      · refine Or.inl ⟨?_, ?_⟩ <;> rw [upd_n (by omega), upd_n (by omega), upd_n (by omega), upd_n (by omega)]
theorem BK.workF {s : Int32 × XD} (hb : BK s.2) (hD : DJ ops s.2) (hr : r < nR s.2) (hh : h < nH s.2) : BK (sWorkF h r s).2 := by
  have h60 := hD.R60
  have h8 := hD.L8
  have h6 := hD.H6
  obtain ⟨hl, -⟩ := hD.line hr
  rw [sWorkF_eq]
  by_cases q1 : s.1 ≤ nI 0
  · rw [if_pos q1]; exact hb
  · rw [if_neg q1]
    by_cases q2 : sHolds s.2 (nI h) r = true
    · rw [if_pos q2]
      have b1 : BK (sDone s.2 s.1 r) := hb.same h6 (by unfold sDone; rw [upd_n (by omega), upd_n (by omega)]) (by unfold sDone; rw [upd_n (by omega), upd_n (by omega)]) (by unfold sDone; rw [upd_n (by omega), upd_n (by omega)]) (fun i hi => Or.inl (by unfold sDone; rw [upd_n (by omega), upd_n (by omega)])) hD.t3 (fun l k hl hk => by unfold sDone; rw [upd_n (by omega), upd_n (by omega)]) (fun r' hr' => Or.inl ⟨by unfold sDone; rw [upd_n (by omega), upd_n (by omega)], by unfold sDone; rw [upd_n (by omega), upd_n (by omega)]⟩)
      have g1 := hD.done q1 hr
      have g2 := sDone_kept (d := s.2) (u := s.1) (r := r) (by omega)
      split
      · have hr1 : r < nR (sDone s.2 s.1 r) := by rw [g2.R]; exact hr
        have hh1 : h < nH (sDone s.2 s.1 r) := by rw [g2.H]; exact hh
        obtain ⟨hl1, -⟩ := g1.line hr1
        have i60 := g1.R60
        have i8 := g1.L8
        have i6 := g1.H6
        have ff : ∀ j, j ≠ 107 + 8 * r → j ≠ 110 + 8 * r → j ≠ 108 + 8 * r → (j < 12 → j ≠ 4) → j ≠ 50 + 7 * lR (sDone s.2 s.1 r) r → j ≠ 12 + 6 * h → j ≠ 17 + 6 * h → sAnswer (sDone s.2 s.1 r) r h j = sDone s.2 s.1 r j := fun j a1 a2 a3 _ a5 a6 a7 => by
          unfold sAnswer
          rw [upd_n a7, upd_n a6, upd_n a5, upd_n a3, upd_n a2, upd_n a1]
        refine b1.same i6 (ff 1 (by omega) (by omega) (by omega) (by omega) (by omega) (by omega) (by omega)) (ff 2 (by omega) (by omega) (by omega) (by omega) (by omega) (by omega) (by omega)) (ff 3 (by omega) (by omega) (by omega) (by omega) (by omega) (by omega) (by omega)) (fun i hi => Or.inl (ff _ (by omega) (by omega) (by omega) (by omega) (by omega) (by omega) (by omega))) g1.t3 (fun l k hl hk => ff _ (by omega) (by omega) (by omega) (by omega) (by omega) (by omega) (by omega)) (fun r' hr' => ?_)
        by_cases q : r' = r
        · subst q
          refine Or.inr (Or.inl ?_)
          show sAnswer (sDone s.2 s.1 r') r' h (107 + 8 * r') ≠ nI 1
          unfold sAnswer
          rw [upd_n (by omega), upd_n (by omega), upd_n (by omega), upd_n (by omega), upd_n (by omega), upd_s]; decide
        · exact Or.inl ⟨ff _ (by omega) (by omega) (by omega) (by omega) (by omega) (by omega) (by omega), ff _ (by omega) (by omega) (by omega) (by omega) (by omega) (by omega) (by omega)⟩
      · exact b1
    · rw [if_neg q2]; exact hb
theorem BK.prog (hb : BK d) (hD : DJ ops d) (hr : r < nR d) : BK (sProg d r) := by
  have h60 := hD.R60
  have h8 := hD.L8
  have h6 := hD.H6
  unfold sProg
  exact hb.same h6 (upd_n (by omega)) (upd_n (by omega)) (upd_n (by omega)) (fun i hi => Or.inl (upd_n (by omega))) hD.t3 (fun l k hl hk => upd_n (by omega)) (fun r' hr' => Or.inl ⟨upd_n (by omega), upd_n (by omega)⟩)
theorem BK.fine (hb : BK d) (hD : DJ ops d) (hr : r < nR d) (ho : d (107 + 8 * r) = nI 1) (hh : d (108 + 8 * r) ≠ -nI 1) : BK (sFine ops d r) := by
  have h60 := hD.R60
  have h8 := hD.L8
  obtain ⟨hl, -⟩ := hD.line hr
  obtain ⟨k1, k2⟩ := holder_of hD hr ho hh
  have tp : toP (50 + 7 * lR d r) := by unfold toP; omega
  unfold sFine
  split
  · have m1 := (hD.mustPay (amount := sFineV ops d r) (Or.inl rfl) tp k1).1
    have m2 := mustPay_kept hD (amount := sFineV ops d r) (Or.inl rfl) tp k1
    exact (hb.mustPay hD (Or.inl rfl) tp k1).1.prog m1 (by rw [m2.R]; exact hr)
  · exact hb
/-- a bankrupt handler's work is none -/
theorem BK.none (hb : BK d) (hD : DJ ops d) (hh : h < nH d) (hf : d (14 + 6 * h) ≠ nI 0) : sWork d h = d := by
  unfold sWork
  rw [work_none h (nR d) 0 (d (13 + 6 * h), d) (Nat.zero_add _) (fun r hr => by
    unfold sHolds sOpen
    by_cases p : d (107 + 8 * r) = nI 1
    · by_cases p2 : d (108 + 8 * r) = nI h
      · exact absurd (hb.2 r hr p h hh p2) hf
      · show (_ && decide (d (108 + 8 * r) = nI h)) = false
        rw [decide_eq_false p2, Bool.and_false]
    · show (decide (d (107 + 8 * r) = nI 1) && _) = false
      rw [decide_eq_false p, Bool.false_and])]
theorem BK.work (hb : BK d) (hD : DJ ops d) (hh : h < nH d) : BK (sWork d h) := by
  have key : ∀ (c i : Nat) (s : Int32 × XD), DJ ops s.2 → BK s.2 → i + c = nR s.2 → h < nH s.2 → BK (fo (sWorkF h) i c s).2 := by
    intro c
    induction c with
    | zero => intro i s _ hB _ _; exact hB
    | succ c ih =>
      intro i s hD hB hi hh
      obtain ⟨a1, a2⟩ := hD.workF (r := i) (h := h) (by omega) hh
      exact ih (i + 1) (sWorkF h i s) a1 (hB.workF hD (by omega) hh) (by rw [a2.R]; omega) (by rw [a2.H]; exact hh)
  exact key (nR d) 0 (d (13 + 6 * h), d) hD hb (Nat.zero_add _) hh
theorem BK.t1F (hb : BK d) (hD : DJ ops d) (hr : r < nR d) : BK (sT1F r d) := by
  unfold sT1F
  split
  · split
    · rename_i q _; exact hb.raiseNow hD hr q
    · exact hb
  · exact hb
theorem BK.t2F (hb : BK d) (hD : DJ ops d) (hh : h < nH d) : BK (sT2F h d) ∧ sT2F h d = sWork d h := by
  unfold sT2F
  by_cases q : d (14 + 6 * h) = nI 0
  · rw [if_pos q]; exact ⟨hb.work hD hh, rfl⟩
  · rw [if_neg q, hb.none hD hh q]; exact ⟨hb, rfl⟩
theorem BK.t3F (hb : BK d) (hD : DJ ops d) (hr : r < nR d) : BK (sT3F ops r d) := by
  unfold sT3F
  split
  · split
    · exact hb
    · rename_i q q2; exact hb.fine hD hr (of_decide_eq_true q) q2
  · exact hb
theorem BK.time (hb : BK d) (hD : DJ ops d) : BK (sT5 d) := by
  have h60 := hD.R60
  have h8 := hD.L8
  have h6 := hD.H6
  unfold sT5
  exact hb.same h6 (upd_n (by omega)) (upd_n (by omega)) (upd_n (by omega)) (fun i hi => Or.inl (upd_n (by omega))) hD.t3 (fun l k hl hk => upd_n (by omega)) (fun r' hr' => Or.inl ⟨upd_n (by omega), upd_n (by omega)⟩)
end BKS
