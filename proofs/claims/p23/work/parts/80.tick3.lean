/-! PRUNED: of whole -/
def sT1F (r : Nat) (e : XD) : XD := if e (107 + 8 * r) = nI 0 then (if e (105 + 8 * r) = e 0 then sRaiseNow e r else e) else e
def sT2F (h : Nat) (e : XD) : XD := if e (14 + 6 * h) = nI 0 then sWork e h else e
def sT3F (ops : List Int32) (r : Nat) (e : XD) : XD := if sOpen e r = true then (if e (108 + 8 * r) = -nI 1 then e else sFine ops e r) else e
def sT1 (d : XD) : XD := fo sT1F 0 (nR d) d
def sT2 (d : XD) : XD := fo sT2F 0 (nH d) d
def sT3 (ops : List Int32) (d : XD) : XD := fo (sT3F ops) 0 (nR d) d
def sT4 (d : XD) : XD := fo (fun l e => sRent e l) 0 (nL d) d
def sT5 (d : XD) : XD := upd d 0 (d 0 + nI 1)
def sTick (ops : List Int32) (d : XD) : XD := if (sT3 ops (sT2 (sT1 d)) 0 + nI 1) - (sT3 ops (sT2 (sT1 d)) 0 + nI 1) / sT3 ops (sT2 (sT1 d)) 8 * sT3 ops (sT2 (sT1 d)) 8 = nI 0 then sT5 (sT4 (sT3 ops (sT2 (sT1 d)))) else sT5 (sT3 ops (sT2 (sT1 d)))
section TK3
variable {Y : XY} {m : Nat} {N : XN} {d : XD} {ops : List Int32}
theorem raiseNow_kept (hD : DJ ops d) {r : Nat} (hr : r < nR d) : kept d (sRaiseNow d r) := by
  have h60 := hD.R60
  have h8 := hD.L8
  obtain ⟨hl, -⟩ := hD.line hr
  refine kept_of (fun j hj => ?_)
  unfold sRaiseNow
  split
  · rw [(sAssign_at r).2.2 j (by omega) (by omega), upd_n (by omega), upd_n (by omega)]
  · rw [upd_n (by omega), upd_n (by omega), upd_n (by omega), upd_n (by omega)]
theorem t1F_keep (hD : DJ ops d) {r : Nat} (hr : r < nR d) : DJ ops (sT1F r d) ∧ kept d (sT1F r d) := by
  unfold sT1F
  split
  · rename_i q
    split
    · exact ⟨hD.raiseNow hr q, raiseNow_kept hD hr⟩
    · exact ⟨hD, kept.rfl'⟩
  · exact ⟨hD, kept.rfl'⟩
theorem t2F_keep (hD : DJ ops d) {h : Nat} (hh : h < nH d) : DJ ops (sT2F h d) ∧ kept d (sT2F h d) := by
  unfold sT2F
  split
  · exact hD.work hh
  · exact ⟨hD, kept.rfl'⟩
theorem t3F_keep (hD : DJ ops d) {r : Nat} (hr : r < nR d) : DJ ops (sT3F ops r d) ∧ kept d (sT3F ops r d) := by
  unfold sT3F
  split
  · rename_i q
    split
    · exact ⟨hD, kept.rfl'⟩
    · rename_i q2
      exact hD.fine hr (of_decide_eq_true q) q2
  · exact ⟨hD, kept.rfl'⟩
/-- a loop over the row's rows that keeps what a step keeps -/
theorem loop_keep {F : Nat → XD → XD} {n : XD → Nat} (hn : ∀ d e, kept d e → n e = n d) (hF : ∀ d i, DJ ops d → i < n d → DJ ops (F i d) ∧ kept d (F i d)) : ∀ (c i : Nat) (e : XD), DJ ops e → i + c = n e → DJ ops (fo F i c e) ∧ kept e (fo F i c e) := by
  intro c
  induction c with
  | zero => intro i e hE _; exact ⟨hE, kept.rfl'⟩
  | succ c ih =>
    intro i e hE hi
    obtain ⟨a1, a2⟩ := hF e i hE (by omega)
    obtain ⟨b1, b2⟩ := ih (i + 1) _ a1 (by rw [hn _ _ a2]; omega)
    exact ⟨b1, a2.trans b2⟩
theorem t1_keep (hD : DJ ops d) : DJ ops (sT1 d) ∧ kept d (sT1 d) := loop_keep (n := nR) (fun _ _ h => h.R) (fun _ _ hE hi => t1F_keep hE hi) (nR d) 0 d hD (Nat.zero_add _)
theorem t2_keep (hD : DJ ops d) : DJ ops (sT2 d) ∧ kept d (sT2 d) := loop_keep (n := nH) (fun _ _ h => h.H) (fun _ _ hE hi => t2F_keep hE hi) (nH d) 0 d hD (Nat.zero_add _)
theorem t3_keep (hD : DJ ops d) : DJ ops (sT3 ops d) ∧ kept d (sT3 ops d) := loop_keep (n := nR) (fun _ _ h => h.R) (fun _ _ hE hi => t3F_keep hE hi) (nR d) 0 d hD (Nat.zero_add _)
theorem t4_keep (hD : DJ ops d) : DJ ops (sT4 d) ∧ kept d (sT4 d) := loop_keep (n := nL) (fun _ _ h => h.L) (fun _ _ hE hi => hE.rent hi) (nL d) 0 d hD (Nat.zero_add _)
/-- what a tick keeps, and that it lets the time go on -/
def ticked (d e : XD) : Prop := e 1 = d 1 ∧ e 2 = d 2 ∧ e 3 = d 3 ∧ e 0 = d 0 + nI 1 ∧ tM e = tM d + 1
theorem t5_keep (hD : DJ ops d) (hT : tM d < 2000000) : DJ ops (sT5 d) ∧ ticked d (sT5 d) := by
  have e0 : sT5 d 0 = nI (tM d + 1) := by
    show upd d 0 _ 0 = _
    rw [upd_s, hD.T, nI_add]
  have et : tM (sT5 d) = tM d + 1 := by
    show (sT5 d 0).toNatClampNeg = _
    rw [e0]; exact nI_clamp (by omega)
  exact ⟨DJ_T hD (fun j q => upd_n q) (by rw [et, e0]) (by omega), upd_n (by omega), upd_n (by omega), upd_n (by omega), upd_s _ _ _, et⟩
theorem DJ.tick (hD : DJ ops d) (hT : tM d < 2000000) : DJ ops (sTick ops d) ∧ ticked d (sTick ops d) := by
  obtain ⟨a1, a2⟩ := t1_keep hD
  obtain ⟨b1, b2⟩ := t2_keep a1
  obtain ⟨c1, c2⟩ := t3_keep b1
  have k := (a2.trans b2).trans c2
  unfold sTick
  split
  · obtain ⟨f1, f2⟩ := t4_keep c1
    have k2 := k.trans f2
    obtain ⟨g1, g2, g3, g4, g5, g6⟩ := t5_keep f1 (by rw [k2.T]; exact hT)
    exact ⟨g1, g2.trans k2.1, g3.trans k2.2.1, g4.trans k2.2.2.1, by rw [g5, k2.2.2.2.1], by rw [g6, k2.T]⟩
  · obtain ⟨g1, g2, g3, g4, g5, g6⟩ := t5_keep c1 (by rw [k.T]; exact hT)
    exact ⟨g1, g2.trans k.1, g3.trans k.2.1, g4.trans k.2.2.1, by rw [g5, k.2.2.2.1], by rw [g6, k.T]⟩
end TK3

