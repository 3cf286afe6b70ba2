/-! PRUNED: of whole -/
section TK2
variable {Y : XY} {m : Nat} {N : XN} {d : XD} {ops : List Int32}
def hR (d : XD) (r : Nat) : Nat := (d (108 + 8 * r)).toNatClampNeg
def sProg (e : XD) (r : Nat) : XD := upd e (111 + 8 * r) (e 0)
def sFine (ops : List Int32) (d : XD) (r : Nat) : XD := if d 5 ≤ d 0 - d (111 + 8 * r) then sProg (sMustPay d (hR d r) (sFineV ops d r) 3 (50 + 7 * lR d r)) r else d
theorem DJ.prog (hD : DJ ops d) {r : Nat} (hr : r < nR d) : DJ ops (sProg d r) := by
  refine DJ_R hD hr (fun j _ hj => upd_n (by omega)) ?_
  obtain ⟨a1, a2, a3, a4, a5⟩ := hD.rq r hr
  unfold RQ sProg
  simp (disch := omega) only [upd_n, upd_s]
  exact ⟨a1, a2, a3, ⟨tM d, Nat.le_refl _, hD.T⟩, a5⟩
theorem holder_of (hD : DJ ops d) {r : Nat} (hr : r < nR d) (ho : d (107 + 8 * r) = nI 1) (hh : d (108 + 8 * r) ≠ -nI 1) : hR d r < nH d ∧ d (108 + 8 * r) = nI (hR d r) := by
  have h6 := hD.H6
  rcases (hD.opens hr ho).1 with q | ⟨h, q1, q2⟩
  · exact absurd q hh
  · have : hR d r = h := by unfold hR; rw [q2]; exact nI_clamp (by omega)
    rw [this]; exact ⟨q1, q2⟩
/-- what never changes while ticks pass -/
def kept (d e : XD) : Prop := e 1 = d 1 ∧ e 2 = d 2 ∧ e 3 = d 3 ∧ e 0 = d 0 ∧ e 8 = d 8 ∧ (∀ l, l < 8 → e (48 + 7 * l) = d (48 + 7 * l)) ∧ (∀ i, e (584 + i) = d (584 + i)) ∧ e 11 = d 11
theorem kept.rfl' : kept d d := ⟨rfl, rfl, rfl, rfl, rfl, fun _ _ => rfl, fun _ => rfl, rfl⟩
theorem kept.trans {e f : XD} (h : kept d e) (h' : kept e f) : kept d f := ⟨h'.1.trans h.1, h'.2.1.trans h.2.1, h'.2.2.1.trans h.2.2.1, h'.2.2.2.1.trans h.2.2.2.1, h'.2.2.2.2.1.trans h.2.2.2.2.1, fun l hl => (h'.2.2.2.2.2.1 l hl).trans (h.2.2.2.2.2.1 l hl), fun i => (h'.2.2.2.2.2.2.1 i).trans (h.2.2.2.2.2.2.1 i), h'.2.2.2.2.2.2.2.trans h.2.2.2.2.2.2.2⟩
theorem kept.H {e : XD} (h : kept d e) : nH e = nH d := nH_same h.1
theorem kept.L {e : XD} (h : kept d e) : nL e = nL d := nL_same h.2.1
theorem kept.R {e : XD} (h : kept d e) : nR e = nR d := nR_same h.2.2.1
theorem kept.T {e : XD} (h : kept d e) : tM e = tM d := tM_same h.2.2.2.1
theorem kept_of {e : XD} (h : ∀ j, j < 12 ∧ j ≠ 4 ∨ 584 ≤ j ∨ (48 ≤ j ∧ j < 104 ∧ (j - 48) % 7 = 0) → e j = d j) : kept d e := ⟨h 1 (by omega), h 2 (by omega), h 3 (by omega), h 0 (by omega), h 8 (by omega), fun l hl => h _ (by omega), fun i => h _ (by omega), h 11 (by omega)⟩
theorem sAssign_kept {r : Nat} (hr : r < 60) : kept d (sAssign d r) := kept_of (fun j hj => (sAssign_at r).2.2 j (by omega) (by omega))
theorem sReAll_far (hD : DJ ops d) (h : Int32) {j : Nat} (hj : 584 ≤ j) : sReAll d h j = d j := by
  have h60 := hD.R60
  have key : ∀ (c i : Nat) (e : XD), i + c ≤ 60 → (fo (fun r e => if sHolds e h r then sAssign e r else e) i c e) j = e j := by
    intro c
    induction c with
    | zero => intro i e _; rfl
    | succ c ih =>
      intro i e hi
      unfold fo
      rw [ih (i + 1) _ (by omega)]
      split
      · exact (sAssign_at i).2.2 j (by omega) (by omega)
      · rfl
  exact key (nR d) 0 d (by omega)
theorem mustPay_kept (hD : DJ ops d) {h acc to : Nat} {amount : Int32} (ha : acc = 3 ∨ acc = 4) (ht : toP to) (hh : h < nH d) : kept d (sMustPay d h amount acc to) := by
  have h6 := hD.H6
  have hm := (hD.mustPay (amount := amount) ha ht hh).2
  have ht' := ht
  unfold toP at ht'
  refine kept_of (fun j hj => ?_)
  by_cases q : 584 ≤ j
  · have hP := hD.paid (amount := amount) ha ht hh
    have eH : nH (sPaid d h amount acc to) = nH d := nH_same (sPaid_FX ha ht (by omega) (FXc (by omega)))
    have hB := hP.broke (h := h) (by rw [eH]; exact hh)
    obtain ⟨k1, -, k3⟩ := sLeaveAll_keep hB (nI h)
    rw [sMustPay_eq]
    split
    · exact sPaid_far ha (by omega) (by omega) (by omega)
    · rw [sReAll_far k1 (nI h) q, k3 j (by omega), upd_n (by omega), sPaid_far ha (by omega) (by omega) (by omega)]
  · exact hm j (by omega)
theorem DJ.fine (hD : DJ ops d) {r : Nat} (hr : r < nR d) (ho : d (107 + 8 * r) = nI 1) (hh : d (108 + 8 * r) ≠ -nI 1) : DJ ops (sFine ops d r) ∧ kept d (sFine ops d r) := by
  have h60 := hD.R60
  have h8 := hD.L8
  obtain ⟨hl, -⟩ := hD.line hr
  obtain ⟨k1, k2⟩ := holder_of hD hr ho hh
  have tp : toP (50 + 7 * lR d r) := by unfold toP; omega
  unfold sFine
  split
  · have m1 := (hD.mustPay (amount := sFineV ops d r) (Or.inl rfl) tp k1).1
    have m2 := mustPay_kept hD (amount := sFineV ops d r) (Or.inl rfl) tp k1
    exact ⟨m1.prog (by rw [m2.R]; exact hr), m2.trans (kept_of (fun j hj => upd_n (by omega)))⟩
  · exact ⟨hD, kept.rfl'⟩
/-- one request's work -/
theorem sWorkF_eq {h r : Nat} {s : Int32 × XD} : sWorkF h r s = if s.1 ≤ nI 0 then s else if sHolds s.2 (nI h) r = true then (s.1 - mn s.1 (s.2 (109 + 8 * r)), if s.2 (109 + 8 * r) - mn s.1 (s.2 (109 + 8 * r)) = nI 0 then sAnswer (upd (upd s.2 (109 + 8 * r) (s.2 (109 + 8 * r) - mn s.1 (s.2 (109 + 8 * r)))) (111 + 8 * r) (s.2 0)) r h else upd (upd s.2 (109 + 8 * r) (s.2 (109 + 8 * r) - mn s.1 (s.2 (109 + 8 * r)))) (111 + 8 * r) (s.2 0)) else s := rfl
theorem fo_work_0 {h : Nat} {s : Int32 × XD} (hs : s.1 ≤ nI 0) : ∀ (c i : Nat), fo (sWorkF h) i c s = s := by
  intro c
  induction c with
  | zero => intro i; rfl
  | succ c ih =>
    intro i
    rw [fo, sWorkF_eq, if_pos hs]
    exact ih (i + 1)
theorem mn_nI {a b : Nat} (ha : a < 2 ^ 31) (hb : b < 2 ^ 31) : mn (nI a) (nI b) = nI (min a b) := by
  unfold mn
  by_cases q : b ≤ a
  · rw [if_pos (nI_le q ha), Nat.min_eq_right q]
  · rw [if_neg (nI_ge (by omega) hb), Nat.min_eq_left (by omega)]
/-- the row behind some work at an open request -/
def sDone (d : XD) (u : Int32) (r : Nat) : XD := upd (upd d (109 + 8 * r) (d (109 + 8 * r) - mn u (d (109 + 8 * r)))) (111 + 8 * r) (d 0)
theorem DJ.done (hD : DJ ops d) {r : Nat} {u : Int32} (hu : ¬ u ≤ nI 0) (hr : r < nR d) : DJ ops (sDone d u r) := by
  refine DJ_R hD hr (fun j _ hj => by unfold sDone; rw [upd_n (by omega), upd_n (by omega)]) ?_
  obtain ⟨a1, a2, ⟨x, x1, x2⟩, a4, a5⟩ := hD.rq r hr
  obtain ⟨b, b1, b2⟩ : ∃ b : Nat, b < 2 ^ 31 ∧ u = nI b := nI_of (fun q => hu (by
    rw [Int32.lt_iff_toInt_lt] at q
    rw [Int32.le_iff_toInt_le]
    have c0 : (nI 0).toInt = 0 := by decide
    have c1 : (0 : Int32).toInt = 0 := by decide
    omega))
  unfold RQ sDone
  simp (disch := omega) only [upd_n, upd_s]
  refine ⟨a1, a2, ⟨x - min b x, by omega, ?_⟩, ⟨tM d, Nat.le_refl _, hD.T⟩, a5⟩
  rw [x2, b2, mn_nI b1 (by omega), pk_sub (by omega)]
theorem sDone_kept {r : Nat} {u : Int32} (hr : r < 60) : kept d (sDone d u r) := kept_of (fun j hj => by unfold sDone; rw [upd_n (by omega), upd_n (by omega)])
theorem DJ.answer (hD : DJ ops d) {r h : Nat} (hr : r < nR d) (hh : h < nH d) : DJ ops (sAnswer d r h) ∧ kept d (sAnswer d r h) := by
  have h60 := hD.R60
  have h8 := hD.L8
  have h6 := hD.H6
  obtain ⟨hl, -⟩ := hD.line hr
  refine ⟨DJ_R hD hr (fun j hj hj2 => ?_) ?_, kept_of (fun j hj => ?_)⟩
  · unfold FX at hj
    unfold sAnswer
    rw [upd_n (by omega), upd_n (by omega), upd_n (by omega), upd_n (by omega), upd_n (by omega), upd_n (by omega)]
  · obtain ⟨a1, a2, a3, a4, a5⟩ := hD.rq r hr
    unfold RQ sAnswer
    simp (disch := omega) only [upd_n, upd_s]
    exact ⟨a1, a2, a3, a4, Or.inr (Or.inr ⟨Or.inl trivial, rfl, ⟨tM d, tM_lt d, hD.T⟩⟩)⟩
  · unfold sAnswer
    rw [upd_n (by omega), upd_n (by omega), upd_n (by omega), upd_n (by omega), upd_n (by omega), upd_n (by omega)]
theorem sHolds_of {h : Int32} {r : Nat} (q : sHolds d h r = true) : d (107 + 8 * r) = nI 1 ∧ d (108 + 8 * r) = h := by
  unfold sHolds sOpen at q
  simp only [Bool.and_eq_true, decide_eq_true_eq] at q
  exact q
theorem DJ.workF {s : Int32 × XD} (hD : DJ ops s.2) {r h : Nat} (hr : r < nR s.2) (hh : h < nH s.2) : DJ ops (sWorkF h r s).2 ∧ kept s.2 (sWorkF h r s).2 := by
  have h60 := hD.R60
  rw [sWorkF_eq]
  by_cases q1 : s.1 ≤ nI 0
  · rw [if_pos q1]; exact ⟨hD, kept.rfl'⟩
  · rw [if_neg q1]
    by_cases q2 : sHolds s.2 (nI h) r = true
    · rw [if_pos q2]
      have g1 := hD.done q1 hr
      have g2 := sDone_kept (d := s.2) (u := s.1) (r := r) (by omega)
      by_cases q3 : s.2 (109 + 8 * r) - mn s.1 (s.2 (109 + 8 * r)) = nI 0
      · rw [if_pos q3]
        obtain ⟨a1, a2⟩ := g1.answer (r := r) (h := h) (by rw [g2.R]; exact hr) (by rw [g2.H]; exact hh)
        exact ⟨a1, g2.trans a2⟩
      · rw [if_neg q3]
        exact ⟨g1, g2⟩
    · rw [if_neg q2]; exact ⟨hD, kept.rfl'⟩
theorem work_keep {h : Nat} : ∀ (c i : Nat) (s : Int32 × XD), DJ ops s.2 → i + c = nR s.2 → h < nH s.2 → DJ ops (fo (sWorkF h) i c s).2 ∧ kept s.2 (fo (sWorkF h) i c s).2 := by
  intro c
  induction c with
  | zero => intro i s hD _ _; exact ⟨hD, kept.rfl'⟩
  | succ c ih =>
    intro i s hD hi hh
    obtain ⟨a1, a2⟩ := hD.workF (r := i) (h := h) (by omega) hh
    obtain ⟨b1, b2⟩ := ih (i + 1) (sWorkF h i s) a1 (by rw [a2.R]; omega) (by rw [a2.H]; exact hh)
    exact ⟨b1, a2.trans b2⟩
theorem DJ.work (hD : DJ ops d) {h : Nat} (hh : h < nH d) : DJ ops (sWork d h) ∧ kept d (sWork d h) := work_keep (nR d) 0 (d (13 + 6 * h), d) hD (Nat.zero_add _) hh
/-- a rent's share -/
def sShare (rent : Int32) (many k : Nat) : Int32 := rent / nI many + (if rent - rent / nI many * nI many ≤ nI k then nI 0 else nI 1)
def sRentF (rent : Int32) (l many : Nat) (P : Nat → Int32) (k : Nat) (e : XD) : XD := if (sTP e l (P k)).isSome = true then sMustPay e (P k).toNatClampNeg (sShare rent many k) 4 4 else e
def sRent (d : XD) (l : Nat) : XD := fo (sRentF (d (48 + 7 * l)) l (nT d l) (fun k => d (52 + 7 * l + k))) 0 (nT d l) d
theorem DJ.rentF (hD : DJ ops d) {rent : Int32} {l many k : Nat} {P : Nat → Int32} (hP : ∃ h, h < nH d ∧ P k = nI h) : DJ ops (sRentF rent l many P k d) ∧ kept d (sRentF rent l many P k d) := by
  have h6 := hD.H6
  obtain ⟨h, h1, h2⟩ := hP
  have e : (P k).toNatClampNeg = h := by rw [h2]; exact nI_clamp (by omega)
  have tp : toP 4 := Or.inl rfl
  unfold sRentF
  split
  · rw [e]
    exact ⟨(hD.mustPay (Or.inr rfl) tp h1).1, mustPay_kept hD (Or.inr rfl) tp h1⟩
  · exact ⟨hD, kept.rfl'⟩
theorem rent_keep {rent : Int32} {l many : Nat} {P : Nat → Int32} {H : Nat} (hP : ∀ k, k < many → ∃ h, h < H ∧ P k = nI h) : ∀ (c i : Nat) (e : XD), DJ ops e → nH e = H → i + c = many → DJ ops (fo (sRentF rent l many P) i c e) ∧ kept e (fo (sRentF rent l many P) i c e) := by
  intro c
  induction c with
  | zero => intro i e hE _ _; exact ⟨hE, kept.rfl'⟩
  | succ c ih =>
    intro i e hE hH hi
    obtain ⟨a1, a2⟩ := hE.rentF (rent := rent) (l := l) (many := many) (P := P) (k := i) (by rw [hH]; exact hP i (by omega))
    obtain ⟨b1, b2⟩ := ih (i + 1) _ a1 (a2.H.trans hH) (by omega)
    exact ⟨b1, a2.trans b2⟩
theorem DJ.rent (hD : DJ ops d) {l : Nat} (hl : l < nL d) : DJ ops (sRent d l) ∧ kept d (sRent d l) :=
  rent_keep (fun k hk => (hD.ln l hl).2.2.1 k hk) (nT d l) 0 d hD rfl (by omega)
theorem gi_si (N : XN) (a k : Nat) (v : Int32) : gi (si N a k v) a k = v := if_pos ⟨rfl, rfl⟩
theorem gi_si_n {N : XN} {a k b j : Nat} {v : Int32} (h : b ≠ a ∨ j ≠ k) : gi (si N a k v) b j = gi N b j := if_neg (by omega)
end TK2

