/-! THE MODEL READS A NUMBER, AND EMITS CODE -/
theorem dV_le {t : Nat → Nat} {M : Nat} : ∀ (z s v : Nat), v ≤ M → dV t M z s v ≤ M := by
  intro z
  induction z with
  | zero => intro s v h; exact h
  | succ z ih => intro s v h; exact ih _ _ (Nat.min_le_left _ _)
/-- the class's cap is a cap on the model's -/
theorem dV_cap {t : Nat → Nat} {M K : Nat} (h : K ≤ M) : ∀ (z s v : Nat), dV t K z s (min K v) = min K (dV t M z s v) := by
  intro z
  induction z with
  | zero => intro s v; rfl
  | succ z ih =>
    intro s v
    rw [dV, dV, ← ih (s + 1)]
    congr 1
    omega
/-- the number of the digits at s; at most a million -/
def num (t : Nat → Nat) (L s : Nat) : Nat := dV t 1000000 (rN isD t L s - s) s 0
theorem num_le {t : Nat → Nat} {L s : Nat} : num t L s ≤ 1000000 := dV_le _ _ _ (Nat.zero_le _)
theorem isD_notL {b : Nat} (h : isD b = true) : isL b = false := by
  have h1 : 48 ≤ b ∧ b ≤ 57 := of_decide_eq_true h
  exact decide_eq_false (by omega)
theorem tN_num {t : Nat → Nat} {L s : Nat} (h : tK t L s = 2) : tN t L s = min 100000 (num t L s) := by
  obtain ⟨h1, h2⟩ := tK_num.mp h
  unfold tN num
  rw [if_neg (c := L ≤ s) (by omega), if_neg (by rw [isD_notL h2]; decide), if_pos h2]
  exact dV_cap (t := t) (M := 1000000) (K := 100000) (by omega) _ _ 0
theorem tE_num {t : Nat → Nat} {L s : Nat} (h : tK t L s = 2) : tE t L s = rN isD t L s := by
  obtain ⟨h1, h2⟩ := tK_num.mp h
  unfold tE
  rw [if_neg (by rw [isD_notL h2]; decide), if_pos h2]
/-- the number is in range -/
def inR (v a : Nat) (b : Int32) : Bool := decide (a ≤ v ∧ (v : Int) ≤ b.toInt)
theorem in_eq {Y : XY} {N : XN} {v a : Nat} {b : Int32} (hv : v ≤ 1000000) (ha : a ≤ 9999) : (inR v a b = true → f_X8_in Y (nI v) (nI a) b N = nI 1) ∧ (¬ inR v a b = true → f_X8_in Y (nI v) (nI a) b N = nI 0) := by
  unfold inR f_X8_in
  rw [decide_eq_true_eq]
  simp only [nI_lit]
  have e1 : (nI v < nI a) ↔ v < a := by rw [Int32.lt_iff_toInt_lt, nI_toInt (by omega), nI_toInt (by omega)]; omega
  have e2 : (b < nI v) ↔ b.toInt < v := by rw [Int32.lt_iff_toInt_lt, nI_toInt (by omega)]
  constructor
  · intro h
    rw [if_neg (fun z => by have := e1.mp z; omega), if_neg (fun z => by have := e2.mp z; omega)]
  · intro h
    by_cases q : nI v < nI a
    · rw [if_pos q]
    · rw [if_neg q]
      by_cases q2 : b < nI v
      · rw [if_pos q2]
      · rw [if_neg q2]
        exfalso
        rw [e1] at q
        rw [e2] at q2
        omega
section NU
variable {Y : XY} {N : XN} {m L : Nat} {t : Nat → Nat} {h e : XD}
theorem upd_com (f : XD) {i j : Nat} (hij : i ≠ j) (u v : Int32) : upd (upd f i u) j v = upd (upd f j v) i u := by
  funext k
  unfold upd
  by_cases q : k = j
  · rw [if_pos q, if_neg (show ¬ k = i by omega), if_pos q]
  · rw [if_neg q]
    by_cases q2 : k = i
    · rw [if_pos q2, if_pos q2]
    · rw [if_neg q2, if_neg q2, if_neg q]
theorem M_number_L (g1 : gp Y m 1 = m + 1) (hT : TM N m L t) (hL : L ≤ 700) {a : Nat} {b : Int32} (ha : a ≤ 9999) {u : Nat} (hu : u ≤ L) : ∀ (z s v D9 : Nat) (h : XD), h 3 = nI L → h 5 = nI 0 → h 4 = nI s → s + z = u → (∀ j, s ≤ j → j < u → isD (t j) = true) → (u = L ∨ isD (t u) = false) → v ≤ 1000000 → z < D9 → f_X8_number_41 Y D9 m (nI a) b (nI v) (MM N m h e) = some (nI (dV t 1000000 z s v), MM N m (if inR (dV t 1000000 z s v) a b then upd h 4 (nI u) else upd (upd (upd h 4 (nI u)) 5 (-nI 3)) 6 (h 14)) e) := by
  intro z
  induction z with
  | zero =>
    intro s v D9 h h3 h5 h4 hs hd he hv hD9
    obtain ⟨D8, rfl⟩ : ∃ z, D9 = z + 1 := ⟨D9 - 1, by omega⟩
    have es : u = s := by omega
    have q : ¬ (s < L ∧ isD (t s) = true) := by
      rintro ⟨q1, q2⟩
      rcases he with he | he
      · omega
      · rw [es, q2] at he; cases he
    have b0 := M_byteAt (e := e) (h := h) g1 hT hL h3 (k := s) (by omega)
    have d0 := M_isDigit (Y := Y) (N := N) (m := m) (s := s) hT (N9 := MM N m h e)
    rw [if_neg q] at d0
    have i9 := in_eq (Y := Y) (N := MM N m h e) (b := b) hv ha
    have rp := M_report (Y := Y) (N := N) (m := m) (h := h) (e := e) (code := -nI 3) (off := h 14)
    rw [if_pos h5] at rp
    rw [f_X8_number_41, dV, es, ← h4, upd_self]
    rw [← h4] at b0
    by_cases qr : inR v a b = true
    · rw [if_pos qr]
      simp only [nI_lit, gi_MM, b0, bd_some, d0, if_true, i9.1 qr, nz10, if_false]
    · rw [if_neg qr]
      simp only [nI_lit, gi_MM, b0, bd_some, d0, if_true, i9.2 qr, rp]
  | succ z ih =>
    intro s v D9 h h3 h5 h4 hs hd he hv hD9
    obtain ⟨D8, rfl⟩ : ∃ z, D9 = z + 1 := ⟨D9 - 1, by omega⟩
    have q : s < L ∧ isD (t s) = true := ⟨by omega, hd s (Nat.le_refl s) (by omega)⟩
    have hds : 48 ≤ t s ∧ t s ≤ 57 := of_decide_eq_true q.2
    have b0 := M_byteAt (e := e) (h := h) g1 hT hL h3 (k := s) (by omega)
    have d0 := M_isDigit (Y := Y) (N := N) (m := m) (s := s) hT (N9 := MM N m h e)
    rw [if_pos q] at d0
    have nbs : nb t L s = nI (t s) := if_pos q.1
    rw [nbs] at b0 d0
    have mi : f_X8_min Y (nI 1000000) (nI (10 * v + t s - 48)) (MM N m h e) = nI (min 1000000 (10 * v + (t s - 48))) := by
      unfold f_X8_min
      by_cases q2 : 10 * v + t s - 48 ≤ 1000000
      · rw [if_pos (nI_le q2 (by omega))]
        congr 1
        omega
      · rw [if_neg (nI_ge (by omega) (by omega))]
        congr 1
        omega
    have IH := ih (s + 1) (min 1000000 (10 * v + (t s - 48))) D8 (upd h 4 (nI (s + 1))) (by rw [upd_n (by omega)]; exact h3) (by rw [upd_n (by omega)]; exact h5) (upd_s _ _ _) (by omega) (fun j x y => hd j (by omega) y) he (Nat.min_le_left _ _) (by omega)
    rw [f_X8_number_41, dV]
    simp (disch := omega) only [↓lt_eq, nI_lit, gi_MM, h4, b0, bd_some, d0, nz10, if_false, pk_mul, nI_add, pk_sub, mi, si_MM]
    rw [IH, upd_upd, upd_n (j := 14) (by omega)]
theorem M_number (g1 : gp Y m 1 = m + 1) (hT : TM N m L t) (hL : L ≤ 700) (h3 : h 3 = nI L) (h5 : h 5 = nI 0) {p s a : Nat} {b : Int32} (h4 : h 4 = nI p) (hp : p ≤ L) (hs : sk t L p = s) (ha : a ≤ 9999) : f_X8_number Y m (nI a) b (MM N m h e) = some (if tK t L s = 2 then (nI (num t L s), MM N m (if inR (num t L s) a b then upd (upd h 14 (nI s)) 4 (nI (tE t L s)) else upd (upd (upd (upd h 14 (nI s)) 4 (nI (tE t L s))) 5 (-nI 3)) 6 (nI s)) e) else (nI 0, MM N m (upd (upd (upd h 4 (nI s)) 5 (-nI 2)) 6 (nI s)) e)) := by
  have hsl := rN_le (p := isS) (t := t) (L := L) (s := p) hp
  have hs' : s ≤ L := by rw [← hs]; exact hsl.2
  have nx := M_next (e := e) g1 hT hL h3 h4 hp
  rw [hs] at nx
  have gd := M_isGood (Y := Y) (N := N) (m := m) (h := h) (e := e)
  rw [if_pos h5] at gd
  have d0 := M_isDigit (Y := Y) (N := N) (m := m) (s := s) hT (N9 := MM N m (upd h 4 (nI s)) e)
  unfold f_X8_number
  by_cases q : tK t L s = 2
  · rw [if_pos q]
    rw [if_pos (tK_num.mp q)] at d0
    have hr := rN_le (p := isD) (t := t) (L := L) (s := s) hs'
    have ml := M_number_L (Y := Y) (e := e) g1 hT hL (b := b) ha hr.2 (rN isD t L s - s) s 0 FU (upd (upd h 4 (nI s)) 14 (nI s)) (by rw [upd_n (by omega), upd_n (by omega)]; exact h3) (by rw [upd_n (by omega), upd_n (by omega)]; exact h5) (by rw [upd_n (by omega), upd_s]) (by omega) (fun j x y => rN_in x y) (by
      by_cases q2 : rN isD t L s < L
      · exact Or.inr (rN_out hs' q2)
      · exact Or.inl (by omega)) (by omega) (by unfold FU; omega)
    simp only [↓lt_eq, nI_lit, gd, nz10, if_false, nx, bd2_some, bd_some, d0, gi_MM, upd_s, si_MM]
    rw [ml, tE_num q]
    have e1 : upd (upd (upd h 4 (nI s)) 14 (nI s)) 4 (nI (rN isD t L s)) = upd (upd h 14 (nI s)) 4 (nI (rN isD t L s)) := by
      rw [upd_com h (by omega), upd_upd]
    rw [e1, upd_s]
    rfl
  · rw [if_neg q]
    rw [if_neg (fun z => q (tK_num.mpr z))] at d0
    have rp := M_report (Y := Y) (N := N) (m := m) (h := upd h 4 (nI s)) (e := e) (code := -nI 2) (off := nI s)
    rw [upd_n (j := 5) (by omega), if_pos h5] at rp
    simp only [↓lt_eq, nI_lit, gd, nz10, if_false, nx, bd2_some, bd_some, d0, if_true, gi_MM, upd_s, rp]
/-- the model's faces of reading do nothing behind a fault -/
theorem M_number_bad (h5 : h 5 ≠ nI 0) {a b : Int32} : f_X8_number Y m a b (MM N m h e) = some (nI 0, MM N m h e) := by
  unfold f_X8_number
  have gd := M_isGood (Y := Y) (N := N) (m := m) (h := h) (e := e)
  rw [if_neg h5] at gd
  simp only [nI_lit, gd, if_true]
theorem M_takeWord_bad (h5 : h 5 ≠ nI 0) {i : Nat} : f_X8_takeWord Y m i (MM N m h e) = some (nI 0, MM N m h e) := by
  unfold f_X8_takeWord
  have gd := M_isGood (Y := Y) (N := N) (m := m) (h := h) (e := e)
  rw [if_neg h5] at gd
  simp only [nI_lit, gd, if_true]
theorem M_expect_bad (h5 : h 5 ≠ nI 0) {a : Int32} : f_X8_expect Y m a (MM N m h e) = some (MM N m h e) := by
  unfold f_X8_expect
  have gd := M_isGood (Y := Y) (N := N) (m := m) (h := h) (e := e)
  rw [if_neg h5] at gd
  simp only [nI_lit, gd, if_true]
theorem M_report_bad (h5 : h 5 ≠ nI 0) {a b : Int32} : f_X8_report Y m a b (MM N m h e) = some (MM N m h e) := by
  rw [M_report, if_neg h5]
theorem M_emit_bad (h5 : h 5 ≠ nI 0) {a : Int32} : f_X8_emit Y m a (MM N m h e) = some (MM N m h e) := by
  unfold f_X8_emit
  have gd := M_isGood (Y := Y) (N := N) (m := m) (h := h) (e := e)
  rw [if_neg h5] at gd
  simp only [nI_lit, gd, if_true]
theorem M_emit (g9 : gp Y m 9 = m + 3) (k9 : kn Y (m + 3) = 1784) (h5 : h 5 = nI 0) {n : Nat} (h11 : e 11 = nI n) (hn : n < 1200) {x : Int32} : f_X8_emit Y m x (MM N m h e) = some (MM N m h (upd (upd e (584 + n) x) 11 (nI (n + 1)))) := by
  unfold f_X8_emit
  have gd := M_isGood (Y := Y) (N := N) (m := m) (h := h) (e := e)
  rw [if_pos h5] at gd
  have xx : Int32.ofNat 1784 = nI 1784 := rfl
  simp (disch := omega) only [↓lt_eq, nI_lit, gd, nz10, if_false, g9, gi_MMd, h11, nI_add, k9, xb_nI, if_true, nI_clamp, si_MMd, upd_n]
end NU
