/-! LEXING (first rows: of whole) -/
section LXV
variable {p : Nat → Bool} {t : Nat → Nat} {L s : Nat}
theorem rE_out : ∀ (z s : Nat), rE p t z s < s + z → p (t (rE p t z s)) = false := by
  intro z
  induction z with
  | zero => intro s h; exact absurd h (by show ¬ s < s + 0; omega)
  | succ z ih =>
    intro s h
    unfold rE at h ⊢
    by_cases q : p (t s) = true
    · rw [if_pos q] at h ⊢
      exact ih (s + 1) (by omega)
    · rw [if_neg q]
      exact Bool.eq_false_iff.mpr q
theorem rN_out (h : s ≤ L) (h2 : rN p t L s < L) : p (t (rN p t L s)) = false := rE_out _ _ (by unfold rN at h2; omega)
end LXV
theorem rN_eq {p : Nat → Bool} {t : Nat → Nat} {L s e : Nat} (h1 : s ≤ e) (h2 : e ≤ L) (h3 : ∀ j, s ≤ j → j < e → p (t j) = true) (h4 : e = L ∨ p (t e) = false) : rN p t L s = e := by
  have hl := rN_le (p := p) (t := t) (L := L) (s := s) (by omega)
  rcases Nat.lt_trichotomy (rN p t L s) e with q | q | q
  · have := rN_out (p := p) (t := t) (L := L) (s := s) (by omega) (by omega)
    rw [h3 _ hl.1 q] at this
    cases this
  · exact q
  · rcases h4 with h4 | h4
    · omega
    · rw [rN_in (p := p) (t := t) (L := L) h1 q] at h4
      cases h4
theorem xWo_l : ∀ i, i < 13 → ∀ k, k < (xWo i).length → ∃ c : Nat, c < 123 ∧ 97 ≤ c ∧ (xWo i).getD k 0 = nI c := by decide +kernel
theorem xWo_inj : ∀ i, i < 13 → ∀ j, j < 13 → xWo i = xWo j → i = j := by decide +kernel
theorem wF_iff {t : Nat → Nat} {s i : Nat} : ∀ (z k : Nat), wF t s i z k = true ↔ ∀ j, k ≤ j → j < k + z → nI (t (s + j)) = (xWo i).getD j 0 := by
  intro z
  induction z with
  | zero => intro k; exact ⟨fun _ j a b => absurd b (by omega), fun _ => rfl⟩
  | succ z ih =>
    intro k
    rw [wF, Bool.and_eq_true, decide_eq_true_eq, ih (k + 1)]
    constructor
    · rintro ⟨h1, h2⟩ j a b
      by_cases e : j = k
      · rw [e]; exact h1
      · exact h2 j (by omega) (by omega)
    · intro h
      exact ⟨h k (Nat.le_refl k) (by omega), fun j a b => h j (by omega) (by omega)⟩
theorem isW_one {t : Nat → Nat} {s e i j : Nat} (hi : i < 13) (hj : j < 13) (h1 : isW t s e i = true) (h2 : isW t s e j = true) : i = j := by
  unfold isW at h1 h2
  rw [Bool.and_eq_true, decide_eq_true_eq] at h1 h2
  refine xWo_inj i hi j hj (List.ext_getElem (h1.1.symm.trans h2.1) (fun k a b => ?_))
  have e1 := (wF_iff _ _).mp h1.2 k (Nat.zero_le k) (by omega)
  have e2 := (wF_iff _ _).mp h2.2 k (Nat.zero_le k) (by omega)
  rw [e1] at e2
  have g : ∀ (l : List Int32) (k : Nat) (h : k < l.length), l.getD k 0 = l[k] := fun l k h => by simp [List.getD, h]
  rw [g _ _ a, g _ _ b] at e2
  exact e2
theorem wK_iff {t : Nat → Nat} {s e i : Nat} (hi : i < 13) : ∀ (z k : Nat), k + z = 13 → k ≤ i → (wK t s e z k = i ↔ isW t s e i = true) := by
  intro z
  induction z with
  | zero => intro k h1 h2; omega
  | succ z ih =>
    intro k h1 h2
    unfold wK
    by_cases q : isW t s e k = true
    · rw [if_pos q]
      constructor
      · intro h; rw [← h]; exact q
      · intro h; exact isW_one (by omega) hi q h
    · rw [if_neg q]
      by_cases e9 : k = i
      · subst e9
        constructor
        · intro h
          exfalso
          have : ∀ (z k : Nat), k ≤ wK t s e z k := by
            intro z
            induction z with
            | zero => intro k; exact Nat.le_refl _
            | succ z ihz =>
              intro k
              unfold wK
              split
              · exact Nat.le_refl _
              · have := ihz (k + 1); omega
          have := this z (k + 1)
          omega
        · intro h; exact absurd h q
      · exact ih (k + 1) (by omega) (by omega)
theorem tK_word {t : Nat → Nat} {L s i : Nat} (hi : i < 13) : tK t L s = 10 + i ↔ (s < L ∧ isL (t s) = true ∧ isW t s (rN isL t L s) i = true) := by
  unfold tK
  by_cases h1 : L ≤ s
  · rw [if_pos h1]
    exact ⟨fun h => by omega, fun h => by omega⟩
  · rw [if_neg h1]
    by_cases h2 : isL (t s) = true
    · rw [if_pos h2]
      have := wK_iff (t := t) (s := s) (e := rN isL t L s) hi 13 0 (by omega) (by omega)
      constructor
      · intro h; exact ⟨by omega, h2, this.mp (by omega)⟩
      · intro h; rw [this.mpr h.2.2]
    · rw [if_neg h2]
      constructor
      · intro h
        exfalso
        split at h
        · omega
        · have := sgK_le (t s); omega
      · intro h; exact absurd h.2.1 h2
theorem sgK_iff {b c : Nat} (hc : c = 40 ∨ c = 41 ∨ c = 42 ∨ c = 43 ∨ c = 45 ∨ c = 47 ∨ c = 59) : sgK b = sgK c ↔ b = c := by
  constructor
  · intro h
    unfold sgK at h
    rcases hc with rfl | rfl | rfl | rfl | rfl | rfl | rfl <;> (simp only [Nat.reduceEqDiff, if_true, if_false] at h; (repeat' split at h) <;> omega)
  · intro h; rw [h]
theorem tK_sign {t : Nat → Nat} {L s c : Nat} (hc : c = 40 ∨ c = 41 ∨ c = 42 ∨ c = 43 ∨ c = 45 ∨ c = 47 ∨ c = 59) : tK t L s = sgK c ↔ (s < L ∧ t s = c) := by
  have nl : isL c = false := by rcases hc with rfl | rfl | rfl | rfl | rfl | rfl | rfl <;> decide
  have nd : isD c = false := by rcases hc with rfl | rfl | rfl | rfl | rfl | rfl | rfl <;> decide
  have n3 : 3 ≤ sgK c ∧ sgK c ≤ 9 := by rcases hc with rfl | rfl | rfl | rfl | rfl | rfl | rfl <;> decide
  unfold tK
  by_cases h1 : L ≤ s
  · rw [if_pos h1]
    exact ⟨fun h => by omega, fun h => by omega⟩
  · rw [if_neg h1]
    by_cases h2 : isL (t s) = true
    · rw [if_pos h2]
      exact ⟨fun h => by omega, fun h => by rw [h.2, nl] at h2; cases h2⟩
    · rw [if_neg h2]
      by_cases h3 : isD (t s) = true
      · rw [if_pos h3]
        exact ⟨fun h => by omega, fun h => by rw [h.2, nd] at h3; cases h3⟩
      · rw [if_neg h3, sgK_iff hc]
        exact ⟨fun h => ⟨by omega, h⟩, fun h => h.2⟩
theorem tE_sign {t : Nat → Nat} {L s c : Nat} (hc : c = 40 ∨ c = 41 ∨ c = 42 ∨ c = 43 ∨ c = 45 ∨ c = 47 ∨ c = 59) (h : t s = c) : tE t L s = s + 1 := by
  have nl : isL c = false := by rcases hc with rfl | rfl | rfl | rfl | rfl | rfl | rfl <;> decide
  have nd : isD c = false := by rcases hc with rfl | rfl | rfl | rfl | rfl | rfl | rfl <;> decide
  unfold tE
  rw [h, if_neg (by rw [nl]; decide), if_neg (by rw [nd]; decide)]
theorem tK_end {t : Nat → Nat} {L s : Nat} : tK t L s = 0 ↔ L ≤ s := by
  unfold tK
  by_cases h1 : L ≤ s
  · rw [if_pos h1]; exact ⟨fun _ => h1, fun _ => rfl⟩
  · rw [if_neg h1]
    constructor
    · intro h
      exfalso
      split at h
      · omega
      · split at h
        · omega
        · unfold sgK at h
          (repeat' split at h) <;> omega
    · intro h; exact absurd h h1
theorem tE_num {t : Nat → Nat} {L s : Nat} (h : tK t L s = 2) : tE t L s = rN isD t L s := by
  obtain ⟨h1, h2⟩ := tK_num.mp h
  unfold tE
  rw [if_neg (by rw [isD_notL h2]; decide), if_pos h2]

/-- the class's words -/
def wB (i : Nat) : List Nat := [[108, 105, 110, 101, 115], [104, 97, 110, 100, 108, 101, 114], [108, 105, 110, 101], [114, 97, 105, 115, 101], [112, 97, 116, 105, 101, 110, 99, 101], [119, 105, 110, 100, 111, 119], [115, 116, 111, 114, 109], [112, 101, 114, 105, 111, 100], [119, 97, 103, 101], [102, 105, 110, 101], [108, 101, 102, 116], [104, 101, 108, 100], [119, 97, 105, 116, 101, 100]].getD i []
theorem wB_eq : ∀ i, i < 13 → xWo i = (wB i).map nI := by decide +kernel
theorem wB_let : ∀ i, i < 13 → (wB i).length = (xWo i).length ∧ 1 ≤ (wB i).length ∧ ∀ j, j < (wB i).length → isL (gd (wB i) j) = true := by decide +kernel
theorem wB_gd : ∀ i, i < 13 → ∀ j, j < (xWo i).length → (xWo i).getD j 0 = nI (gd (wB i) j) := by decide +kernel
/-- these bytes are these tokens -/
def LXR (bs : List Nat) (ts : List (Nat × Nat)) : Prop := ∀ P : List Nat → List (Nat × Nat) → Prop, P [] [] → (∀ bs ts, P bs ts → P (32 :: bs) ts) → (∀ bs ts c, (c = 40 ∨ c = 41 ∨ c = 42 ∨ c = 43 ∨ c = 45 ∨ c = 47 ∨ c = 59) → P bs ts → P (c :: bs) ((sgK c, 0) :: ts)) → (∀ bs ts i c, i < 13 → isL c = false → P (c :: bs) ts → P (wB i ++ c :: bs) ((10 + i, 0) :: ts)) → (∀ bs ts n c, n ≤ 9999 → isD c = false → P (c :: bs) ts → P (NT n ++ c :: bs) ((2, n) :: ts)) → P bs ts
theorem LXR.nil : LXR [] [] := fun _ h0 _ _ _ _ => h0
theorem LXR.sp {bs : List Nat} {ts : List (Nat × Nat)} (h : LXR bs ts) : LXR (32 :: bs) ts := fun P h0 h1 h2 h3 h4 => h1 _ _ (h P h0 h1 h2 h3 h4)
theorem LXR.sg {bs : List Nat} {ts : List (Nat × Nat)} (c : Nat) (hc : c = 40 ∨ c = 41 ∨ c = 42 ∨ c = 43 ∨ c = 45 ∨ c = 47 ∨ c = 59) (h : LXR bs ts) : LXR (c :: bs) ((sgK c, 0) :: ts) := fun P h0 h1 h2 h3 h4 => h2 _ _ c hc (h P h0 h1 h2 h3 h4)
theorem LXR.wd {bs : List Nat} {ts : List (Nat × Nat)} (i : Nat) (hi : i < 13) (c : Nat) (hc : isL c = false) (h : LXR (c :: bs) ts) : LXR (wB i ++ c :: bs) ((10 + i, 0) :: ts) := fun P h0 h1 h2 h3 h4 => h3 _ _ i c hi hc (h P h0 h1 h2 h3 h4)
theorem LXR.nm {bs : List Nat} {ts : List (Nat × Nat)} (n : Nat) (hn : n ≤ 9999) (c : Nat) (hc : isD c = false) (h : LXR (c :: bs) ts) : LXR (NT n ++ c :: bs) ((2, n) :: ts) := fun P h0 h1 h2 h3 h4 => h4 _ _ n c hn hc (h P h0 h1 h2 h3 h4)
theorem LXR.app {bs cs : List Nat} {ts us : List (Nat × Nat)} (h : LXR bs ts) (h2 : LXR cs us) : LXR (bs ++ cs) (ts ++ us) := by
  refine h (fun bs ts => LXR (bs ++ cs) (ts ++ us)) h2 (fun bs ts ih => LXR.sp ih) (fun bs ts c hc ih => LXR.sg c hc ih) (fun bs ts i c hi hc ih => ?_) (fun bs ts n c hn hc ih => ?_)
  · show LXR (wB i ++ c :: bs ++ cs) _
    rw [List.append_assoc]
    exact LXR.wd i hi c hc ih
  · show LXR (NT n ++ c :: bs ++ cs) _
    rw [List.append_assoc]
    exact LXR.nm n hn c hc ih
/-- from p on these are the tokens -/
def TSQ (t : Nat → Nat) (L : Nat) : Nat → List (Nat × Nat) → Prop
  | p, [] => p = L
  | p, (k, n) :: ts => (p < L ∧ tK t L p = k ∧ (k = 2 → num t L p = n)) ∧ TSQ t L (sk t L (tE t L p)) ts
theorem dV_NT {t : Nat → Nat} {s n p : Nat} (hn : n ≤ 9999) (h : ∀ j, s ≤ j → j < p → t j = 48 + n / 10 ^ (p - 1 - j) % 10) : ∀ (z q : Nat), s ≤ q → q + z = p → dV t 1000000 z q (n / 10 ^ z) = n := by
  intro z
  induction z with
  | zero => intro q h1 h2; show n / 10 ^ 0 = n; rw [Nat.pow_zero, Nat.div_one]
  | succ z ih =>
    intro q h1 h2
    have e : min 1000000 (10 * (n / 10 ^ (z + 1)) + (t q - 48)) = n / 10 ^ z := by
      rw [h q h1 (by omega), show p - 1 - q = z by omega, Nat.pow_succ, ← Nat.div_div_eq_div_mul]
      have : n / 10 ^ z ≤ n := Nat.div_le_self _ _
      omega
    show dV t 1000000 z (q + 1) (min 1000000 (10 * (n / 10 ^ (z + 1)) + (t q - 48))) = n
    rw [e]
    exact ih (q + 1) (by omega) (by omega)
theorem NT_dig {n j : Nat} (h : j < nd n) : isD (gd (NT n) j) = true := by
  unfold NT
  rw [gd_dG _ _ h]
  unfold isD
  rw [decide_eq_true_eq]
  omega
theorem nd_pos (n : Nat) : 1 ≤ nd n ∧ nd n ≤ 4 := by
  unfold nd
  (repeat' split) <;> omega
theorem nd_div {n : Nat} (h : n ≤ 9999) : n / 10 ^ nd n = 0 := by
  unfold nd
  split
  · rw [Nat.pow_one]; omega
  · split
    · show n / 100 = 0; omega
    · split
      · show n / 1000 = 0; omega
      · show n / 10000 = 0; omega
theorem isD_sp {b : Nat} (h : isD b = true) : isSpc b = false ∧ isL b = false := by
  unfold isD at h
  rw [decide_eq_true_eq] at h
  unfold isSpc isL
  exact ⟨decide_eq_false (by omega), decide_eq_false (by omega)⟩
theorem isL_sp {b : Nat} (h : isL b = true) : isSpc b = false := by
  unfold isL at h
  rw [decide_eq_true_eq] at h
  unfold isSpc
  exact decide_eq_false (by omega)
theorem gd_ap1 {as bs : List Nat} {j : Nat} (h : j < as.length) : gd (as ++ bs) j = gd as j := by rw [gd_ap, if_pos h]
theorem gd_ap2 {as bs : List Nat} {j : Nat} : gd (as ++ bs) (as.length + j) = gd bs j := by rw [gd_ap, if_neg (by omega), show as.length + j - as.length = j by omega]
theorem LXR.tsq {bs : List Nat} {ts : List (Nat × Nat)} (h : LXR bs ts) : ∀ {t : Nat → Nat} {L s : Nat}, (∀ j, j < bs.length → t (s + j) = gd bs j) → s + bs.length = L → TSQ t L (sk t L s) ts := by
  refine h (fun bs ts => ∀ {t : Nat → Nat} {L s : Nat}, (∀ j, j < bs.length → t (s + j) = gd bs j) → s + bs.length = L → TSQ t L (sk t L s) ts) ?_ ?_ ?_ ?_ ?_
  · intro t L s ht hl
    have : s = L := hl
    show sk t L s = L
    rw [this]
    exact rN_end (Nat.le_refl _)
  · intro bs ts ih t L s ht hl
    rw [List.length_cons] at hl
    have e : sk t L s = sk t L (s + 1) := rN_t (by omega) (by
      have := ht 0 (by rw [List.length_cons]; omega)
      rw [Nat.add_zero] at this
      rw [this]; rfl)
    rw [e]
    exact ih (fun j hj => by
      have := ht (j + 1) (by rw [List.length_cons]; omega)
      rw [show s + 1 + j = s + (j + 1) by omega]
      exact this) (by omega)
  · intro bs ts c hc ih t L s ht hl
    rw [List.length_cons] at hl
    have t0 : t s = c := by
      have := ht 0 (by rw [List.length_cons]; omega)
      rw [Nat.add_zero] at this
      exact this
    have e : sk t L s = s := rN_f (by omega) (by
      rw [t0]
      unfold isSpc
      exact decide_eq_false (by omega))
    have k2 : sgK c ≠ 2 := by
      rcases hc with rfl | rfl | rfl | rfl | rfl | rfl | rfl <;> decide
    rw [e]
    refine ⟨⟨by omega, (tK_sign hc).mpr ⟨by omega, t0⟩, fun z => absurd z k2⟩, ?_⟩
    rw [tE_sign hc t0]
    exact ih (fun j hj => by
      have := ht (j + 1) (by rw [List.length_cons]; omega)
      rw [show s + 1 + j = s + (j + 1) by omega]
      exact this) (by omega)
  · intro bs ts i c hi hc ih t L s ht hl
    obtain ⟨w1, w2, w3⟩ := wB_let i hi
    rw [List.length_append, List.length_cons] at hl
    have tw : ∀ j, j < (wB i).length → t (s + j) = gd (wB i) j := fun j hj => (ht j (by rw [List.length_append]; omega)).trans (gd_ap1 hj)
    have tc : t (s + (wB i).length) = c := by
      have := ht ((wB i).length + 0) (by rw [List.length_append, List.length_cons]; omega)
      rw [gd_ap2, Nat.add_zero] at this
      exact this
    have t0 : isL (t s) = true := by
      have := tw 0 (by omega)
      rw [Nat.add_zero] at this
      rw [this]
      exact w3 0 (by omega)
    have e : sk t L s = s := rN_f (by omega) (isL_sp t0)
    have eN : rN isL t L s = s + (wB i).length := rN_eq (by omega) (by omega) (fun j h1 h2 => by
      have := tw (j - s) (by omega)
      rw [show s + (j - s) = j by omega] at this
      rw [this]
      exact w3 _ (by omega)) (Or.inr (by rw [tc]; exact hc))
    have iw : isW t s (rN isL t L s) i = true := by
      unfold isW
      rw [eN, Bool.and_eq_true, decide_eq_true_eq, wF_iff]
      exact ⟨by omega, fun j _ hj => by rw [wB_gd i hi j (by omega), tw j (by omega)]⟩
    rw [e]
    refine ⟨⟨by omega, (tK_word hi).mpr ⟨by omega, t0, iw⟩, fun z => by omega⟩, ?_⟩
    have eE : tE t L s = s + (wB i).length := by
      unfold tE
      rw [if_pos t0, eN]
    rw [eE]
    exact ih (fun j hj => by
      have := ht ((wB i).length + j) (by rw [List.length_append]; omega)
      rw [gd_ap2] at this
      rw [show s + (wB i).length + j = s + ((wB i).length + j) by omega]
      exact this) (by rw [List.length_cons]; omega)
  · intro bs ts n c hn hc ih t L s ht hl
    obtain ⟨n1, n4⟩ := nd_pos n
    have nl := NT_l n
    rw [List.length_append, List.length_cons] at hl
    have tw : ∀ j, j < nd n → t (s + j) = gd (NT n) j := fun j hj => (ht j (by rw [List.length_append]; omega)).trans (gd_ap1 (by omega))
    have tc : t (s + nd n) = c := by
      have := ht ((NT n).length + 0) (by rw [List.length_append, List.length_cons]; omega)
      rw [gd_ap2, Nat.add_zero, nl] at this
      exact this
    have t0 : isD (t s) = true := by
      have := tw 0 (by omega)
      rw [Nat.add_zero] at this
      rw [this]
      exact NT_dig (by omega)
    obtain ⟨s1, s2⟩ := isD_sp t0
    have e : sk t L s = s := rN_f (by omega) s1
    have eN : rN isD t L s = s + nd n := rN_eq (by omega) (by omega) (fun j h1 h2 => by
      have := tw (j - s) (by omega)
      rw [show s + (j - s) = j by omega] at this
      rw [this]
      exact NT_dig (by omega)) (Or.inr (by rw [tc]; exact hc))
    have k2 : tK t L s = 2 := tK_num.mpr ⟨by omega, t0⟩
    have hnum : num t L s = n := by
      unfold num
      rw [eN, show s + nd n - s = nd n by omega]
      have := dV_NT (t := t) (s := s) (n := n) (p := s + nd n) hn (fun j h1 h2 => by
        have a := tw (j - s) (by omega)
        rw [show s + (j - s) = j by omega] at a
        rw [a]
        unfold NT
        rw [gd_dG _ _ (by omega), show nd n - 1 - (j - s) = s + nd n - 1 - j by omega]) (nd n) s (Nat.le_refl _) rfl
      rw [nd_div hn] at this
      exact this
    rw [e]
    refine ⟨⟨by omega, k2, fun _ => hnum⟩, ?_⟩
    rw [tE_num k2, eN]
    exact ih (fun j hj => by
      have := ht ((NT n).length + j) (by rw [List.length_append]; omega)
      rw [gd_ap2, nl] at this
      rw [show s + nd n + j = s + (nd n + j) by omega]
      exact this) (by rw [List.length_cons]; omega)
section LXA
variable {N : XN} {B T L a : Nat} {t : Nat → Nat}
theorem tk_adv (hT : TK9 N B T L t) (ha : a ≤ T) (hk : tK t L (tS t L a) ≠ 0) : a + 1 ≤ T ∧ tE t L (tS t L a) ≤ L ∧ tS t L a < L := by
  have h1 : tS t L a < L := by
    rcases Nat.lt_or_ge (tS t L a) L with q | q
    · exact q
    · exact absurd (tK_end.mpr q) hk
  have h2 : a ≠ T := fun z => by rw [z, hT.2.1] at h1; omega
  exact ⟨by omega, (tE_le h1).2, h1⟩
/-- the next token -/
theorem TSQ.hd {k n : Nat} {ts : List (Nat × Nat)} (hT : TK9 N B T L t) (ha : a ≤ T) (hk : k ≠ 0) (h : TSQ t L (tS t L a) ((k, n) :: ts)) : a + 1 ≤ T ∧ tK t L (tS t L a) = k ∧ (k = 2 → num t L (tS t L a) = n) ∧ TSQ t L (tS t L (a + 1)) ts := by
  obtain ⟨⟨h1, h2, h3⟩, h4⟩ := h
  exact ⟨(tk_adv hT ha (by rw [h2]; exact hk)).1, h2, h3, h4⟩
theorem TSQ.end0 (h : TSQ t L (tS t L a) []) : tK t L (tS t L a) = 0 := tK_end.mpr (Nat.le_of_eq (Eq.symm h))
end LXA
