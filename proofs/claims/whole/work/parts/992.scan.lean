/-! THE MODEL READS THE TEXT: bytes, spaces, words, numbers -/
/-- the model's buffer holds the text -/
def TM (N : XN) (m L : Nat) (t : Nat → Nat) : Prop := ∀ i, i < L → t i < 256 ∧ gi N (m + 1) i = nI (t i)
/-- the model's memory: its own row h, its draft e -/
def MM (N : XN) (m : Nat) (h e : XD) : XN := sd (sd N (m + 3) e) m h
/-- the byte at s; -1 at the end -/
def nb (t : Nat → Nat) (L s : Nat) : Int32 := if s < L then nI (t s) else -nI 1
theorem rN_eq {p : Nat → Bool} {t : Nat → Nat} {L s e : Nat} (h1 : s ≤ e) (h2 : e ≤ L) (h3 : ∀ j, s ≤ j → j < e → p (t j) = true) (h4 : e = L ∨ p (t e) = false) : rN p t L s = e := by
  have hl := rN_le (p := p) (t := t) (L := L) (s := s) (by omega)
  rcases Nat.lt_trichotomy (rN p t L s) e with q | q | q
  · have := rN_out (p := p) (t := t) (L := L) (s := s) (by omega) (by omega)
    rw [h3 _ hl.1 q] at this
    cases this
  · exact q
  · rcases h4 with h4 | h4
    · omega
    · rw [rN_in (p := p) (t := t) (L := L) h1 q] at h4
      cases h4
theorem xWo_l : ∀ i, i < 13 → ∀ k, k < (xWo i).length → ∃ c : Nat, c < 123 ∧ 97 ≤ c ∧ (xWo i).getD k 0 = nI c := by decide +kernel
theorem xWo_inj : ∀ i, i < 13 → ∀ j, j < 13 → xWo i = xWo j → i = j := by decide +kernel
theorem wF_iff {t : Nat → Nat} {s i : Nat} : ∀ (z k : Nat), wF t s i z k = true ↔ ∀ j, k ≤ j → j < k + z → nI (t (s + j)) = (xWo i).getD j 0 := by
  intro z
  induction z with
  | zero => intro k; exact ⟨fun _ j a b => absurd b (by omega), fun _ => rfl⟩
  | succ z ih =>
    intro k
    rw [wF, Bool.and_eq_true, decide_eq_true_eq, ih (k + 1)]
    constructor
    · rintro ⟨h1, h2⟩ j a b
      by_cases e : j = k
      · rw [e]; exact h1
      · exact h2 j (by omega) (by omega)
    · intro h
      exact ⟨h k (Nat.le_refl k) (by omega), fun j a b => h j (by omega) (by omega)⟩
theorem isW_one {t : Nat → Nat} {s e i j : Nat} (hi : i < 13) (hj : j < 13) (h1 : isW t s e i = true) (h2 : isW t s e j = true) : i = j := by
  unfold isW at h1 h2
  rw [Bool.and_eq_true, decide_eq_true_eq] at h1 h2
  refine xWo_inj i hi j hj (List.ext_getElem (h1.1.symm.trans h2.1) (fun k a b => ?_))
  have e1 := (wF_iff _ _).mp h1.2 k (Nat.zero_le k) (by omega)
  have e2 := (wF_iff _ _).mp h2.2 k (Nat.zero_le k) (by omega)
  rw [e1] at e2
  have g : ∀ (l : List Int32) (k : Nat) (h : k < l.length), l.getD k 0 = l[k] := fun l k h => by simp [List.getD, h]
  rw [g _ _ a, g _ _ b] at e2
  exact e2
theorem wK_iff {t : Nat → Nat} {s e i : Nat} (hi : i < 13) : ∀ (z k : Nat), k + z = 13 → k ≤ i → (wK t s e z k = i ↔ isW t s e i = true) := by
  intro z
  induction z with
  | zero => intro k h1 h2; omega
  | succ z ih =>
    intro k h1 h2
    unfold wK
    by_cases q : isW t s e k = true
    · rw [if_pos q]
      constructor
      · intro h; rw [← h]; exact q
      · intro h; exact isW_one (by omega) hi q h
    · rw [if_neg q]
      by_cases e9 : k = i
      · subst e9
        constructor
        · intro h
          exfalso
          have : ∀ (z k : Nat), k ≤ wK t s e z k := by
            intro z
            induction z with
            | zero => intro k; exact Nat.le_refl _
            | succ z ihz =>
              intro k
              unfold wK
              split
              · exact Nat.le_refl _
              · have := ihz (k + 1); omega
          have := this z (k + 1)
          omega
        · intro h; exact absurd h q
      · exact ih (k + 1) (by omega) (by omega)
/-- word i stands at s -/
theorem tK_word {t : Nat → Nat} {L s i : Nat} (hi : i < 13) : tK t L s = 10 + i ↔ (s < L ∧ isL (t s) = true ∧ isW t s (rN isL t L s) i = true) := by
  unfold tK
  by_cases h1 : L ≤ s
  · rw [if_pos h1]
    exact ⟨fun h => by omega, fun h => by omega⟩
  · rw [if_neg h1]
    by_cases h2 : isL (t s) = true
    · rw [if_pos h2]
      have := wK_iff (t := t) (s := s) (e := rN isL t L s) hi 13 0 (by omega) (by omega)
      constructor
      · intro h; exact ⟨by omega, h2, this.mp (by omega)⟩
      · intro h; rw [this.mpr h.2.2]
    · rw [if_neg h2]
      constructor
      · intro h
        exfalso
        split at h
        · omega
        · have := sgK_le (t s); omega
      · intro h; exact absurd h.2.1 h2
theorem sgK_iff {b c : Nat} (hc : c = 40 ∨ c = 41 ∨ c = 42 ∨ c = 43 ∨ c = 45 ∨ c = 47 ∨ c = 59) : sgK b = sgK c ↔ b = c := by
  constructor
  · intro h
    unfold sgK at h
    rcases hc with rfl | rfl | rfl | rfl | rfl | rfl | rfl <;> (simp only [Nat.reduceEqDiff, if_true, if_false] at h; (repeat' split at h) <;> omega)
  · intro h; rw [h]
/-- sign c stands at s -/
theorem tK_sign {t : Nat → Nat} {L s c : Nat} (hc : c = 40 ∨ c = 41 ∨ c = 42 ∨ c = 43 ∨ c = 45 ∨ c = 47 ∨ c = 59) : tK t L s = sgK c ↔ (s < L ∧ t s = c) := by
  have nl : isL c = false := by rcases hc with rfl | rfl | rfl | rfl | rfl | rfl | rfl <;> decide
  have nd : isD c = false := by rcases hc with rfl | rfl | rfl | rfl | rfl | rfl | rfl <;> decide
  have n3 : 3 ≤ sgK c ∧ sgK c ≤ 9 := by rcases hc with rfl | rfl | rfl | rfl | rfl | rfl | rfl <;> decide
  unfold tK
  by_cases h1 : L ≤ s
  · rw [if_pos h1]
    exact ⟨fun h => by omega, fun h => by omega⟩
  · rw [if_neg h1]
    by_cases h2 : isL (t s) = true
    · rw [if_pos h2]
      exact ⟨fun h => by omega, fun h => by rw [h.2, nl] at h2; cases h2⟩
    · rw [if_neg h2]
      by_cases h3 : isD (t s) = true
      · rw [if_pos h3]
        exact ⟨fun h => by omega, fun h => by rw [h.2, nd] at h3; cases h3⟩
      · rw [if_neg h3, sgK_iff hc]
        exact ⟨fun h => ⟨by omega, h⟩, fun h => h.2⟩
theorem tE_sign {t : Nat → Nat} {L s c : Nat} (hc : c = 40 ∨ c = 41 ∨ c = 42 ∨ c = 43 ∨ c = 45 ∨ c = 47 ∨ c = 59) (h : t s = c) : tE t L s = s + 1 := by
  have nl : isL c = false := by rcases hc with rfl | rfl | rfl | rfl | rfl | rfl | rfl <;> decide
  have nd : isD c = false := by rcases hc with rfl | rfl | rfl | rfl | rfl | rfl | rfl <;> decide
  unfold tE
  rw [h, if_neg (by rw [nl]; decide), if_neg (by rw [nd]; decide)]
theorem tK_num {t : Nat → Nat} {L s : Nat} : tK t L s = 2 ↔ (s < L ∧ isD (t s) = true) := by
  unfold tK
  by_cases h1 : L ≤ s
  · rw [if_pos h1]
    exact ⟨fun h => by omega, fun h => by omega⟩
  · rw [if_neg h1]
    by_cases h2 : isL (t s) = true
    · rw [if_pos h2]
      exact ⟨fun h => by omega, fun h => by
        have a : 97 ≤ t s ∧ t s ≤ 122 := of_decide_eq_true h2
        have b : 48 ≤ t s ∧ t s ≤ 57 := of_decide_eq_true h.2
        omega⟩
    · rw [if_neg h2]
      by_cases h3 : isD (t s) = true
      · rw [if_pos h3]; exact ⟨fun _ => ⟨by omega, h3⟩, fun _ => rfl⟩
      · rw [if_neg h3]
        constructor
        · intro h
          exfalso
          unfold sgK at h
          (repeat' split at h) <;> omega
        · intro h; exact absurd h.2 h3
theorem tK_end {t : Nat → Nat} {L s : Nat} : tK t L s = 0 ↔ L ≤ s := by
  unfold tK
  by_cases h1 : L ≤ s
  · rw [if_pos h1]; exact ⟨fun _ => h1, fun _ => rfl⟩
  · rw [if_neg h1]
    constructor
    · intro h
      exfalso
      split at h
      · omega
      · split at h
        · omega
        · unfold sgK at h
          (repeat' split at h) <;> omega
    · intro h; exact absurd h h1
section SC
variable {Y : XY} {N : XN} {m L : Nat} {t : Nat → Nat} {h e : XD}
theorem gi_MM (j : Nat) : gi (MM N m h e) m j = h j := gi_sd _ _ _ _
theorem si_MM (j : Nat) (v : Int32) : si (MM N m h e) m j v = MM N m (upd h j v) e := si_sd _ _ _ _ _
theorem gi_MMb (j : Nat) : gi (MM N m h e) (m + 1) j = gi N (m + 1) j := by unfold MM; rw [gi_sd_ne (by omega), gi_sd_ne (by omega)]
theorem gi_MMd (j : Nat) : gi (MM N m h e) (m + 3) j = e j := by unfold MM; rw [gi_sd_ne (by omega), gi_sd]
theorem si_MMd (j : Nat) (v : Int32) : si (MM N m h e) (m + 3) j v = MM N m h (upd e j v) := by
  unfold MM
  rw [si_sd_ne (by omega), si_sd]
theorem M_byteAt (g1 : gp Y m 1 = m + 1) (hT : TM N m L t) (hL : L ≤ 700) (h3 : h 3 = nI L) {k : Nat} (hk : k < 100000) : f_X8_byteAt Y m (nI k) (MM N m h e) = some (nb t L k) := by
  unfold f_X8_byteAt nb
  by_cases q : k < L
  · rw [if_pos q]
    simp (disch := omega) only [nI_lit, ↓reduceIte, pLEt, pLEf, pLTt, pLTf, pEQf, pML, pMG, pMf, pMg, gi_MM, h3, xb_nI, nI_clamp, if_true, g1, gi_MMb, (hT k q).2]
  · rw [if_neg q]
    simp (disch := omega) only [nI_lit, ↓reduceIte, pLEt, pLEf, pLTt, pLTf, pEQf, pML, pMG, pMf, pMg, gi_MM, h3]
theorem nb_eq {s c : Nat} (hT : TM N m L t) (hc : c < 256) : nb t L s = nI c ↔ (s < L ∧ t s = c) := by
  unfold nb
  by_cases q : s < L
  · rw [if_pos q, nI_eq (by have := (hT s q).1; omega) (by omega)]
    exact ⟨fun h => ⟨q, h⟩, fun h => h.2⟩
  · rw [if_neg q]
    exact ⟨fun h => absurd h (neg1_nI (by omega)), fun h => absurd h.1 q⟩
theorem M_next_L (g1 : gp Y m 1 = m + 1) (hT : TM N m L t) (hL : L ≤ 700) : ∀ (n p D9 : Nat) (h : XD), h 3 = nI L → h 4 = nI p → p ≤ L → L - p ≤ n → n < D9 → f_X8_next_0 Y D9 m (MM N m h e) = some (nb t L (sk t L p), MM N m (upd h 4 (nI (sk t L p))) e) := by
  intro n
  induction n with
  | zero =>
    intro p D9 h h3 h4 hp hn hD9
    obtain ⟨D8, rfl⟩ : ∃ z, D9 = z + 1 := ⟨D9 - 1, by omega⟩
    have es : sk t L p = p := rN_end (by omega)
    have b0 := M_byteAt (e := e) g1 hT hL h3 (k := p) (by omega)
    have nb9 : (nb t L p = nI 32) = False := eq_false (fun z => by have := ((nb_eq hT (by omega)).mp z).1; omega)
    rw [f_X8_next_0, es, ← h4, upd_self]
    rw [← h4] at b0
    simp only [nI_lit, gi_MM, b0, bd_some, nb9, if_false]
  | succ n ih =>
    intro p D9 h h3 h4 hp hn hD9
    obtain ⟨D8, rfl⟩ : ∃ z, D9 = z + 1 := ⟨D9 - 1, by omega⟩
    have b0 := M_byteAt (e := e) g1 hT hL h3 (k := p) (by omega)
    by_cases q : p < L ∧ t p = 32
    · have nb9 : (nb t L p = nI 32) = True := eq_true ((nb_eq hT (by omega)).mpr q)
      have es : sk t L p = sk t L (p + 1) := rN_t q.1 (decide_eq_true q.2)
      have IH := ih (p + 1) D8 (upd h 4 (nI (p + 1))) (by rw [upd_n (by omega)]; exact h3) (upd_s _ _ _) (by omega) (by omega) (by omega)
      rw [f_X8_next_0, es]
      simp only [↓lt_eq, nI_lit, gi_MM, h4, b0, bd_some, nb9, if_true, si_MM, nI_add]
      rw [IH]
      have : upd (upd h 4 (nI (p + 1))) 4 (nI (sk t L (p + 1))) = upd h 4 (nI (sk t L (p + 1))) := by
        funext j
        unfold upd
        split <;> rfl
      rw [this]
    · have nb9 : (nb t L p = nI 32) = False := eq_false (fun z => q ((nb_eq hT (by omega)).mp z))
      have es : sk t L p = p := by
        by_cases q2 : p < L
        · exact rN_f q2 (decide_eq_false (fun z => q ⟨q2, z⟩))
        · exact rN_end (by omega)
      rw [f_X8_next_0, es, ← h4, upd_self]
      rw [← h4] at b0
      simp only [nI_lit, gi_MM, b0, bd_some, nb9, if_false]
theorem M_next (g1 : gp Y m 1 = m + 1) (hT : TM N m L t) (hL : L ≤ 700) (h3 : h 3 = nI L) {p : Nat} (h4 : h 4 = nI p) (hp : p ≤ L) : f_X8_next Y m (MM N m h e) = some (nb t L (sk t L p), MM N m (upd h 4 (nI (sk t L p))) e) :=
  M_next_L g1 hT hL (L - p) p FU h h3 h4 hp (Nat.le_refl _) (by unfold FU; omega)
theorem M_isGood : f_X8_isGood Y m (MM N m h e) = if h 5 = nI 0 then nI 1 else nI 0 := by
  unfold f_X8_isGood
  simp only [nI_lit, gi_MM]
theorem M_in {x : Int32} {a b : Nat} : f_X8_in Y x (nI a) (nI b) N = if x < nI a then nI 0 else if nI b < x then nI 0 else nI 1 := rfl
/-- the byte at s is from a to b -/
theorem nb_in {s a b : Nat} (hT : TM N m L t) (ha : 0 < a ∧ a < 256) (hb : b < 256) {N9 : XN} : f_X8_in Y (nb t L s) (nI a) (nI b) N9 = if (s < L ∧ a ≤ t s ∧ t s ≤ b) then nI 1 else nI 0 := by
  rw [M_in]
  unfold nb
  by_cases q : s < L
  · have h1 := (hT s q).1
    rw [if_pos q]
    by_cases q1 : t s < a
    · rw [if_neg (c := s < L ∧ a ≤ t s ∧ t s ≤ b) (by omega), if_pos (nI_lt q1 (by omega))]
    · rw [if_neg (nI_nlt (by omega) (by omega))]
      by_cases q2 : b < t s
      · rw [if_pos (nI_lt q2 (by omega)), if_neg (by omega)]
      · rw [if_neg (nI_nlt (by omega) (by omega)), if_pos (by omega)]
  · have m1 : -nI 1 < nI a := by rw [Int32.lt_iff_toInt_lt, m1_toInt, nI_toInt (by omega)]; omega
    rw [if_neg q, if_neg (c := s < L ∧ a ≤ t s ∧ t s ≤ b) (by omega), if_pos m1]
theorem M_isDigit {s : Nat} (hT : TM N m L t) {N9 : XN} : f_X8_isDigit Y (nb t L s) N9 = some (if (s < L ∧ isD (t s) = true) then nI 1 else nI 0) := by
  have e := nb_in (Y := Y) (N9 := N9) (s := s) (a := 48) (b := 57) hT (by omega) (by omega)
  have x1 : xz (nI 1) = true := by decide
  have x0 : xz (nI 0) = true := by decide
  unfold f_X8_isDigit
  simp only [nI_lit, e]
  by_cases q : s < L ∧ isD (t s) = true
  · have q' : s < L ∧ 48 ≤ t s ∧ t s ≤ 57 := ⟨q.1, of_decide_eq_true q.2⟩
    rw [if_pos q', if_pos q, if_pos x1]
  · have q' : ¬ (s < L ∧ 48 ≤ t s ∧ t s ≤ 57) := fun z => q ⟨z.1, decide_eq_true z.2⟩
    rw [if_neg q', if_neg q, if_pos x0]
theorem M_report {code off : Int32} : f_X8_report Y m code off (MM N m h e) = some (if h 5 = nI 0 then MM N m (upd (upd h 5 code) 6 off) e else MM N m h e) := by
  unfold f_X8_report
  by_cases q : h 5 = nI 0
  · simp only [↓lt_eq, nI_lit, gi_MM, eq_true q, if_true, si_MM]
  · simp only [↓lt_eq, nI_lit, gi_MM, eq_false q, if_false]
/-- word i from its k-th letter on, and no letter behind it -/
def wG (t : Nat → Nat) (L s i : Nat) : Nat → Nat → Bool
  | 0, k => !(decide (s + k < L) && isL (t (s + k)))
  | z + 1, k => decide (s + k < L) && (decide (nI (t (s + k)) = (xWo i).getD k 0) && wG t L s i z (k + 1))
theorem M_takeWord_L (g1 : gp Y m 1 = m + 1) (hT : TM N m L t) (hL : L ≤ 700) (h3 : h 3 = nI L) {s i : Nat} (h4 : h 4 = nI s) (hs : s ≤ L) (hi : i < 13) : ∀ (z k D9 : Nat), k + z = (xWo i).length → z < D9 → f_X8_takeWord_16 Y D9 m i (nI k) (MM N m h e) = some (if wG t L s i z k = true then (nI 1, MM N m (upd h 4 (nI (s + (xWo i).length))) e) else (nI 0, MM N m h e)) := by
  have hb := xWo_b i hi
  have hb1 := fun k hk => M_byteAt (e := e) g1 hT hL h3 (k := k) hk
  intro z
  induction z with
  | zero =>
    intro k D9 hz hD9
    obtain ⟨D8, rfl⟩ : ∃ z, D9 = z + 1 := ⟨D9 - 1, by omega⟩
    have ek : k = (xWo i).length := by omega
    have ei := nb_in (Y := Y) (N9 := MM N m h e) (s := s + k) (a := 97) (b := 122) hT (by omega) (by omega)
    rw [f_X8_takeWord_16, if_pos hi, if_pos (nI_le (by omega) (by omega)), if_pos hi, if_neg (nI_nlt (by omega) (by omega)), wG]
    simp (disch := omega) only [↓lt_eq, nI_lit, gi_MM, h4, nI_add, hb1, bd_some, ei, si_MM]
    by_cases q : s + k < L ∧ isL (t (s + k)) = true
    · have q' : s + k < L ∧ 97 ≤ t (s + k) ∧ t (s + k) ≤ 122 := ⟨q.1, of_decide_eq_true q.2⟩
      simp only [eq_true q', if_true, nz10, if_false, decide_eq_true q.1, q.2, Bool.and_true, Bool.not_true, Bool.false_eq_true]
    · have q' : ¬ (s + k < L ∧ 97 ≤ t (s + k) ∧ t (s + k) ≤ 122) := fun z => q ⟨z.1, decide_eq_true z.2⟩
      have q2 : (!(decide (s + k < L) && isL (t (s + k)))) = true := by
        rw [Bool.not_eq_true', Bool.and_eq_false_iff]
        by_cases q3 : s + k < L
        · exact Or.inr (Bool.eq_false_iff.mpr (fun z => q ⟨q3, z⟩))
        · exact Or.inl (decide_eq_false q3)
      rw [← ek]
      simp only [eq_false q', if_false, if_true, q2]
  | succ z ih =>
    intro k D9 hz hD9
    obtain ⟨D8, rfl⟩ : ∃ z, D9 = z + 1 := ⟨D9 - 1, by omega⟩
    have x1 : (i < 13 ∧ xb (nI k) (xWo i).length = true) := ⟨hi, xb_nI (by omega) (by omega)⟩
    have IH := ih (k + 1) D8 (by omega) (by omega)
    obtain ⟨c, c1, c2, c3⟩ := xWo_l i hi k (by omega)
    have en := nb_eq (s := s + k) (c := c) hT (by omega)
    rw [f_X8_takeWord_16, if_pos hi, if_neg (nI_ge (by omega) (by omega)), gi_MM, h4, nI_add, hb1 _ (by omega), bd_some, if_pos x1, nI_clamp (by omega), nI_1, wG, c3]
    by_cases q : s + k < L ∧ t (s + k) = c
    · rw [if_pos (en.mpr q), IH, decide_eq_true q.1, decide_eq_true (by rw [q.2] : nI (t (s + k)) = nI c), Bool.true_and, Bool.true_and]
    · rw [if_neg (fun z => q (en.mp z)), if_pos hi, if_pos (nI_lt (by omega) (by omega)), if_neg]
      · rfl
      · intro z9
        rw [Bool.and_eq_true, Bool.and_eq_true, decide_eq_true_eq, decide_eq_true_eq] at z9
        have := hT (s + k) z9.1
        exact q ⟨z9.1, (nI_eq (by omega) (by omega)).mp z9.2.1⟩
theorem wG_iff {s i : Nat} : ∀ (z k : Nat), wG t L s i z k = true ↔ ((∀ j, k ≤ j → j < k + z → s + j < L ∧ nI (t (s + j)) = (xWo i).getD j 0) ∧ ¬ (s + (k + z) < L ∧ isL (t (s + (k + z))) = true)) := by
  intro z
  induction z with
  | zero =>
    intro k
    rw [wG, Bool.not_eq_true', Bool.and_eq_false_iff, decide_eq_false_iff_not, Nat.add_zero]
    constructor
    · intro h
      refine ⟨fun j a b => absurd b (by omega), fun q => ?_⟩
      rcases h with h | h
      · exact h q.1
      · rw [h] at q; exact absurd q.2 (by decide)
    · rintro ⟨-, h⟩
      by_cases q : s + k < L
      · exact Or.inr (Bool.eq_false_iff.mpr (fun z => h ⟨q, z⟩))
      · exact Or.inl q
  | succ z ih =>
    intro k
    rw [wG, Bool.and_eq_true, Bool.and_eq_true, decide_eq_true_eq, decide_eq_true_eq, ih (k + 1), show k + 1 + z = k + (z + 1) by omega]
    constructor
    · rintro ⟨h1, h2, h3, h4⟩
      refine ⟨fun j a b => ?_, h4⟩
      by_cases e : j = k
      · rw [e]; exact ⟨h1, h2⟩
      · exact h3 j (by omega) b
    · rintro ⟨h1, h2⟩
      obtain ⟨a, b⟩ := h1 k (Nat.le_refl k) (by omega)
      exact ⟨a, b, fun j x y => h1 j (by omega) y, h2⟩
/-- the model finds word i at s just where the class's token there is it -/
theorem wG_tK (hT : TM N m L t) {s i : Nat} (hi : i < 13) (hs : s ≤ L) : wG t L s i (xWo i).length 0 = true ↔ tK t L s = 10 + i := by
  have hb := xWo_b i hi
  rw [wG_iff, tK_word hi, Nat.zero_add]
  constructor
  · rintro ⟨h1, h2⟩
    have l1 : ∀ j, j < (xWo i).length → isL (t (s + j)) = true := fun j hj => by
      obtain ⟨a, b⟩ := h1 j (Nat.zero_le j) hj
      obtain ⟨c, c1, c2, c3⟩ := xWo_l i hi j hj
      rw [c3] at b
      have := (hT (s + j) a).1
      have e := (nI_eq (by omega) (by omega)).mp b
      exact decide_eq_true (by omega)
    have hl : s + (xWo i).length ≤ L := by
      have := (h1 ((xWo i).length - 1) (Nat.zero_le _) (by omega)).1
      omega
    have er : rN isL t L s = s + (xWo i).length := rN_eq (by omega) hl (fun j a b => by
      have := l1 (j - s) (by omega)
      rw [show s + (j - s) = j by omega] at this
      exact this) (by
      by_cases q : s + (xWo i).length < L
      · exact Or.inr (Bool.eq_false_iff.mpr (fun z => h2 ⟨q, z⟩))
      · exact Or.inl (by omega))
    refine ⟨by omega, by have := l1 0 (by omega); rw [Nat.add_zero] at this; exact this, ?_⟩
    unfold isW
    rw [er, Bool.and_eq_true, decide_eq_true_eq, wF_iff]
    exact ⟨by omega, fun j a b => (h1 j a (by omega)).2⟩
  · rintro ⟨h1, h2, h3⟩
    unfold isW at h3
    rw [Bool.and_eq_true, decide_eq_true_eq, wF_iff] at h3
    have hl := rN_le (p := isL) (t := t) (L := L) (s := s) hs
    refine ⟨fun j a b => ⟨by omega, h3.2 j a (by omega)⟩, fun q => ?_⟩
    have er : rN isL t L s = s + (xWo i).length := by omega
    have := rN_out (p := isL) (t := t) (L := L) (s := s) hs (by omega)
    rw [er, q.2] at this
    cases this
theorem tE_word {s i : Nat} (hi : i < 13) (hs : s ≤ L) (h : tK t L s = 10 + i) : tE t L s = s + (xWo i).length := by
  obtain ⟨h1, h2, h3⟩ := (tK_word hi).mp h
  unfold isW at h3
  rw [Bool.and_eq_true, decide_eq_true_eq] at h3
  have hl := rN_le (p := isL) (t := t) (L := L) (s := s) hs
  unfold tE
  rw [if_pos h2]
  omega
theorem upd_upd (f : XD) (k : Nat) (u v : Int32) : upd (upd f k u) k v = upd f k v := by
  funext j
  unfold upd
  split <;> rfl
/-- a word is taken, or not -/
theorem M_takeWord (g1 : gp Y m 1 = m + 1) (hT : TM N m L t) (hL : L ≤ 700) (h3 : h 3 = nI L) (h5 : h 5 = nI 0) {p s i : Nat} (h4 : h 4 = nI p) (hp : p ≤ L) (hs : sk t L p = s) (hi : i < 13) : f_X8_takeWord Y m i (MM N m h e) = some (if tK t L s = 10 + i then (nI 1, MM N m (upd h 4 (nI (tE t L s))) e) else (nI 0, MM N m (upd h 4 (nI s)) e)) := by
  have hsl := rN_le (p := isS) (t := t) (L := L) (s := p) hp
  have hs' : s ≤ L := by rw [← hs]; exact hsl.2
  have nx := M_next (e := e) g1 hT hL h3 h4 hp
  rw [hs] at nx
  have hb := xWo_b i hi
  have ML := M_takeWord_L (h := upd h 4 (nI s)) (e := e) g1 hT hL (by rw [upd_n (by omega)]; exact h3) (upd_s _ _ _) hs' hi (xWo i).length 0 FU (by omega) (by unfold FU; omega)
  have gd := M_isGood (Y := Y) (N := N) (m := m) (h := h) (e := e)
  rw [if_pos h5] at gd
  unfold f_X8_takeWord
  simp only [nI_lit, gd, nz10, if_false, nx, bd2_some]
  rw [ML]
  by_cases q : tK t L s = 10 + i
  · rw [if_pos ((wG_tK hT hi hs').mpr q), if_pos q, upd_upd, tE_word hi hs' q]
  · rw [if_neg (fun z => q ((wG_tK hT hi hs').mp z)), if_neg q]
/-- a sign is wanted -/
theorem M_expect (g1 : gp Y m 1 = m + 1) (hT : TM N m L t) (hL : L ≤ 700) (h3 : h 3 = nI L) (h5 : h 5 = nI 0) {p s c : Nat} (h4 : h 4 = nI p) (hp : p ≤ L) (hs : sk t L p = s) (hc : c = 41 ∨ c = 59) : f_X8_expect Y m (nI c) (MM N m h e) = some (if tK t L s = sgK c then MM N m (upd h 4 (nI (tE t L s))) e else MM N m (upd (upd (upd h 4 (nI s)) 5 (-nI 2)) 6 (nI s)) e) := by
  have nx := M_next (e := e) g1 hT hL h3 h4 hp
  rw [hs] at nx
  have gd := M_isGood (Y := Y) (N := N) (m := m) (h := h) (e := e)
  rw [if_pos h5] at gd
  have en := nb_eq (s := s) (c := c) hT (by omega)
  have ts := tK_sign (t := t) (L := L) (s := s) (c := c) (by omega)
  have rp := M_report (Y := Y) (N := N) (m := m) (h := upd h 4 (nI s)) (e := e) (code := -nI 2) (off := nI s)
  rw [upd_n (j := 5) (by omega), if_pos h5] at rp
  unfold f_X8_expect
  by_cases q : tK t L s = sgK c
  · have q2 := ts.mp q
    rw [if_pos q, tE_sign (c := c) (by omega) q2.2]
    simp only [↓lt_eq, nI_lit, gd, nz10, if_false, nx, bd2_some, eq_true (en.mpr q2), if_true, gi_MM, upd_s, nI_add, si_MM, upd_upd]
  · rw [if_neg q]
    simp only [↓lt_eq, nI_lit, gd, nz10, if_false, nx, bd2_some, bd_some, eq_false (fun z => q (ts.mpr (en.mp z))), gi_MM, upd_s, rp]
end SC
