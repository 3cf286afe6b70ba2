/-! PRUNED: of whole -/
/-- from s on, over at most z places, as long as p holds of the bytes -/
def rE (p : Nat → Bool) (t : Nat → Nat) : Nat → Nat → Nat
  | 0, s => s
  | z + 1, s => if p (t s) then rE p t z (s + 1) else s
/-- the end of a run in a text of L bytes -/
def rN (p : Nat → Bool) (t : Nat → Nat) (L s : Nat) : Nat := rE p t (L - s) s
def isSpc (b : Nat) : Bool := decide (b = 32)
def isL (b : Nat) : Bool := decide (97 ≤ b ∧ b ≤ 122)
def isD (b : Nat) : Bool := decide (48 ≤ b ∧ b ≤ 57)
section RE
variable {p : Nat → Bool} {t : Nat → Nat} {L s : Nat}
theorem rE_le : ∀ (z s : Nat), s ≤ rE p t z s ∧ rE p t z s ≤ s + z := by
  intro z
  induction z with
  | zero => intro s; exact ⟨Nat.le_refl _, Nat.le_refl _⟩
  | succ z ih =>
    intro s
    unfold rE
    split
    · have := ih (s + 1); omega
    · omega
theorem rN_le (h : s ≤ L) : s ≤ rN p t L s ∧ rN p t L s ≤ L := by
  have := rE_le (p := p) (t := t) (L - s) s
  unfold rN
  omega
theorem rN_end (h : L ≤ s) : rN p t L s = s := by
  unfold rN
  rw [show L - s = 0 by omega]
  rfl
theorem rN_t (h : s < L) (hp : p (t s) = true) : rN p t L s = rN p t L (s + 1) := by
  unfold rN
  rw [show L - s = (L - (s + 1)) + 1 by omega, rE, if_pos hp]
theorem rN_f (h : s < L) (hp : p (t s) = false) : rN p t L s = s := by
  unfold rN
  rw [show L - s = (L - (s + 1)) + 1 by omega, rE, if_neg (by rw [hp]; decide)]
theorem rE_in : ∀ (z s j : Nat), s ≤ j → j < rE p t z s → p (t j) = true := by
  intro z
  induction z with
  | zero => intro s j h1 h2; exact absurd h2 (by show ¬ j < s; omega)
  | succ z ih =>
    intro s j h1 h2
    unfold rE at h2
    split at h2
    · rename_i q
      by_cases e : j = s
      · rw [e]; exact q
      · exact ih (s + 1) j (by omega) h2
    · omega
theorem rN_in {j : Nat} (h1 : s ≤ j) (h2 : j < rN p t L s) : p (t j) = true := rE_in _ _ _ h1 h2
end RE
/-- the next place that is no space -/
def sk (t : Nat → Nat) (L s : Nat) : Nat := rN isSpc t L s
/-- the end of the token at s -/
def tE (t : Nat → Nat) (L s : Nat) : Nat := if isL (t s) then rN isL t L s else if isD (t s) then rN isD t L s else s + 1
/-- z bytes from s + k on are word i's from its k-th on -/
def wF (t : Nat → Nat) (s i : Nat) : Nat → Nat → Bool
  | 0, _ => true
  | z + 1, k => decide (nI (t (s + k)) = (xWo i).getD k 0) && wF t s i z (k + 1)
/-- the run from s to e is word i -/
def isW (t : Nat → Nat) (s e i : Nat) : Bool := decide (e - s = (xWo i).length) && wF t s i (xWo i).length 0
/-- the first word from i on that the run is; 23 - 10 if none -/
def wK (t : Nat → Nat) (s e : Nat) : Nat → Nat → Nat
  | 0, i => i
  | z + 1, i => if isW t s e i then i else wK t s e z (i + 1)
def sgK (b : Nat) : Nat := if b = 40 then 4 else if b = 41 then 5 else if b = 42 then 8 else if b = 43 then 6 else if b = 45 then 7 else if b = 47 then 9 else if b = 59 then 3 else 1
/-- the kind of the token at s -/
def tK (t : Nat → Nat) (L s : Nat) : Nat := if L ≤ s then 0 else if isL (t s) then 10 + wK t s (rN isL t L s) 13 0 else if isD (t s) then 2 else sgK (t s)
/-- the number of the digits from s on, z of them, behind v; at most M -/
def dV (t : Nat → Nat) (M : Nat) : Nat → Nat → Nat → Nat
  | 0, _, v => v
  | z + 1, s, v => dV t M z (s + 1) (min M (10 * v + (t s - 48)))
def tN (t : Nat → Nat) (L s : Nat) : Nat := if L ≤ s then 0 else if isL (t s) then 0 else if isD (t s) then dV t 100000 (rN isD t L s - s) s 0 else 0
/-- where token i starts -/
def tS (t : Nat → Nat) (L : Nat) : Nat → Nat
  | 0 => sk t L 0
  | i + 1 => sk t L (tE t L (tS t L i))
theorem tE_le {t : Nat → Nat} {L s : Nat} (h : s < L) : s < tE t L s ∧ tE t L s ≤ L := by
  unfold tE
  by_cases q : isL (t s) = true
  · rw [if_pos q, rN_t h q]
    have := rN_le (p := isL) (t := t) (L := L) (s := s + 1) (by omega)
    omega
  · rw [if_neg q]
    by_cases q2 : isD (t s) = true
    · rw [if_pos q2, rN_t h q2]
      have := rN_le (p := isD) (t := t) (L := L) (s := s + 1) (by omega)
      omega
    · rw [if_neg q2]; omega
/-- the class's byte for b -/
def sb (b : Nat) : Int32 := if b < 128 then nI b else nI b - nI 256
theorem sb_toInt {b : Nat} (h : b < 256) : (sb b).toInt = if b < 128 then (b : Int) else (b : Int) - 256 := by
  unfold sb
  by_cases q : b < 128
  · rw [if_pos q, if_pos q, nI_toInt (by omega)]
  · rw [if_neg q, if_neg q, pk_sub_toInt (by omega) (by omega)]; rfl
theorem sb_lt {b k : Nat} (h : b < 256) (hk : k < 128) : sb b < nI k ↔ (b < k ∨ 128 ≤ b) := by
  rw [Int32.lt_iff_toInt_lt, sb_toInt h, nI_toInt (by omega)]
  split <;> omega
theorem sb_gt {b k : Nat} (h : b < 256) (hk : k < 128) : nI k < sb b ↔ (k < b ∧ b < 128) := by
  rw [Int32.lt_iff_toInt_lt, sb_toInt h, nI_toInt (by omega)]
  split <;> omega
theorem sb_eq {b k : Nat} (h : b < 256) (hk : k < 128) : sb b = nI k ↔ b = k := by
  rw [← Int32.toInt_inj, sb_toInt h, nI_toInt (by omega)]
  split <;> omega
/-- the class's buffer at A holds the text t of L bytes -/
def TB (N : XN) (A L : Nat) (t : Nat → Nat) : Prop := ∀ i, i < L → t i < 256 ∧ gi N A i = sb (t i)
section LX
variable {Y : XY} {N : XN} {A L : Nat} {t : Nat → Nat}
theorem K_run (hk : kn Y A = 700) (hL : L ≤ 700) (hT : TB N A L t) {a z9 : Nat} (p : Nat → Bool) (ha : 0 < a ∧ a < 128) (hz : z9 < 128 ∧ a ≤ z9) (hp : ∀ b, p b = decide (a ≤ b ∧ b ≤ z9)) : ∀ (z s D9 : Nat), s + z = L → z < D9 → f_X5_endOfRun_5 Y D9 A (nI L) (nI a) (nI z9) (nI s) N = some (nI (rN p t L s)) := by
  intro z
  induction z with
  | zero =>
    intro s D9 hi hD9
    obtain ⟨D8, rfl⟩ : ∃ z, D9 = z + 1 := ⟨D9 - 1, by omega⟩
    rw [f_X5_endOfRun_5, rN_end (by omega)]
    simp (disch := omega) only [nI_lit, ↓reduceIte, pLEt, pLEf, pLTt, pLTf, pEQf, pML, pMG, pMf, pMg]
  | succ z ih =>
    intro s D9 hi hD9
    obtain ⟨D8, rfl⟩ : ∃ z, D9 = z + 1 := ⟨D9 - 1, by omega⟩
    obtain ⟨h1, h2⟩ := hT s (by omega)
    have e700 : Int32.ofNat 700 = nI 700 := rfl
    rw [f_X5_endOfRun_5]
    have IH := ih (s + 1) D8 (by omega) (by omega)
    by_cases q1 : sb (t s) < nI a
    · have : p (t s) = false := by rw [hp]; exact decide_eq_false (by rw [sb_lt h1 ha.2] at q1; omega)
      rw [rN_f (by omega) this]
      simp (disch := omega) only [nI_lit, ↓reduceIte, pLEt, pLEf, pLTt, pLTf, pEQf, pML, pMG, pMf, pMg, e700, hk, xb_nI, nI_clamp, if_true, h2, eq_true q1]
    · by_cases q2 : nI z9 < sb (t s)
      · have : p (t s) = false := by rw [hp]; exact decide_eq_false (by rw [sb_gt h1 hz.1] at q2; omega)
        rw [rN_f (by omega) this]
        simp (disch := omega) only [nI_lit, ↓reduceIte, pLEt, pLEf, pLTt, pLTf, pEQf, pML, pMG, pMf, pMg, e700, hk, xb_nI, nI_clamp, if_true, h2, eq_false q1, eq_true q2]
      · have : p (t s) = true := by
          rw [hp]
          refine decide_eq_true ?_
          rw [sb_lt h1 ha.2] at q1
          rw [sb_gt h1 hz.1] at q2
          omega
        rw [rN_t (by omega) this]
        simp (disch := omega) only [nI_lit, nI_add, ↓reduceIte, pLEt, pLEf, pLTt, pLTf, pEQf, pML, pMG, pMf, pMg, e700, hk, xb_nI, nI_clamp, if_true, h2, eq_false q1, eq_false q2]
        exact IH
theorem K_endOfRun (hk : kn Y A = 700) (hL : L ≤ 700) (hT : TB N A L t) {a z9 s : Nat} (p : Nat → Bool) (ha : 0 < a ∧ a < 128) (hz : z9 < 128 ∧ a ≤ z9) (hp : ∀ b, p b = decide (a ≤ b ∧ b ≤ z9)) (hs : s < L) (hps : p (t s) = true) : f_X5_endOfRun Y A (nI L) (nI s) (nI a) (nI z9) N = some (nI (rN p t L s)) := by
  rw [rN_t hs hps]
  have := K_run hk hL hT p ha hz hp (L - (s + 1)) (s + 1) FU (by omega) (by unfold FU; omega)
  unfold f_X5_endOfRun
  simp only [nI_lit, nI_add]
  exact this
theorem K_num (hk : kn Y A = 700) (hL : L ≤ 700) (hT : TB N A L t) {e : Nat} (he : e ≤ L) : ∀ (z s v D9 : Nat), s + z = e → z < D9 → (∀ j, s ≤ j → j < e → isD (t j) = true) → v ≤ 100000 → f_X5_numberIn_5 Y D9 A (nI e) (nI v) (nI s) N = some (nI (dV t 100000 z s v)) := by
  intro z
  induction z with
  | zero =>
    intro s v D9 hi hD9 hd hv
    obtain ⟨D8, rfl⟩ : ∃ z, D9 = z + 1 := ⟨D9 - 1, by omega⟩
    rw [f_X5_numberIn_5]
    simp (disch := omega) only [nI_lit, ↓reduceIte, pLEt, pLEf, pLTt, pLTf, pEQf, pML, pMG, pMf, pMg]
    rfl
  | succ z ih =>
    intro s v D9 hi hD9 hd hv
    obtain ⟨D8, rfl⟩ : ∃ z, D9 = z + 1 := ⟨D9 - 1, by omega⟩
    obtain ⟨h1, h2⟩ := hT s (by omega)
    have hds : 48 ≤ t s ∧ t s ≤ 57 := of_decide_eq_true (hd s (Nat.le_refl s) (by omega))
    have hsb : sb (t s) = nI (t s) := by unfold sb; rw [if_pos (by omega)]
    have IH := fun v' (hv' : v' ≤ 100000) => ih (s + 1) v' D8 (by omega) (by omega) (fun j a b => hd j (by omega) b) hv'
    rw [f_X5_numberIn_5, dV]
    by_cases q : v * 10 + (t s - 48) ≤ 100000
    · rw [show min 100000 (10 * v + (t s - 48)) = v * 10 + (t s - 48) by omega]
      simp (disch := omega) only [↓lt_eq, nI_lit, nI_add, ↓reduceIte, pLEt, pLEf, pLTt, pLTf, pEQf, pML, pMG, pMf, pMg, hk, xb_nI, nI_clamp, if_true, h2, hsb, pk_mul, pk_sub]
      exact IH _ q
    · rw [show min 100000 (10 * v + (t s - 48)) = 100000 by omega]
      simp (disch := omega) only [↓lt_eq, nI_lit, nI_add, ↓reduceIte, pLEt, pLEf, pLTt, pLTf, pEQf, pML, pMG, pMf, pMg, hk, xb_nI, nI_clamp, if_true, h2, hsb, pk_mul, pk_sub]
      exact IH _ (by omega)
theorem xWo_b : ∀ i, i < 13 → 4 ≤ (xWo i).length ∧ (xWo i).length ≤ 8 := by decide
theorem K_isWord_L (hk : kn Y A = 700) (hL : L ≤ 700) (hT : TB N A L t) {s i : Nat} (hi : i < 13) (hs : s + (xWo i).length ≤ L) (hlt : ∀ j, s ≤ j → j < s + (xWo i).length → t j < 128) : ∀ (z k D9 : Nat), k + z = (xWo i).length → z < D9 → f_X5_isWord_15 Y D9 A (nI s) i (nI k) N = some (if wF t s i z k = true then nI 1 else nI 0) := by
  have hb := xWo_b i hi
  intro z
  induction z with
  | zero =>
    intro k D9 hz hD9
    obtain ⟨D8, rfl⟩ : ∃ z, D9 = z + 1 := ⟨D9 - 1, by omega⟩
    rw [f_X5_isWord_15, if_pos hi, if_pos (nI_le (by omega) (by omega)), wF, if_pos rfl]
    rfl
  | succ z ih =>
    intro k D9 hz hD9
    obtain ⟨D8, rfl⟩ : ∃ z, D9 = z + 1 := ⟨D9 - 1, by omega⟩
    obtain ⟨h1, h2⟩ := hT (s + k) (by omega)
    have hsb : sb (t (s + k)) = nI (t (s + k)) := by unfold sb; rw [if_pos (hlt _ (by omega) (by omega))]
    have IH := ih (k + 1) D8 (by omega) (by omega)
    have x1 : (i < 13 ∧ xb (nI k) (xWo i).length = true) := ⟨hi, xb_nI (by omega) (by omega)⟩
    rw [f_X5_isWord_15, if_pos hi, if_neg (nI_ge (by omega) (by omega)), nI_add, hk, xb_nI (by omega) (by omega), if_pos rfl, if_pos x1, nI_clamp (by omega), nI_clamp (by omega), h2, hsb, nI_1, wF]
    by_cases q : nI (t (s + k)) = (xWo i).getD k 0
    · rw [if_pos q, IH, decide_eq_true q, Bool.true_and]
    · rw [if_neg q, decide_eq_false q, Bool.false_and, if_neg (by decide)]
      rfl
theorem K_isWord (hk : kn Y A = 700) (hL : L ≤ 700) (hT : TB N A L t) {s e i : Nat} (hi : i < 13) (hse : s ≤ e) (he : e ≤ L) (hlt : ∀ j, s ≤ j → j < e → t j < 128) : f_X5_isWord Y A (nI s) (nI e) i N = some (if isW t s e i = true then nI 1 else nI 0) := by
  have hb := xWo_b i hi
  unfold f_X5_isWord isW
  rw [if_pos hi, pk_sub hse]
  by_cases q : e - s = (xWo i).length
  · rw [decide_eq_true q, Bool.true_and, q, if_pos rfl]
    exact K_isWord_L hk hL hT hi (s := s) (by omega) (fun j a b => hlt j a (by omega)) (xWo i).length 0 FU (by omega) (by unfold FU; omega)
  · rw [if_neg (fun z => q ((nI_eq (by omega) (by omega)).mp z)), decide_eq_false q, Bool.false_and, if_neg (by decide)]
    rfl
theorem spell_eq : ∀ i, i < 13 → ∀ N : XN, f_X5_spelling Y (nI (10 + i)) N = i := by
  intro i hi N
  unfold f_X5_spelling
  rcases (show i = 0 ∨ i = 1 ∨ i = 2 ∨ i = 3 ∨ i = 4 ∨ i = 5 ∨ i = 6 ∨ i = 7 ∨ i = 8 ∨ i = 9 ∨ i = 10 ∨ i = 11 ∨ i = 12 by omega) with rfl | rfl | rfl | rfl | rfl | rfl | rfl | rfl | rfl | rfl | rfl | rfl | rfl <;> rfl
theorem K_word (hk : kn Y A = 700) (hL : L ≤ 700) (hT : TB N A L t) {s e : Nat} (hse : s ≤ e) (he : e ≤ L) (hlt : ∀ j, s ≤ j → j < e → t j < 128) : ∀ (z i D9 : Nat), i + z = 13 → z < D9 → f_X5_wordKind_3 Y D9 A (nI s) (nI e) (nI (10 + i)) N = some (nI (10 + wK t s e z i)) := by
  intro z
  induction z with
  | zero =>
    intro i D9 hz hD9
    obtain ⟨D8, rfl⟩ : ∃ z, D9 = z + 1 := ⟨D9 - 1, by omega⟩
    rw [f_X5_wordKind_3]
    simp (disch := omega) only [nI_lit, ↓reduceIte, pLEt, pLEf, pLTt, pLTf, pEQf, pML, pMG, pMf, pMg]
    rw [show i = 13 by omega]
    rfl
  | succ z ih =>
    intro i D9 hz hD9
    obtain ⟨D8, rfl⟩ : ∃ z, D9 = z + 1 := ⟨D9 - 1, by omega⟩
    have IH := ih (i + 1) D8 (by omega) (by omega)
    have kw := K_isWord (N := N) hk hL hT (show i < 13 by omega) hse he hlt
    rw [f_X5_wordKind_3, wK, spell_eq (Y := Y) i (by omega) N]
    by_cases q : isW t s e i = true
    · rw [if_pos q]
      simp (disch := omega) only [nI_lit, ↓reduceIte, pLEt, pLEf, pLTt, pLTf, pEQf, pML, pMG, pMf, pMg, kw, q, bd_some, nz10]
    · rw [if_neg q]
      simp (disch := omega) only [nI_lit, nI_add, ↓reduceIte, pLEt, pLEf, pLTt, pLTf, pEQf, pML, pMG, pMf, pMg, kw, eq_false q, bd_some, Bool.false_eq_true]
      rw [show 10 + i + 1 = 10 + (i + 1) by omega]
      exact IH
end LX

