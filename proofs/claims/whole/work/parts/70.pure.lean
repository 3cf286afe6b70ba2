/-! NUMBERS AND ROWS -/
theorem nI_lit (n : Nat) : (OfNat.ofNat n : Int32) = nI n := rfl
theorem nI_one : (1 : Int32) = nI 1 := rfl
theorem nI_zero : (0 : Int32) = nI 0 := rfl
theorem xb_nI {k n : Nat} (h : k < n) (hn : n < 2 ^ 31) : xb (nI k) n = true := decide_eq_true (vp_in_nI h hn)
theorem xb_no {k n : Nat} (h : n ≤ k) (hk : k < 2 ^ 31) : xb (nI k) n = false := by
  unfold xb
  refine decide_eq_false (fun q => q (Or.inr ?_))
  rw [nI_clamp hk]
  exact h
theorem nI_neg1 {n : Nat} (h : n < 2 ^ 31) : ¬ nI n = -nI 1 := by
  intro q
  have h1 := congrArg Int32.toInt q
  rw [nI_toInt h] at h1
  have h2 : (-nI 1 : Int32).toInt = -1 := by decide
  omega
theorem neg1_nI {n : Nat} (h : n < 2 ^ 31) : ¬ -nI 1 = nI n := fun q => nI_neg1 h q.symm
/-- row a of the memory is f -/
def sd (N : XN) (a : Nat) (f : Nat → Int32) : XN := (fun b => if b = a then f else N.1 b, N.2)
theorem gi_sd (N : XN) (a : Nat) (f : Nat → Int32) (k : Nat) : gi (sd N a f) a k = f k := by simp [gi, sd]
theorem gi_sd_ne {N : XN} {a b : Nat} (h : b ≠ a) (f : Nat → Int32) (k : Nat) : gi (sd N a f) b k = gi N b k := by simp [gi, sd, h]
theorem si_sd (N : XN) (a : Nat) (f : Nat → Int32) (k : Nat) (v : Int32) : si (sd N a f) a k v = sd N a (upd f k v) := by
  refine Prod.ext ?_ rfl
  funext b j
  by_cases hb : b = a
  · subst hb
    simp [si, sd, upd]
  · simp [si, sd, hb]
theorem sd_sd (N : XN) (a : Nat) (f g : Nat → Int32) : sd (sd N a f) a g = sd N a g := by
  refine Prod.ext ?_ rfl
  funext b
  by_cases hb : b = a <;> simp [sd, hb]
theorem sd_self (N : XN) (a : Nat) : sd N a (N.1 a) = N := by
  refine Prod.ext ?_ rfl
  funext b
  by_cases hb : b = a
  · subst hb; simp [sd]
  · simp [sd, hb]
theorem si_self (N : XN) (a k : Nat) (v : Int32) : si N a k v = sd N a (upd (N.1 a) k v) := by
  conv => lhs; rw [← sd_self N a]
  exact si_sd N a _ k v
theorem upd_s (f : Nat → Int32) (k : Nat) (v : Int32) : upd f k v k = v := pk_us
theorem upd_n {f : Nat → Int32} {k j : Nat} {v : Int32} (h : j ≠ k) : upd f k v j = f j := pk_un h
/-! COUNTS AND FOLDS -/
def cntF (p : Nat → Bool) (i : Nat) : Nat → Nat
  | 0 => 0
  | c + 1 => (if p i then 1 else 0) + cntF p (i + 1) c
def cnt (p : Nat → Bool) (n : Nat) : Nat := cntF p 0 n
def fo {σ : Type} (f : Nat → σ → σ) (i : Nat) : Nat → σ → σ
  | 0, s => s
  | c + 1, s => fo f (i + 1) c (f i s)
theorem cntF_le (p : Nat → Bool) (i c : Nat) : cntF p i c ≤ c := by
  induction c generalizing i with
  | zero => exact Nat.le_refl 0
  | succ c ih =>
    have h := ih (i + 1)
    unfold cntF
    split <;> omega
/-! THE MODEL'S ROW d -/
abbrev XD : Type := Nat → Int32
def nH (d : XD) : Nat := (d 1).toNatClampNeg
def nL (d : XD) : Nat := (d 2).toNatClampNeg
def nR (d : XD) : Nat := (d 3).toNatClampNeg
def nT (d : XD) (l : Nat) : Nat := (d (51 + 7 * l)).toNatClampNeg
def sOpen (d : XD) (r : Nat) : Bool := decide (d (107 + 8 * r) = nI 1)
def sHolds (d : XD) (h : Int32) (r : Nat) : Bool := sOpen d r && decide (d (108 + 8 * r) = h)
def sHeld (d : XD) (h : Int32) : Nat := cnt (sHolds d h) (nR d)
/-- what holds of every row that the model comes to -/
def DI (d : XD) : Prop :=
  d 1 = nI (nH d) ∧ nH d ≤ 6 ∧ d 2 = nI (nL d) ∧ nL d ≤ 8 ∧ d 3 = nI (nR d) ∧ nR d ≤ 60 ∧
  (∀ l, l < nL d → d (51 + 7 * l) = nI (nT d l) ∧ nT d l ≤ 3 ∧ ∀ k, k < nT d l → ∃ h, h < nH d ∧ d (52 + 7 * l + k) = nI h) ∧
  (∀ r, r < nR d → ∃ l, l < nL d ∧ d (104 + 8 * r) = nI l)
section XM1
variable {Y : XY} {m : Nat} {N : XN} {d : XD}
theorem M_ofRequest {r w : Nat} (hr : 104 + 8 * r + w < 1784) : f_X8_ofRequest Y m (nI r) (nI w) (sd N (gp Y m 8) d) = some (d (104 + 8 * r + w)) := by
  simp (disch := omega) only [f_X8_ofRequest, f_X8_requestAt, nI_lit, pk_mul, nI_add, xb_nI, nI_clamp, gi_sd, if_true]
theorem M_isOpen {r : Nat} (hr : r < 60) : f_X8_isOpen Y m (nI r) (sd N (gp Y m 8) d) = some (if sOpen d r then nI 1 else nI 0) := by
  unfold f_X8_isOpen sOpen bd
  rw [nI_lit, M_ofRequest (w := 3) (by omega)]
  show (if d (104 + 8 * r + 3) = nI 1 then some (1 : Int32) else some 0) = _
  rw [show 104 + 8 * r + 3 = 107 + 8 * r by omega]
  by_cases h : d (107 + 8 * r) = nI 1 <;> simp [h] <;> rfl
theorem M_holds {r : Nat} {h : Int32} (hr : r < 60) : f_X8_holds Y m h (nI r) (sd N (gp Y m 8) d) = some (if sHolds d h r then nI 1 else nI 0) := by
  unfold f_X8_holds bd
  rw [M_isOpen hr]
  unfold sHolds
  cases ho : sOpen d r
  · simp [nI_0]
  · simp only [Option.bind_some, if_true]
    rw [if_neg (by decide), nI_lit 4, M_ofRequest (w := 4) (by omega), show 104 + 8 * r + 4 = 108 + 8 * r by omega]
    by_cases h9 : d (108 + 8 * r) = h <;> simp [h9] <;> rfl
theorem M_heldBy_L {h : Int32} (h3 : d 3 = nI (nR d)) (h6 : nR d ≤ 60) : ∀ (c i a D9 : Nat), i + c = nR d → c < D9 → f_X8_heldBy_4 Y D9 m h (nI a) (nI i) (sd N (gp Y m 8) d) = some (nI (a + cntF (sHolds d h) i c)) := by
  intro c
  induction c with
  | zero =>
    intro i a D9 hi hD
    obtain ⟨D8, rfl⟩ : ∃ z, D9 = z + 1 := ⟨D9 - 1, by omega⟩
    rw [f_X8_heldBy_4, gi_sd, h3, if_pos (nI_le (by omega) (by omega))]
    simp [cntF]
  | succ c ih =>
    intro i a D9 hi hD
    obtain ⟨D8, rfl⟩ : ∃ z, D9 = z + 1 := ⟨D9 - 1, by omega⟩
    rw [f_X8_heldBy_4, gi_sd, h3, if_neg (nI_ge (by omega) (by omega)), M_holds (by omega)]
    unfold bd cntF
    simp only [Option.bind_some]
    cases hp : sHolds d h i
    · simp only [Bool.false_eq_true, if_false, nI_lit, nI_add, if_true]
      rw [ih (i + 1) (a + 0) D8 (by omega) (by omega)]
      simp
    · simp only [if_true, nI_lit, nI_add]
      rw [if_neg (by decide), ih (i + 1) (a + 1) D8 (by omega) (by omega)]
      simp [Nat.add_assoc]
theorem M_heldBy {h : Int32} (h3 : d 3 = nI (nR d)) (h6 : nR d ≤ 60) : f_X8_heldBy Y m h (sd N (gp Y m 8) d) = some (nI (sHeld d h)) := by
  unfold f_X8_heldBy
  have := M_heldBy_L (Y := Y) (m := m) (N := N) (h := h) h3 h6 (nR d) 0 0 FU (by omega) (by unfold FU; omega)
  rw [nI_lit]
  rw [this]
  simp [sHeld, cnt]
end XM1
