/-! COMBINATORS OF THE PRINTED FUNCTIONS -/
def ck {α : Type} (c : Prop) [Decidable c] (a : Option α) : Option α := if c then a else none
theorem x_ckk {α : Type} {c : Prop} [Decidable c] {a : Option α} {o : α} (h : ck c a = some o) : c ∧ a = some o := x_ck h
theorem ck_t {α : Type} {c : Prop} [Decidable c] {a : Option α} (h : c) : ck c a = a := if_pos h
noncomputable def ckW {α : Type} (Y : XY) (a : Option α) : Option α := @ite _ (WT Y) (Classical.propDecidable _) a none
theorem x_ckW {α : Type} {Y : XY} {a : Option α} {o : α} (h : ckW Y a = some o) : WT Y ∧ a = some o := by
  unfold ckW at h
  by_cases q : WT Y
  · rw [if_pos q] at h; exact ⟨q, h⟩
  · rw [if_neg q] at h; cases h
theorem ckW_t {α : Type} {Y : XY} {a : Option α} (h : WT Y) : ckW Y a = a := if_pos h
noncomputable def ck9 {α : Type} (Y : XY) (a : Option α) : Option α := @ite _ (WT Y ∧ ∀ a, kc Y a ≠ 9) (Classical.propDecidable _) a none
theorem x_ck9 {α : Type} {Y : XY} {a : Option α} {o : α} (h : ck9 Y a = some o) : (WT Y ∧ ∀ a, kc Y a ≠ 9) ∧ a = some o := by
  unfold ck9 at h
  by_cases q : WT Y ∧ ∀ a, kc Y a ≠ 9
  · rw [if_pos q] at h; exact ⟨q, h⟩
  · rw [if_neg q] at h; cases h
theorem ck9_t {α : Type} {Y : XY} {a : Option α} (h : WT Y ∧ ∀ a, kc Y a ≠ 9) : ck9 Y a = a := if_pos h
def bd3 {α β γ δ : Type} (a : Option (α × β × γ)) (f : α → β → γ → Option δ) : Option δ := a.bind fun p => f p.1 p.2.1 p.2.2
theorem x_bd3 {α β γ δ : Type} {a : Option (α × β × γ)} {f : α → β → γ → Option δ} {o : δ} (h : bd3 a f = some o) : ∃ x y z, a = some (x, y, z) ∧ f x y z = some o := by
  obtain ⟨⟨x, y, z⟩, h1, h2⟩ := Option.bind_eq_some_iff.mp h
  exact ⟨x, y, z, h1, h2⟩
theorem bd3_some {α β γ δ : Type} (x : α) (y : β) (z : γ) (f : α → β → γ → Option δ) : bd3 (some (x, y, z)) f = f x y z := (rfl)
def bd4 {α β γ ε δ : Type} (a : Option (α × β × γ × ε)) (f : α → β → γ → ε → Option δ) : Option δ := a.bind fun p => f p.1 p.2.1 p.2.2.1 p.2.2.2
theorem x_bd4 {α β γ ε δ : Type} {a : Option (α × β × γ × ε)} {f : α → β → γ → ε → Option δ} {o : δ} (h : bd4 a f = some o) : ∃ x y z w, a = some (x, y, z, w) ∧ f x y z w = some o := by
  obtain ⟨⟨x, y, z, w⟩, h1, h2⟩ := Option.bind_eq_some_iff.mp h
  exact ⟨x, y, z, w, h1, h2⟩
theorem bd4_some {α β γ ε δ : Type} (x : α) (y : β) (z : γ) (w : ε) (f : α → β → γ → ε → Option δ) : bd4 (some (x, y, z, w)) f = f x y z w := (rfl)
def nl {α β : Type} (o : Option α) (a : Option β) (f : α → Option β) : Option β := match o with
  | none => a
  | some p => f p
theorem x_nl {α β : Type} {o : Option α} {a : Option β} {f : α → Option β} {r : β} (h : nl o a f = some r) : (o = none ∧ a = some r) ∨ ∃ p, o = some p ∧ f p = some r := by
  cases o with
  | none => exact Or.inl ⟨rfl, h⟩
  | some p => exact Or.inr ⟨p, rfl, h⟩
theorem kc_yK {Y : XY} {q c n b K : Nat} (h9 : kc Y q = 9) (h0 : kc Y (q + 1) = 0) (n9 : K ≠ 9) (n0 : K ≠ 0) (h : kc Y b = K) : kc (yK Y q c n) b = K := by
  have e1 : b ≠ q := fun e => n9 (h.symm.trans (e ▸ h9))
  have e2 : b ≠ q + 1 := fun e => n0 (h.symm.trans (e ▸ h0))
  simp only [kc, yK, if_neg e1, if_neg e2]
  exact h
def rC (c : Nat) : Nat → Nat
  | 0 => 0
  | D + 1 => c + 2 * rC c D
theorem xj_0 : (0 : Int32).toNatClampNeg = 0 := by decide
theorem xj_1 : (1 : Int32).toNatClampNeg = 1 := by decide
theorem xj_2 : (2 : Int32).toNatClampNeg = 2 := by decide
theorem xj_3 : (3 : Int32).toNatClampNeg = 3 := by decide
theorem xj_4 : (4 : Int32).toNatClampNeg = 4 := by decide
theorem xj_5 : (5 : Int32).toNatClampNeg = 5 := by decide
theorem xj_6 : (6 : Int32).toNatClampNeg = 6 := by decide
theorem xj_7 : (7 : Int32).toNatClampNeg = 7 := by decide
theorem xj_8 : (8 : Int32).toNatClampNeg = 8 := by decide
theorem xj_9 : (9 : Int32).toNatClampNeg = 9 := by decide
theorem xj_10 : (10 : Int32).toNatClampNeg = 10 := by decide
theorem xj_11 : (11 : Int32).toNatClampNeg = 11 := by decide
theorem xj_12 : (12 : Int32).toNatClampNeg = 12 := by decide
def xch (v : Int32) : Bool := decide (narrow .char (.int v) = .int v)
def xby (v : Int32) : Bool := decide (narrow .byte (.int v) = .int v)
def xfb (N : XN) (a s n : Nat) : Prop := ∀ i, i < n → fits .byte (.int (N.1 a (s + i))) = true
noncomputable def ckF {α : Type} (N : XN) (a s n : Nat) (x : Option α) : Option α := @ite _ (xfb N a s n) (Classical.propDecidable _) x none
theorem x_ckF {α : Type} {N : XN} {a s n : Nat} {x : Option α} {o : α} (h : ckF N a s n x = some o) : xfb N a s n ∧ x = some o := by
  unfold ckF at h
  by_cases q : xfb N a s n
  · rw [if_pos q] at h; exact ⟨q, h⟩
  · rw [if_neg q] at h; cases h
theorem ckF_t {α : Type} {N : XN} {a s n : Nat} {x : Option α} (h : xfb N a s n) : ckF N a s n x = x := if_pos h
