/-! PRUNED: of whole -/
theorem nI_lit (n : Nat) : (OfNat.ofNat n : Int32) = nI n := rfl
theorem xb_nI {k n : Nat} (h : k < n) (hn : n < 2 ^ 31) : xb (nI k) n = true := decide_eq_true (vp_in_nI h hn)
theorem nI_neg1 {n : Nat} (h : n < 2 ^ 31) : ¬ nI n = -nI 1 := by
  intro q
  have h1 := congrArg Int32.toInt q
  rw [nI_toInt h] at h1
  have h2 : (-nI 1 : Int32).toInt = -1 := by decide
  omega
theorem neg1_nI {n : Nat} (h : n < 2 ^ 31) : ¬ -nI 1 = nI n := fun q => nI_neg1 h q.symm
/-- row a of the memory is f -/
def sd (N : XN) (a : Nat) (f : Nat → Int32) : XN := (fun b => if b = a then f else N.1 b, N.2)
theorem gi_sd (N : XN) (a : Nat) (f : Nat → Int32) (k : Nat) : gi (sd N a f) a k = f k := by simp [gi, sd]
theorem gi_sd_ne {N : XN} {a b : Nat} (h : b ≠ a) (f : Nat → Int32) (k : Nat) : gi (sd N a f) b k = gi N b k := by simp [gi, sd, h]
theorem si_sd (N : XN) (a : Nat) (f : Nat → Int32) (k : Nat) (v : Int32) : si (sd N a f) a k v = sd N a (upd f k v) := by
  refine Prod.ext ?_ rfl
  funext b j
  by_cases hb : b = a
  · subst hb
    simp [si, sd, upd]
  · simp [si, sd, hb]
theorem upd_s (f : Nat → Int32) (k : Nat) (v : Int32) : upd f k v k = v := pk_us
theorem upd_n {f : Nat → Int32} {k j : Nat} {v : Int32} (h : j ≠ k) : upd f k v j = f j := pk_un h
def cntF (p : Nat → Bool) (i : Nat) : Nat → Nat
  | 0 => 0
  | c + 1 => (if p i then 1 else 0) + cntF p (i + 1) c
def cnt (p : Nat → Bool) (n : Nat) : Nat := cntF p 0 n
def fo {σ : Type} (f : Nat → σ → σ) (i : Nat) : Nat → σ → σ
  | 0, s => s
  | c + 1, s => fo f (i + 1) c (f i s)
theorem cntF_le (p : Nat → Bool) (i c : Nat) : cntF p i c ≤ c := by
  induction c generalizing i with
  | zero => exact Nat.le_refl 0
  | succ c ih =>
    have h := ih (i + 1)
    unfold cntF
    split <;> omega
abbrev XD : Type := Nat → Int32
def nH (d : XD) : Nat := (d 1).toNatClampNeg
def nL (d : XD) : Nat := (d 2).toNatClampNeg
def nR (d : XD) : Nat := (d 3).toNatClampNeg
def nT (d : XD) (l : Nat) : Nat := (d (51 + 7 * l)).toNatClampNeg
def sOpen (d : XD) (r : Nat) : Bool := decide (d (107 + 8 * r) = nI 1)
def sHolds (d : XD) (h : Int32) (r : Nat) : Bool := sOpen d r && decide (d (108 + 8 * r) = h)
def sHeld (d : XD) (h : Int32) : Nat := cnt (sHolds d h) (nR d)
section XM1
variable {Y : XY} {m : Nat} {N : XN} {d : XD}
end XM1

