/-! PRUNED: of whole -/
theorem cntF_same {p q : Nat → Bool} : ∀ {c i : Nat}, (∀ j, i ≤ j → j < i + c → p j = q j) → cntF p i c = cntF q i c := by
  intro c
  induction c with
  | zero => intro i _; rfl
  | succ c ih =>
    intro i h
    unfold cntF
    rw [h i (Nat.le_refl i) (by omega), ih (fun j h1 h2 => h j (by omega) (by omega))]
theorem cntF_one {p q : Nat → Bool} {r : Nat} (h : ∀ j, j ≠ r → p j = q j) : ∀ {c i : Nat}, i ≤ r → r < i + c → cntF p i c + (if q r then 1 else 0) = cntF q i c + (if p r then 1 else 0) := by
  intro c
  induction c with
  | zero => intro i h1 h2; omega
  | succ c ih =>
    intro i h1 h2
    unfold cntF
    by_cases e : i = r
    · subst e
      rw [cntF_same (p := p) (q := q) (fun j h3 _ => h j (by omega))]
      omega
    · have := ih (i := i + 1) (by omega) (by omega)
      rw [h i e]
      omega
def sTPF (d : XD) (l : Nat) (h : Int32) (k : Nat) : Nat → Option Nat
  | 0 => none
  | c + 1 => if d (52 + 7 * l + k) = h then some k else sTPF d l h (k + 1) c
def sTP (d : XD) (l : Nat) (h : Int32) : Option Nat := sTPF d l h 0 (nT d l)
def pI (o : Option Nat) : Int32 := match o with
  | none => -1
  | some k => nI k
def sLeave (d : XD) (h : Int32) (l : Nat) : XD := match sTP d l h with
  | none => d
  | some k => fo (fun j e => upd e (52 + 7 * l + j) (e (53 + 7 * l + j))) k (nT d l - 1 - k) (upd d (51 + 7 * l) (d (51 + 7 * l) - 1))
def sBestF (d : XD) (l : Nat) (k : Nat) (s : Int32 × Int32) : Int32 × Int32 :=
  if s.1 = -1 then (d (52 + 7 * l + k), nI (sHeld d (d (52 + 7 * l + k)))) else if nI (sHeld d (d (52 + 7 * l + k))) < s.2 then (d (52 + 7 * l + k), nI (sHeld d (d (52 + 7 * l + k)))) else s
def sBest (d : XD) (l : Nat) : Int32 := (fo (sBestF d l) 0 (nT d l) (-1, 0)).1
/-- the line of request r -/
def lR (d : XD) (r : Nat) : Nat := (d (104 + 8 * r)).toNatClampNeg
def sAssign (d : XD) (r : Nat) : XD := upd (upd (upd d (108 + 8 * r) (-1)) (108 + 8 * r) (sBest (upd d (108 + 8 * r) (-1)) (lR d r))) (111 + 8 * r) (d 0)
def sRaisedP (d : XD) (l : Int32) (r : Nat) : Bool := decide (d (104 + 8 * r) = l) && (!decide (d (107 + 8 * r) = nI 0) && !decide (d (105 + 8 * r) ≤ d 0 - d 6))
def sRaised (d : XD) (l : Int32) : Nat := cnt (sRaisedP d l) (nR d)
def mn (a b : Int32) : Int32 := if b ≤ a then b else a
def sRaiseNow (d : XD) (r : Nat) : XD :=
  if nI (sRaised d (d (104 + 8 * r)) + 1) ≤ d (49 + 7 * lR d r) then sAssign (upd (upd d (107 + 8 * r) (nI 1)) (109 + 8 * r) (d (106 + 8 * r))) r
  else upd (upd (upd (upd d (50 + 7 * lR d r) (d (50 + 7 * lR d r) - mn (d 7) (d (50 + 7 * lR d r)))) 4 (d 4 + mn (d 7) (d (50 + 7 * lR d r)))) (107 + 8 * r) (nI 3)) (110 + 8 * r) (d 0)
def sLeaveAll (d : XD) (h : Int32) : XD := fo (fun l e => sLeave e h l) 0 (nL d) d
def sReAll (d : XD) (h : Int32) : XD := fo (fun r e => if sHolds e h r then sAssign e r else e) 0 (nR d) d
/-- handler h must pay: into its account, to a place of the row -/
def sMustPay (d : XD) (h : Nat) (amount : Int32) (acc to : Nat) : XD :=
  if mn amount (d (12 + 6 * h)) = amount then upd (upd (upd d (12 + 6 * h) (d (12 + 6 * h) - mn amount (d (12 + 6 * h)))) (12 + 6 * h + acc) (d (12 + 6 * h + acc) + mn amount (d (12 + 6 * h)))) to (d to + mn amount (d (12 + 6 * h)))
  else sReAll (sLeaveAll (upd (upd (upd (upd d (12 + 6 * h) (d (12 + 6 * h) - mn amount (d (12 + 6 * h)))) (12 + 6 * h + acc) (d (12 + 6 * h + acc) + mn amount (d (12 + 6 * h)))) to (d to + mn amount (d (12 + 6 * h)))) (14 + 6 * h) (nI 1)) (nI h)) (nI h)
def sAnswer (d : XD) (r h : Nat) : XD :=
  upd (upd (upd (upd (upd (upd d (107 + 8 * r) (nI 2)) (110 + 8 * r) (d 0)) (108 + 8 * r) (-1)) (50 + 7 * lR d r) (d (50 + 7 * lR d r) - mn (d (50 + 7 * lR d r)) (d 9 * d (106 + 8 * r)))) (12 + 6 * h) (d (12 + 6 * h) + mn (d (50 + 7 * lR d r)) (d 9 * d (106 + 8 * r)))) (17 + 6 * h) (d (17 + 6 * h) + mn (d (50 + 7 * lR d r)) (d 9 * d (106 + 8 * r)))
def sWorkF (h : Nat) (r : Nat) (s : Int32 × XD) : Int32 × XD :=
  if s.1 ≤ 0 then s else if sHolds s.2 (nI h) r then
    (s.1 - mn s.1 (s.2 (109 + 8 * r)), if s.2 (109 + 8 * r) - mn s.1 (s.2 (109 + 8 * r)) = nI 0 then sAnswer (upd (upd s.2 (109 + 8 * r) (s.2 (109 + 8 * r) - mn s.1 (s.2 (109 + 8 * r)))) (111 + 8 * r) (s.2 0)) r h
      else upd (upd s.2 (109 + 8 * r) (s.2 (109 + 8 * r) - mn s.1 (s.2 (109 + 8 * r)))) (111 + 8 * r) (s.2 0))
  else s
def sWork (d : XD) (h : Nat) : XD := (fo (sWorkF h) 0 (nR d) (d (13 + 6 * h), d)).2
section XM2
variable {Y : XY} {m : Nat} {N : XN} {d : XD}
end XM2

