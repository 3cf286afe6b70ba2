/-! PRUNED: of whole -/
def sw (N : XN) (w : Nat) (c : Nat → Nat → Int32) : XN := (fun b j => if w ≤ b ∧ b < w + 90 then c (b - w) j else N.1 b j, N.2)
def up2 (c : Nat → Nat → Int32) (o k : Nat) (v : Int32) : Nat → Nat → Int32 := fun b j => if b = o ∧ j = k then v else c b j
theorem gi_sw (N : XN) (w : Nat) (c : Nat → Nat → Int32) {o : Nat} (k : Nat) (h : o < 90) : gi (sw N w c) (w + o) k = c o k := by
  show (if w ≤ w + o ∧ w + o < w + 90 then c (w + o - w) k else N.1 (w + o) k) = c o k
  rw [if_pos ⟨by omega, by omega⟩, Nat.add_sub_cancel_left]
theorem gi_sw0 (N : XN) (w : Nat) (c : Nat → Nat → Int32) (k : Nat) : gi (sw N w c) w k = c 0 k := gi_sw N w c (o := 0) k (by omega)
theorem gi_sw_ne {N : XN} {w a : Nat} {c : Nat → Nat → Int32} (k : Nat) (h : a < w ∨ w + 90 ≤ a) : gi (sw N w c) a k = gi N a k := by
  show (if w ≤ a ∧ a < w + 90 then c (a - w) k else N.1 a k) = N.1 a k
  rw [if_neg (by omega)]
theorem si_sw (N : XN) (w : Nat) (c : Nat → Nat → Int32) {o : Nat} (k : Nat) (v : Int32) (h : o < 90) : si (sw N w c) (w + o) k v = sw N w (up2 c o k v) := by
  refine Prod.ext ?_ rfl
  funext b j
  show (if b = w + o ∧ j = k then v else if w ≤ b ∧ b < w + 90 then c (b - w) j else N.1 b j) = (if w ≤ b ∧ b < w + 90 then (if b - w = o ∧ j = k then v else c (b - w) j) else N.1 b j)
  by_cases h1 : w ≤ b ∧ b < w + 90
  · rw [if_pos h1, if_pos h1]
    by_cases h2 : b = w + o ∧ j = k
    · rw [if_pos h2, if_pos ⟨by omega, h2.2⟩]
    · rw [if_neg h2, if_neg (fun q => h2 ⟨by omega, q.2⟩)]
  · rw [if_neg h1, if_neg h1, if_neg (fun q => h1 (by omega))]
theorem si_sw0 (N : XN) (w : Nat) (c : Nat → Nat → Int32) (k : Nat) (v : Int32) : si (sw N w c) w k v = sw N w (up2 c 0 k v) := si_sw N w c (o := 0) k v (by omega)
theorem sw_self (N : XN) (w : Nat) : sw N w (fun o j => N.1 (w + o) j) = N := by
  refine Prod.ext ?_ rfl
  funext b j
  show (if w ≤ b ∧ b < w + 90 then N.1 (w + (b - w)) j else N.1 b j) = N.1 b j
  split
  · rw [show w + (b - w) = b by omega]
  · rfl
theorem up2_s (c : Nat → Nat → Int32) (o k : Nat) (v : Int32) : up2 c o k v o k = v := if_pos ⟨rfl, rfl⟩
theorem up2_n (c : Nat → Nat → Int32) {o k : Nat} (v : Int32) {b j : Nat} (h : b ≠ o ∨ j ≠ k) : up2 c o k v b j = c b j := if_neg (by omega)
theorem up2_self (c : Nat → Nat → Int32) (o k : Nat) : up2 c o k (c o k) = c := by
  funext b j
  show (if b = o ∧ j = k then c o k else c b j) = c b j
  split
  · rename_i h; rw [h.1, h.2]
  · rfl
/-- the references of a world -/
def WY (Y : XY) (w : Nat) : Prop := (gp Y w 0 = w + 1 ∧ gp Y w 2 = w + 2 ∧ gp Y w 4 = w + 3 ∧ gp Y w 13 = w + 4 ∧ gp Y w 14 = w + 7) ∧ (gp Y (w + 4) 0 = w + 5 ∧ gp Y (w + 4) 2 = w + 6) ∧ (∀ i, i < 6 → gp Y (w + 1) i = w + (8 + i)) ∧ (∀ i, i < 8 → gp Y (w + 2) i = w + (14 + 2 * i)) ∧ (∀ i, i < 8 → gp Y (w + (14 + 2 * i)) 3 = w + (15 + 2 * i)) ∧ (∀ i, i < 60 → gp Y (w + 3) i = w + (30 + i))
theorem WY.g0 {Y : XY} {w : Nat} (h : WY Y w) : gp Y w 0 = w + 1 := h.1.1
theorem WY.g2 {Y : XY} {w : Nat} (h : WY Y w) : gp Y w 2 = w + 2 := h.1.2.1
theorem WY.g4 {Y : XY} {w : Nat} (h : WY Y w) : gp Y w 4 = w + 3 := h.1.2.2.1
theorem WY.g13 {Y : XY} {w : Nat} (h : WY Y w) : gp Y w 13 = w + 4 := h.1.2.2.2.1
theorem WY.g14 {Y : XY} {w : Nat} (h : WY Y w) : gp Y w 14 = w + 7 := h.1.2.2.2.2
theorem WY.f0 {Y : XY} {w : Nat} (h : WY Y w) : gp Y (w + 4) 0 = w + 5 := h.2.1.1
theorem WY.f2 {Y : XY} {w : Nat} (h : WY Y w) : gp Y (w + 4) 2 = w + 6 := h.2.1.2
theorem WY.h {Y : XY} {w i : Nat} (h : WY Y w) (hi : i < 6) : gp Y (w + 1) i = w + (8 + i) := h.2.2.1 i hi
theorem WY.l {Y : XY} {w i : Nat} (h : WY Y w) (hi : i < 8) : gp Y (w + 2) i = w + (14 + 2 * i) := h.2.2.2.1 i hi
theorem WY.t {Y : XY} {w i : Nat} (h : WY Y w) (hi : i < 8) : gp Y (w + (14 + 2 * i)) 3 = w + (15 + 2 * i) := h.2.2.2.2.1 i hi
theorem WY.r {Y : XY} {w i : Nat} (h : WY Y w) (hi : i < 60) : gp Y (w + 3) i = w + (30 + i) := h.2.2.2.2.2 i hi
theorem lt_eq {α β : Type} (a : α) (f : α → β) : lt a f = f a := (rfl)
section IB
variable {α : Type} {x y : α} {a b : Nat}
theorem iLEt {i9 : Decidable (nI a ≤ nI b)} (h : a ≤ b) (hb : b < 2 ^ 31) : (@ite α (nI a ≤ nI b) i9 x y) = x := if_pos (nI_le h hb)
theorem iLEf {i9 : Decidable (nI a ≤ nI b)} (h : b < a) (ha : a < 2 ^ 31) : (@ite α (nI a ≤ nI b) i9 x y) = y := if_neg (nI_ge h ha)
theorem iLTt {i9 : Decidable (nI a < nI b)} (h : a < b) (hb : b < 2 ^ 31) : (@ite α (nI a < nI b) i9 x y) = x := if_pos (nI_lt h hb)
theorem iLTf {i9 : Decidable (nI a < nI b)} (h : b ≤ a) (ha : a < 2 ^ 31) : (@ite α (nI a < nI b) i9 x y) = y := if_neg (nI_nlt h ha)
theorem iEQt {i9 : Decidable (nI a = nI b)} (h : a = b) : (@ite α (nI a = nI b) i9 x y) = x := if_pos (by rw [h])
theorem iEQf {i9 : Decidable (nI a = nI b)} (h : a ≠ b) (ha : a < 2 ^ 31) (hb : b < 2 ^ 31) : (@ite α (nI a = nI b) i9 x y) = y := if_neg (fun q => h ((nI_eq ha hb).mp q))
theorem m1_lt : -nI 1 < nI 0 := by decide
theorem m1_nle : ¬ nI 0 ≤ -nI 1 := by decide
theorem iM0 {i9 : Decidable (-nI 1 < nI 0)} : (@ite α (-nI 1 < nI 0) i9 x y) = x := if_pos m1_lt
theorem iMf {i9 : Decidable (nI a = -nI 1)} (h : a < 2 ^ 31) : (@ite α (nI a = -nI 1) i9 x y) = y := if_neg (nI_neg1 h)
theorem iMt {i9 : Decidable (-nI 1 = -nI 1)} : (@ite α (-nI 1 = -nI 1) i9 x y) = x := if_pos rfl
theorem pLEt (h : a ≤ b) (hb : b < 2 ^ 31) : (nI a ≤ nI b) = True := eq_true (nI_le h hb)
theorem pLEf (h : b < a) (ha : a < 2 ^ 31) : (nI a ≤ nI b) = False := eq_false (nI_ge h ha)
theorem pLTt (h : a < b) (hb : b < 2 ^ 31) : (nI a < nI b) = True := eq_true (nI_lt h hb)
theorem pLTf (h : b ≤ a) (ha : a < 2 ^ 31) : (nI a < nI b) = False := eq_false (nI_nlt h ha)
theorem pEQf (h : a ≠ b) (ha : a < 2 ^ 31) (hb : b < 2 ^ 31) : (nI a = nI b) = False := eq_false (fun q => h ((nI_eq ha hb).mp q))
theorem pML : (-nI 1 < nI 0) = True := eq_true m1_lt
theorem pMG : (nI 0 ≤ -nI 1) = False := eq_false m1_nle
theorem pMf (h : a < 2 ^ 31) : (nI a = -nI 1) = False := eq_false (nI_neg1 h)
theorem pMg (h : a < 2 ^ 31) : (-nI 1 = nI a) = False := eq_false (neg1_nI h)
end IB
theorem aN1 (a b h : Nat) : a + b * h + 1 = (a + 1) + b * h := by omega
theorem aN2 (a b h : Nat) : a + b * h + 2 = (a + 2) + b * h := by omega
theorem aN3 (a b h : Nat) : a + b * h + 3 = (a + 3) + b * h := by omega
theorem aN4 (a b h : Nat) : a + b * h + 4 = (a + 4) + b * h := by omega
theorem aN5 (a b h : Nat) : a + b * h + 5 = (a + 5) + b * h := by omega
theorem aN6 (a b h : Nat) : a + b * h + 6 = (a + 6) + b * h := by omega
theorem aN7 (a b h : Nat) : a + b * h + 7 = (a + 7) + b * h := by omega
theorem cntF_add (p : Nat → Bool) : ∀ (c i : Nat), cntF p i (c + 1) = cntF p i c + (if p (i + c) then 1 else 0) := by
  intro c
  induction c with
  | zero => intro i; simp [cntF]
  | succ c ih =>
    intro i
    rw [cntF, ih (i + 1), cntF, show i + 1 + c = i + (c + 1) by omega]
    omega
theorem cntF_pos {p : Nat → Bool} : ∀ {c i : Nat}, 0 < cntF p i c → ∃ j, i ≤ j ∧ j < i + c ∧ p j = true := by
  intro c
  induction c with
  | zero => intro i h; exact absurd h (by simp [cntF])
  | succ c ih =>
    intro i h
    unfold cntF at h
    cases hp : p i
    · rw [hp] at h
      obtain ⟨j, h1, h2, h3⟩ := ih (i := i + 1) (by simpa using h)
      exact ⟨j, by omega, by omega, h3⟩
    · exact ⟨i, Nat.le_refl i, by omega, hp⟩
theorem cntF_zero {p : Nat → Bool} {c i : Nat} (h : ∀ j, i ≤ j → j < i + c → p j = false) : cntF p i c = 0 := by
  rcases Nat.eq_zero_or_pos (cntF p i c) with q | q
  · exact q
  · obtain ⟨j, h1, h2, h3⟩ := cntF_pos q
    rw [h j h1 h2] at h3
    cases h3
theorem fo_inv {σ : Type} (f : Nat → σ → σ) (P : σ → Prop) {n : Nat} (hs : ∀ i s, i < n → P s → P (f i s)) : ∀ (c i : Nat) (s : σ), i + c ≤ n → P s → P (fo f i c s) := by
  intro c
  induction c with
  | zero => intro i s _ h; exact h
  | succ c ih => intro i s hi h; exact ih (i + 1) _ (by omega) (hs i s (by omega) h)
def isOp (x : Int32) : Bool := decide (x = -nI 6) || decide (x = -nI 7) || decide (x = -nI 8) || decide (x = -nI 9)
def isLeaf (x : Int32) : Bool := decide (nI 0 ≤ x ∧ x ≤ nI 9999) || decide (x = -nI 12) || decide (x = -nI 20) || decide (x = -nI 21) || decide (x = -nI 22)
/-- the stack's height behind these steps, if it never falls short nor passes 16 -/
def okS : List Int32 → Nat → Option Nat
  | [], h => some h
  | x :: t, h => if isOp x then (if 2 ≤ h then okS t (h - 1) else none) else if isLeaf x then (if h < 16 then okS t (h + 1) else none) else none
def enc (x : Int32) : List Int32 := if x = -nI 6 then [nI 2] else if x = -nI 7 then [nI 3] else if x = -nI 8 then [nI 4] else if x = -nI 9 then [nI 5] else if x = -nI 12 then [nI 1, nI 0] else if x = -nI 20 then [nI 1, nI 1] else if x = -nI 21 then [nI 1, nI 2] else if x = -nI 22 then [nI 1, nI 3] else [nI 0, x]
def encs : List Int32 → List Int32
  | [] => []
  | x :: t => enc x ++ encs t
/-- the model's row holds this code -/
def MC (ops : List Int32) (d : XD) : Prop := (∃ h, okS ops 0 = some h) ∧ ops.length ≤ 700 ∧ (encs ops).length ≤ 1200 ∧ d 11 = nI (encs ops).length ∧ ∀ i, i < (encs ops).length → d (584 + i) = (encs ops).getD i 0
def tM (d : XD) : Nat := (d 0).toNatClampNeg
def RQ (H L t : Nat) (d : XD) (r : Nat) : Prop :=
  (∃ l, l < L ∧ d (104 + 8 * r) = nI l) ∧ (∃ x, x ≤ 99 ∧ d (106 + 8 * r) = nI x) ∧ (∃ x, x ≤ 99 ∧ d (109 + 8 * r) = nI x) ∧ (∃ p, p ≤ t ∧ d (111 + 8 * r) = nI p) ∧
  ((d (107 + 8 * r) = nI 0 ∧ d (108 + 8 * r) = -nI 1 ∧ d (110 + 8 * r) = -nI 1) ∨ (d (107 + 8 * r) = nI 1 ∧ (d (108 + 8 * r) = -nI 1 ∨ ∃ h, h < H ∧ d (108 + 8 * r) = nI h) ∧ d (110 + 8 * r) = -nI 1) ∨ ((d (107 + 8 * r) = nI 2 ∨ d (107 + 8 * r) = nI 3) ∧ d (108 + 8 * r) = -nI 1 ∧ ∃ e, e < 2 ^ 31 ∧ d (110 + 8 * r) = nI e))
def LN (H : Nat) (d : XD) (l : Nat) : Prop := d (51 + 7 * l) = nI (nT d l) ∧ nT d l ≤ 3 ∧ (∀ k, k < nT d l → ∃ h, h < H ∧ d (52 + 7 * l + k) = nI h) ∧ ∀ j k, j < k → k < nT d l → d (52 + 7 * l + j) ≠ d (52 + 7 * l + k)
def DJ (ops : List Int32) (d : XD) : Prop :=
  (d 1 = nI (nH d) ∧ nH d ≤ 6) ∧ (d 2 = nI (nL d) ∧ nL d ≤ 8) ∧ (d 3 = nI (nR d) ∧ nR d ≤ 60) ∧ d 0 = nI (tM d) ∧ (∃ p, 0 < p ∧ p ≤ 99 ∧ d 8 = nI p) ∧ (∀ i, i < nH d → d (14 + 6 * i) = nI 0 ∨ d (14 + 6 * i) = nI 1) ∧ (∀ l, l < nL d → LN (nH d) d l) ∧ (∀ r, r < nR d → RQ (nH d) (nL d) (tM d) d r) ∧ MC ops d
section DJS
variable {ops : List Int32} {d d' : XD}
theorem DJ.H (h : DJ ops d) : d 1 = nI (nH d) := h.1.1
theorem DJ.H6 (h : DJ ops d) : nH d ≤ 6 := h.1.2
theorem DJ.L (h : DJ ops d) : d 2 = nI (nL d) := h.2.1.1
theorem DJ.L8 (h : DJ ops d) : nL d ≤ 8 := h.2.1.2
theorem DJ.R (h : DJ ops d) : d 3 = nI (nR d) := h.2.2.1.1
theorem DJ.R60 (h : DJ ops d) : nR d ≤ 60 := h.2.2.1.2
theorem DJ.T (h : DJ ops d) : d 0 = nI (tM d) := h.2.2.2.1
theorem DJ.P (h : DJ ops d) : ∃ p, 0 < p ∧ p ≤ 99 ∧ d 8 = nI p := h.2.2.2.2.1
theorem DJ.B (h : DJ ops d) : ∀ i, i < nH d → d (14 + 6 * i) = nI 0 ∨ d (14 + 6 * i) = nI 1 := h.2.2.2.2.2.1
theorem DJ.ln (h : DJ ops d) : ∀ l, l < nL d → LN (nH d) d l := h.2.2.2.2.2.2.1
theorem DJ.rq (h : DJ ops d) : ∀ r, r < nR d → RQ (nH d) (nL d) (tM d) d r := h.2.2.2.2.2.2.2.1
theorem DJ.C (h : DJ ops d) : MC ops d := h.2.2.2.2.2.2.2.2
theorem DJ.line (h : DJ ops d) {r : Nat} (hr : r < nR d) : lR d r < nL d ∧ d (104 + 8 * r) = nI (lR d r) := by
  obtain ⟨l, h1, h2⟩ := (h.rq r hr).1
  have h8 := h.L8
  have : lR d r = l := by unfold lR; rw [h2]; exact nI_clamp (by omega)
  rw [this]
  exact ⟨h1, h2⟩
theorem tM_lt (d : XD) : tM d < 2 ^ 31 := by
  unfold tM
  have h1 := Int32.toInt_lt (d 0)
  show (d 0).toInt.toNat < 2 ^ 31
  omega
theorem RQ_same {H L t : Nat} {r : Nat} (hs : ∀ k, k < 8 → d' (104 + 8 * r + k) = d (104 + 8 * r + k)) (h : RQ H L t d r) : RQ H L t d' r := by
  have e0 := hs 0 (by omega)
  have e2 := hs 2 (by omega)
  have e3 := hs 3 (by omega)
  have e4 := hs 4 (by omega)
  have e5 := hs 5 (by omega)
  have e6 := hs 6 (by omega)
  have e7 := hs 7 (by omega)
  simp only [aN1, aN2, aN3, aN4, aN5, aN6, aN7, Nat.add_zero, Nat.reduceAdd] at e0 e2 e3 e4 e5 e6 e7
  unfold RQ
  rw [e0, e2, e3, e4, e5, e6, e7]
  exact h
theorem RQ_time {H L t t' : Nat} {r : Nat} (ht : t ≤ t') (h : RQ H L t d r) : RQ H L t' d r := by
  obtain ⟨h1, h2, h3, ⟨p, h4, h5⟩, h6⟩ := h
  exact ⟨h1, h2, h3, ⟨p, by omega, h5⟩, h6⟩
theorem nT_same {l : Nat} (hs : d' (51 + 7 * l) = d (51 + 7 * l)) : nT d' l = nT d l := by unfold nT; rw [hs]
theorem LN_same {H : Nat} {l : Nat} (hs : ∀ k, k < 4 → d' (51 + 7 * l + k) = d (51 + 7 * l + k)) (h : LN H d l) : LN H d' l := by
  have e0 : d' (51 + 7 * l) = d (51 + 7 * l) := hs 0 (by omega)
  have et := nT_same e0
  obtain ⟨h1, h2, h3, h4⟩ := h
  have ek : ∀ k, k < nT d l → d' (52 + 7 * l + k) = d (52 + 7 * l + k) := by
    intro k hk
    have := hs (k + 1) (by omega)
    rw [show 51 + 7 * l + (k + 1) = 52 + 7 * l + k by omega] at this
    exact this
  unfold LN
  rw [et, e0]
  refine ⟨h1, h2, fun k hk => by rw [ek k hk]; exact h3 k hk, fun j k hj hk => by rw [ek k hk, ek j (by omega)]; exact h4 j k hj hk⟩
/-- places that no condition speaks of -/
def FX (j : Nat) : Prop := j = 4 ∨ j = 5 ∨ j = 6 ∨ j = 7 ∨ j = 9 ∨ j = 10 ∨ (12 ≤ j ∧ j < 48 ∧ (j - 12) % 6 ≠ 2) ∨ (48 ≤ j ∧ j < 104 ∧ (j - 48) % 7 < 3)
theorem nH_same (h : d' 1 = d 1) : nH d' = nH d := by unfold nH; rw [h]
theorem nL_same (h : d' 2 = d 2) : nL d' = nL d := by unfold nL; rw [h]
theorem nR_same (h : d' 3 = d 3) : nR d' = nR d := by unfold nR; rw [h]
theorem tM_same (h : d' 0 = d 0) : tM d' = tM d := by unfold tM; rw [h]
theorem MC_same (hs : d' 11 = d 11) (h : ∀ i, d' (584 + i) = d (584 + i)) (hc : MC ops d) : MC ops d' := by
  obtain ⟨h1, h2, h3, h4, h5⟩ := hc
  exact ⟨h1, h2, h3, hs.trans h4, fun i hi => (h i).trans (h5 i hi)⟩
theorem FXc {j : Nat} (h : j = 0 ∨ j = 1 ∨ j = 2 ∨ j = 3 ∨ j = 8 ∨ j = 11 ∨ 104 ≤ j) : ¬ FX j := by unfold FX; omega
theorem FXb {i : Nat} (h : i < 6) : ¬ FX (14 + 6 * i) := by unfold FX; omega
theorem FXl {l k : Nat} (h : l < 8) (hk : k < 4) : ¬ FX (51 + 7 * l + k) := by unfold FX; omega
/-- only free places differ -/
theorem DJ_F (hD : DJ ops d) (hs : ∀ j, ¬ FX j → d' j = d j) : DJ ops d' := by
  have h6 := hD.H6
  have h8 := hD.L8
  obtain ⟨a1, a2, a3, a4, a5, a6, a7, a8, a9⟩ := hD
  have q0 := hs 0 (FXc (by omega))
  have q1 := hs 1 (FXc (by omega))
  have q2 := hs 2 (FXc (by omega))
  have q3 := hs 3 (FXc (by omega))
  have q8 := hs 8 (FXc (by omega))
  have q11 := hs 11 (FXc (by omega))
  unfold DJ
  rw [nH_same q1, nL_same q2, nR_same q3, tM_same q0, q0, q1, q2, q3, q8]
  refine ⟨a1, a2, a3, a4, a5, fun i hi => ?_, fun l hl => ?_, fun r hr => ?_, ?_⟩
  · rw [hs _ (FXb (by omega))]; exact a6 i hi
  · exact LN_same (fun k hk => hs _ (FXl (by omega) hk)) (a7 l hl)
  · exact RQ_same (fun k hk => hs _ (FXc (by omega))) (a8 r hr)
  · exact MC_same q11 (fun i => hs _ (FXc (by omega))) a9
/-- request r's places and free ones differ -/
theorem DJ_R (hD : DJ ops d) {r : Nat} (hr : r < nR d) (hs : ∀ j, ¬ FX j → (j < 104 + 8 * r ∨ 112 + 8 * r ≤ j) → d' j = d j) (hq : RQ (nH d) (nL d) (tM d) d' r) : DJ ops d' := by
  have h6 := hD.H6
  have h8 := hD.L8
  have h60 := hD.R60
  obtain ⟨a1, a2, a3, a4, a5, a6, a7, a8, a9⟩ := hD
  have q0 := hs 0 (FXc (by omega)) (by omega)
  have q1 := hs 1 (FXc (by omega)) (by omega)
  have q2 := hs 2 (FXc (by omega)) (by omega)
  have q3 := hs 3 (FXc (by omega)) (by omega)
  have q8 := hs 8 (FXc (by omega)) (by omega)
  have q11 := hs 11 (FXc (by omega)) (by omega)
  unfold DJ
  rw [nH_same q1, nL_same q2, nR_same q3, tM_same q0, q0, q1, q2, q3, q8]
  refine ⟨a1, a2, a3, a4, a5, fun i hi => ?_, fun l hl => ?_, fun r' hr' => ?_, ?_⟩
  · rw [hs _ (FXb (by omega)) (by omega)]; exact a6 i hi
  · exact LN_same (fun k hk => hs _ (FXl (by omega) hk) (by omega)) (a7 l hl)
  · by_cases e : r' = r
    · rw [e]; exact hq
    · exact RQ_same (fun k hk => hs _ (FXc (by omega)) (by omega)) (a8 r' hr')
  · exact MC_same q11 (fun i => hs _ (FXc (by omega)) (by omega)) a9
/-- line l's places and free ones differ -/
theorem DJ_L (hD : DJ ops d) {l : Nat} (hl : l < nL d) (hs : ∀ j, ¬ FX j → (j < 51 + 7 * l ∨ 55 + 7 * l ≤ j) → d' j = d j) (hq : LN (nH d) d' l) : DJ ops d' := by
  have h6 := hD.H6
  have h8 := hD.L8
  have h60 := hD.R60
  obtain ⟨a1, a2, a3, a4, a5, a6, a7, a8, a9⟩ := hD
  have q0 := hs 0 (FXc (by omega)) (by omega)
  have q1 := hs 1 (FXc (by omega)) (by omega)
  have q2 := hs 2 (FXc (by omega)) (by omega)
  have q3 := hs 3 (FXc (by omega)) (by omega)
  have q8 := hs 8 (FXc (by omega)) (by omega)
  have q11 := hs 11 (FXc (by omega)) (by omega)
  unfold DJ
  rw [nH_same q1, nL_same q2, nR_same q3, tM_same q0, q0, q1, q2, q3, q8]
  refine ⟨a1, a2, a3, a4, a5, fun i hi => ?_, fun l' hl' => ?_, fun r' hr' => ?_, ?_⟩
  · rw [hs _ (FXb (by omega)) (by omega)]; exact a6 i hi
  · by_cases e : l' = l
    · rw [e]; exact hq
    · exact LN_same (fun k hk => hs _ (FXl (by omega) hk) (by omega)) (a7 l' hl')
  · exact RQ_same (fun k hk => hs _ (FXc (by omega)) (by omega)) (a8 r' hr')
  · exact MC_same q11 (fun i => hs _ (FXc (by omega)) (by omega)) a9
/-- handler i's mark and free places differ -/
theorem DJ_H (hD : DJ ops d) {i : Nat} (hi : i < nH d) (hs : ∀ j, ¬ FX j → j ≠ 14 + 6 * i → d' j = d j) (hq : d' (14 + 6 * i) = nI 0 ∨ d' (14 + 6 * i) = nI 1) : DJ ops d' := by
  have h6 := hD.H6
  have h8 := hD.L8
  have h60 := hD.R60
  obtain ⟨a1, a2, a3, a4, a5, a6, a7, a8, a9⟩ := hD
  have q0 := hs 0 (FXc (by omega)) (by omega)
  have q1 := hs 1 (FXc (by omega)) (by omega)
  have q2 := hs 2 (FXc (by omega)) (by omega)
  have q3 := hs 3 (FXc (by omega)) (by omega)
  have q8 := hs 8 (FXc (by omega)) (by omega)
  have q11 := hs 11 (FXc (by omega)) (by omega)
  unfold DJ
  rw [nH_same q1, nL_same q2, nR_same q3, tM_same q0, q0, q1, q2, q3, q8]
  refine ⟨a1, a2, a3, a4, a5, fun i' hi' => ?_, fun l' hl' => ?_, fun r' hr' => ?_, ?_⟩
  · by_cases e : i' = i
    · rw [e]; exact hq
    · rw [hs _ (FXb (by omega)) (by omega)]; exact a6 i' hi'
  · exact LN_same (fun k hk => hs _ (FXl (by omega) hk) (by omega)) (a7 l' hl')
  · exact RQ_same (fun k hk => hs _ (FXc (by omega)) (by omega)) (a8 r' hr')
  · exact MC_same q11 (fun i => hs _ (FXc (by omega)) (by omega)) a9
/-- the time goes on -/
theorem DJ_T (hD : DJ ops d) (hs : ∀ j, j ≠ 0 → d' j = d j) (ht : d' 0 = nI (tM d')) (ht2 : tM d ≤ tM d') : DJ ops d' := by
  obtain ⟨a1, a2, a3, a4, a5, a6, a7, a8, a9⟩ := hD
  have q1 := hs 1 (by omega)
  have q2 := hs 2 (by omega)
  have q3 := hs 3 (by omega)
  have q8 := hs 8 (by omega)
  have q11 := hs 11 (by omega)
  unfold DJ
  rw [nH_same q1, nL_same q2, nR_same q3, q1, q2, q3, q8]
  refine ⟨a1, a2, a3, ht, a5, fun i hi => ?_, fun l hl => ?_, fun r hr => ?_, ?_⟩
  · rw [hs _ (by omega)]; exact a6 i hi
  · exact LN_same (fun k hk => hs _ (by omega)) (a7 l hl)
  · exact RQ_same (fun k hk => hs _ (by omega)) (RQ_time ht2 (a8 r hr))
  · exact MC_same q11 (fun i => hs _ (by omega)) a9
/-- a request more -/
theorem DJ_A (hD : DJ ops d) (h6' : nR d < 60) (hs : ∀ j, ¬ FX j → j ≠ 3 → (j < 104 + 8 * nR d ∨ 112 + 8 * nR d ≤ j) → d' j = d j) (h3 : d' 3 = nI (nR d + 1)) (hq : RQ (nH d) (nL d) (tM d) d' (nR d)) : DJ ops d' := by
  have h6 := hD.H6
  have h8 := hD.L8
  have h60 := hD.R60
  obtain ⟨a1, a2, a3, a4, a5, a6, a7, a8, a9⟩ := hD
  have q0 := hs 0 (FXc (by omega)) (by omega) (by omega)
  have q1 := hs 1 (FXc (by omega)) (by omega) (by omega)
  have q2 := hs 2 (FXc (by omega)) (by omega) (by omega)
  have q8 := hs 8 (FXc (by omega)) (by omega) (by omega)
  have q11 := hs 11 (FXc (by omega)) (by omega) (by omega)
  have e3 : nR d' = nR d + 1 := by unfold nR at h3 ⊢; rw [h3]; exact nI_clamp (by unfold nR at h6'; omega)
  unfold DJ
  rw [nH_same q1, nL_same q2, e3, tM_same q0, q0, q1, q2, h3, q8]
  refine ⟨a1, a2, ⟨rfl, by omega⟩, a4, a5, fun i hi => ?_, fun l hl => ?_, fun r' hr' => ?_, ?_⟩
  · rw [hs _ (FXb (by omega)) (by omega) (by omega)]; exact a6 i hi
  · exact LN_same (fun k hk => hs _ (FXl (by omega) hk) (by omega) (by omega)) (a7 l hl)
  · by_cases e : r' = nR d
    · rw [e]; exact hq
    · exact RQ_same (fun k hk => hs _ (FXc (by omega)) (by omega) (by omega)) (a8 r' (by omega))
  · exact MC_same q11 (fun i => hs _ (FXc (by omega)) (by omega) (by omega)) a9
end DJS
def Wp (k j : Nat) : Prop := (k = 1 ∧ j = 1) ∨ (k = 3 ∧ j = 2) ∨ (k = 5 ∧ j = 3) ∨ (k = 6 ∧ j = 0) ∨ (k = 7 ∧ j = 4) ∨ (k = 8 ∧ j = 5) ∨ (k = 9 ∧ j = 6) ∨ (k = 10 ∧ j = 7) ∨ (k = 11 ∧ j = 8) ∨ (k = 12 ∧ j = 9)
def Hp (k j : Nat) : Prop := (k = 0 ∧ j = 12) ∨ (k = 1 ∧ j = 13) ∨ (k = 2 ∧ j = 14) ∨ (k = 4 ∧ j = 15) ∨ (k = 5 ∧ j = 16) ∨ (k = 6 ∧ j = 17)
def Lp (k j : Nat) : Prop := (k = 0 ∧ j = 48) ∨ (k = 1 ∧ j = 49) ∨ (k = 2 ∧ j = 50) ∨ (k = 4 ∧ j = 51)
def Rp (k j : Nat) : Prop := (k < 6 ∧ j = 104 + k) ∨ (k = 6 ∧ j = 111) ∨ (k = 7 ∧ j = 110)
theorem Wp.b {k j : Nat} (h : Wp k j) : j ≤ 9 ∧ 1 ≤ k ∧ k ≤ 12 := by unfold Wp at h; omega
theorem Hp.b {k j : Nat} (h : Hp k j) : 12 ≤ j ∧ j ≤ 17 ∧ k ≤ 6 ∧ k ≠ 3 := by unfold Hp at h; omega
theorem Lp.b {k j : Nat} (h : Lp k j) : 48 ≤ j ∧ j ≤ 51 ∧ k ≤ 4 ∧ k ≠ 3 := by unfold Lp at h; omega
theorem Rp.b {k j : Nat} (h : Rp k j) : 104 ≤ j ∧ j ≤ 111 ∧ k ≤ 7 := by unfold Rp at h; omega
theorem Wp.i {k j k' j' : Nat} (h : Wp k j) (h' : Wp k' j') : k = k' ↔ j = j' := by unfold Wp at h h'; omega
theorem Hp.i {k j k' j' : Nat} (h : Hp k j) (h' : Hp k' j') : k = k' ↔ j = j' := by unfold Hp at h h'; omega
theorem Lp.i {k j k' j' : Nat} (h : Lp k j) (h' : Lp k' j') : k = k' ↔ j = j' := by unfold Lp at h h'; omega
theorem Rp.i {k j k' j' : Nat} (h : Rp k j) (h' : Rp k' j') : k = k' ↔ j = j' := by unfold Rp at h h'; omega
/-- a world with H handlers, L lines (T l tenants), R requests shows the row -/
def CD (H L R : Nat) (T : Nat → Nat) (d : XD) (c : Nat → Nat → Int32) : Prop :=
  (∀ k j, Wp k j → c 0 k = d j) ∧ (∀ i k j, i < H → Hp k j → c (8 + i) k = d (j + 6 * i)) ∧ (∀ i k j, i < L → Lp k j → c (14 + 2 * i) k = d (j + 7 * i)) ∧ (∀ i k, i < L → k < 3 → k < T i → c (15 + 2 * i) k = d (52 + 7 * i + k)) ∧ (∀ i k j, i < R → Rp k j → c (30 + i) k = d (j + 8 * i))
section CDS
variable {H L R : Nat} {T : Nat → Nat} {d : XD} {c : Nat → Nat → Int32}
theorem ceq_n {o k j o' k' j' : Nat} {v : Int32} (h : c o' k' = d j') (h1 : o' ≠ o ∨ k' ≠ k) (h2 : j' ≠ j) : up2 c o k v o' k' = upd d j v j' := by rw [up2_n _ _ h1, upd_n h2]; exact h
theorem ceq_s {o k j o' k' j' : Nat} {v : Int32} (h1 : o' = o ∧ k' = k) (h2 : j' = j) : up2 c o k v o' k' = upd d j v j' := by rw [h1.1, h1.2, h2, up2_s, upd_s]
theorem CD.upW (h : CD H L R T d c) (h6 : H ≤ 6) (h8 : L ≤ 8) {k j : Nat} (hp : Wp k j) {v : Int32} : CD H L R T (upd d j v) (up2 c 0 k v) := by
  obtain ⟨w1, w2, w3, w4, w5⟩ := h
  have b := hp.b
  refine ⟨fun k' j' h' => ?_, fun i' k' j' hi' h' => ?_, fun i' k' j' hi' h' => ?_, fun i' k' hi' h3 h' => ?_, fun i' k' j' hi' h' => ?_⟩
  · have b' := h'.i hp
    by_cases q : k' = k
    · exact ceq_s ⟨rfl, q⟩ (b'.mp q)
    · exact ceq_n (w1 k' j' h') (Or.inr q) (fun q2 => q (b'.mpr q2))
  · have b' := h'.b; exact ceq_n (w2 i' k' j' hi' h') (by omega) (by omega)
  · have b' := h'.b; exact ceq_n (w3 i' k' j' hi' h') (by omega) (by omega)
  · exact ceq_n (w4 i' k' hi' h3 h') (by omega) (by omega)
  · have b' := h'.b; exact ceq_n (w5 i' k' j' hi' h') (by omega) (by omega)
theorem CD.upH (h : CD H L R T d c) (h6 : H ≤ 6) (h8 : L ≤ 8) {i k j : Nat} (hi : i < H) (hp : Hp k j) {v : Int32} : CD H L R T (upd d (j + 6 * i) v) (up2 c (8 + i) k v) := by
  obtain ⟨w1, w2, w3, w4, w5⟩ := h
  have b := hp.b
  refine ⟨fun k' j' h' => ?_, fun i' k' j' hi' h' => ?_, fun i' k' j' hi' h' => ?_, fun i' k' hi' h3 h' => ?_, fun i' k' j' hi' h' => ?_⟩
  · have b' := h'.b; exact ceq_n (w1 k' j' h') (by omega) (by omega)
  · have b' := h'.b
    have b'' := h'.i hp
    by_cases q : i' = i ∧ k' = k
    · exact ceq_s ⟨by omega, q.2⟩ (by have := b''.mp q.2; omega)
    · exact ceq_n (w2 i' k' j' hi' h') (by omega) (by omega)
  · have b' := h'.b; exact ceq_n (w3 i' k' j' hi' h') (by omega) (by omega)
  · exact ceq_n (w4 i' k' hi' h3 h') (by omega) (by omega)
  · have b' := h'.b; exact ceq_n (w5 i' k' j' hi' h') (by omega) (by omega)
theorem CD.upL (h : CD H L R T d c) (h6 : H ≤ 6) (h8 : L ≤ 8) {i k j : Nat} (hi : i < L) (hp : Lp k j) {v : Int32} : CD H L R T (upd d (j + 7 * i) v) (up2 c (14 + 2 * i) k v) := by
  obtain ⟨w1, w2, w3, w4, w5⟩ := h
  have b := hp.b
  refine ⟨fun k' j' h' => ?_, fun i' k' j' hi' h' => ?_, fun i' k' j' hi' h' => ?_, fun i' k' hi' h3 h' => ?_, fun i' k' j' hi' h' => ?_⟩
  · have b' := h'.b; exact ceq_n (w1 k' j' h') (by omega) (by omega)
  · have b' := h'.b; exact ceq_n (w2 i' k' j' hi' h') (by omega) (by omega)
  · have b' := h'.b
    have b'' := h'.i hp
    by_cases q : i' = i ∧ k' = k
    · exact ceq_s ⟨by omega, q.2⟩ (by have := b''.mp q.2; omega)
    · exact ceq_n (w3 i' k' j' hi' h') (by omega) (by omega)
  · exact ceq_n (w4 i' k' hi' h3 h') (by omega) (by omega)
  · have b' := h'.b; exact ceq_n (w5 i' k' j' hi' h') (by omega) (by omega)
theorem CD.upR (h : CD H L R T d c) (h6 : H ≤ 6) (h8 : L ≤ 8) {i k j : Nat} (hi : i < R) (hp : Rp k j) {v : Int32} : CD H L R T (upd d (j + 8 * i) v) (up2 c (30 + i) k v) := by
  obtain ⟨w1, w2, w3, w4, w5⟩ := h
  have b := hp.b
  refine ⟨fun k' j' h' => ?_, fun i' k' j' hi' h' => ?_, fun i' k' j' hi' h' => ?_, fun i' k' hi' h3 h' => ?_, fun i' k' j' hi' h' => ?_⟩
  · have b' := h'.b; exact ceq_n (w1 k' j' h') (by omega) (by omega)
  · have b' := h'.b; exact ceq_n (w2 i' k' j' hi' h') (by omega) (by omega)
  · have b' := h'.b; exact ceq_n (w3 i' k' j' hi' h') (by omega) (by omega)
  · exact ceq_n (w4 i' k' hi' h3 h') (by omega) (by omega)
  · have b' := h'.b
    have b'' := h'.i hp
    by_cases q : i' = i ∧ k' = k
    · exact ceq_s ⟨by omega, q.2⟩ (by have := b''.mp q.2; omega)
    · exact ceq_n (w5 i' k' j' hi' h') (by omega) (by omega)
/-- cells that show nothing: counts held, the stack, the payers -/
theorem CD.junk (h : CD H L R T d c) (h6 : H ≤ 6) {o k : Nat} {v : Int32} (hp : (8 ≤ o ∧ o < 14 ∧ k = 3) ∨ (1 ≤ o ∧ o < 8)) : CD H L R T d (up2 c o k v) := by
  obtain ⟨w1, w2, w3, w4, w5⟩ := h
  refine ⟨fun k' j' h' => ?_, fun i' k' j' hi' h' => ?_, fun i' k' j' hi' h' => ?_, fun i' k' hi' h3 h' => ?_, fun i' k' j' hi' h' => ?_⟩
  · rw [up2_n _ _ (by omega)]; exact w1 k' j' h'
  · have b' := h'.b; rw [up2_n _ _ (by omega)]; exact w2 i' k' j' hi' h'
  · have b' := h'.b; rw [up2_n _ _ (by omega)]; exact w3 i' k' j' hi' h'
  · rw [up2_n _ _ (by omega)]; exact w4 i' k' hi' h3 h'
  · have b' := h'.b; rw [up2_n _ _ (by omega)]; exact w5 i' k' j' hi' h'
theorem CD.less (h : CD H L R T d c) {H' L' R' : Nat} {T' : Nat → Nat} (hH : H' ≤ H) (hL : L' ≤ L) (hR : R' ≤ R) (hT : ∀ l, l < L' → T' l ≤ T l) : CD H' L' R' T' d c := by
  obtain ⟨w1, w2, w3, w4, w5⟩ := h
  refine ⟨w1, fun i' k' j' hi' h' => w2 i' k' j' (by omega) h', fun i' k' j' hi' h' => w3 i' k' j' (by omega) h', fun i' k' hi' h3 h' => w4 i' k' (by omega) h3 (by have := hT i' hi'; omega), fun i' k' j' hi' h' => w5 i' k' j' (by omega) h'⟩
theorem CD.w1 (h : CD H L R T d c) : c 0 1 = d 1 := h.1 1 1 (by unfold Wp; decide)
theorem CD.w3 (h : CD H L R T d c) : c 0 3 = d 2 := h.1 3 2 (by unfold Wp; decide)
theorem CD.w5 (h : CD H L R T d c) : c 0 5 = d 3 := h.1 5 3 (by unfold Wp; decide)
theorem CD.w6 (h : CD H L R T d c) : c 0 6 = d 0 := h.1 6 0 (by unfold Wp; decide)
theorem CD.w7 (h : CD H L R T d c) : c 0 7 = d 4 := h.1 7 4 (by unfold Wp; decide)
theorem CD.uw7 (h : CD H L R T d c) (h6 : H ≤ 6) (h8 : L ≤ 8) {v : Int32} : CD H L R T (upd d 4 v) (up2 c 0 7 v) := h.upW h6 h8 (by unfold Wp; decide)
theorem CD.w8 (h : CD H L R T d c) : c 0 8 = d 5 := h.1 8 5 (by unfold Wp; decide)
theorem CD.w9 (h : CD H L R T d c) : c 0 9 = d 6 := h.1 9 6 (by unfold Wp; decide)
theorem CD.w10 (h : CD H L R T d c) : c 0 10 = d 7 := h.1 10 7 (by unfold Wp; decide)
theorem CD.w11 (h : CD H L R T d c) : c 0 11 = d 8 := h.1 11 8 (by unfold Wp; decide)
theorem CD.w12 (h : CD H L R T d c) : c 0 12 = d 9 := h.1 12 9 (by unfold Wp; decide)
theorem CD.h0 (h : CD H L R T d c) {i : Nat} (hi : i < H) : c (8 + i) 0 = d (12 + 6 * i) := h.2.1 i 0 12 hi (by unfold Hp; decide)
theorem CD.uh0 (h : CD H L R T d c) (h6 : H ≤ 6) (h8 : L ≤ 8) {i : Nat} (hi : i < H) {v : Int32} : CD H L R T (upd d (12 + 6 * i) v) (up2 c (8 + i) 0 v) := h.upH h6 h8 hi (by unfold Hp; decide)
theorem CD.h1 (h : CD H L R T d c) {i : Nat} (hi : i < H) : c (8 + i) 1 = d (13 + 6 * i) := h.2.1 i 1 13 hi (by unfold Hp; decide)
theorem CD.h2 (h : CD H L R T d c) {i : Nat} (hi : i < H) : c (8 + i) 2 = d (14 + 6 * i) := h.2.1 i 2 14 hi (by unfold Hp; decide)
theorem CD.h4 (h : CD H L R T d c) {i : Nat} (hi : i < H) : c (8 + i) 4 = d (15 + 6 * i) := h.2.1 i 4 15 hi (by unfold Hp; decide)
theorem CD.h5 (h : CD H L R T d c) {i : Nat} (hi : i < H) : c (8 + i) 5 = d (16 + 6 * i) := h.2.1 i 5 16 hi (by unfold Hp; decide)
theorem CD.h6 (h : CD H L R T d c) {i : Nat} (hi : i < H) : c (8 + i) 6 = d (17 + 6 * i) := h.2.1 i 6 17 hi (by unfold Hp; decide)
theorem CD.uh6 (h : CD H L R T d c) (h6 : H ≤ 6) (h8 : L ≤ 8) {i : Nat} (hi : i < H) {v : Int32} : CD H L R T (upd d (17 + 6 * i) v) (up2 c (8 + i) 6 v) := h.upH h6 h8 hi (by unfold Hp; decide)
theorem CD.l0 (h : CD H L R T d c) {i : Nat} (hi : i < L) : c (14 + 2 * i) 0 = d (48 + 7 * i) := h.2.2.1 i 0 48 hi (by unfold Lp; decide)
theorem CD.l1 (h : CD H L R T d c) {i : Nat} (hi : i < L) : c (14 + 2 * i) 1 = d (49 + 7 * i) := h.2.2.1 i 1 49 hi (by unfold Lp; decide)
theorem CD.l2 (h : CD H L R T d c) {i : Nat} (hi : i < L) : c (14 + 2 * i) 2 = d (50 + 7 * i) := h.2.2.1 i 2 50 hi (by unfold Lp; decide)
theorem CD.ul2 (h : CD H L R T d c) (h6 : H ≤ 6) (h8 : L ≤ 8) {i : Nat} (hi : i < L) {v : Int32} : CD H L R T (upd d (50 + 7 * i) v) (up2 c (14 + 2 * i) 2 v) := h.upL h6 h8 hi (by unfold Lp; decide)
theorem CD.l4 (h : CD H L R T d c) {i : Nat} (hi : i < L) : c (14 + 2 * i) 4 = d (51 + 7 * i) := h.2.2.1 i 4 51 hi (by unfold Lp; decide)
theorem CD.t (h : CD H L R T d c) {i k : Nat} (hi : i < L) (h3 : k < 3) (hk : k < T i) : c (15 + 2 * i) k = d (52 + 7 * i + k) := h.2.2.2.1 i k hi h3 hk
theorem CD.r0 (h : CD H L R T d c) {i : Nat} (hi : i < R) : c (30 + i) 0 = d (104 + 8 * i) := h.2.2.2.2 i 0 104 hi (by unfold Rp; decide)
theorem CD.r1 (h : CD H L R T d c) {i : Nat} (hi : i < R) : c (30 + i) 1 = d (105 + 8 * i) := h.2.2.2.2 i 1 105 hi (by unfold Rp; decide)
theorem CD.r2 (h : CD H L R T d c) {i : Nat} (hi : i < R) : c (30 + i) 2 = d (106 + 8 * i) := h.2.2.2.2 i 2 106 hi (by unfold Rp; decide)
theorem CD.r3 (h : CD H L R T d c) {i : Nat} (hi : i < R) : c (30 + i) 3 = d (107 + 8 * i) := h.2.2.2.2 i 3 107 hi (by unfold Rp; decide)
theorem CD.ur3 (h : CD H L R T d c) (h6 : H ≤ 6) (h8 : L ≤ 8) {i : Nat} (hi : i < R) {v : Int32} : CD H L R T (upd d (107 + 8 * i) v) (up2 c (30 + i) 3 v) := h.upR h6 h8 hi (by unfold Rp; decide)
theorem CD.r4 (h : CD H L R T d c) {i : Nat} (hi : i < R) : c (30 + i) 4 = d (108 + 8 * i) := h.2.2.2.2 i 4 108 hi (by unfold Rp; decide)
theorem CD.ur4 (h : CD H L R T d c) (h6 : H ≤ 6) (h8 : L ≤ 8) {i : Nat} (hi : i < R) {v : Int32} : CD H L R T (upd d (108 + 8 * i) v) (up2 c (30 + i) 4 v) := h.upR h6 h8 hi (by unfold Rp; decide)
theorem CD.r5 (h : CD H L R T d c) {i : Nat} (hi : i < R) : c (30 + i) 5 = d (109 + 8 * i) := h.2.2.2.2 i 5 109 hi (by unfold Rp; decide)
theorem CD.ur5 (h : CD H L R T d c) (h6 : H ≤ 6) (h8 : L ≤ 8) {i : Nat} (hi : i < R) {v : Int32} : CD H L R T (upd d (109 + 8 * i) v) (up2 c (30 + i) 5 v) := h.upR h6 h8 hi (by unfold Rp; decide)
theorem CD.r6 (h : CD H L R T d c) {i : Nat} (hi : i < R) : c (30 + i) 6 = d (111 + 8 * i) := h.2.2.2.2 i 6 111 hi (by unfold Rp; decide)
theorem CD.ur6 (h : CD H L R T d c) (h6 : H ≤ 6) (h8 : L ≤ 8) {i : Nat} (hi : i < R) {v : Int32} : CD H L R T (upd d (111 + 8 * i) v) (up2 c (30 + i) 6 v) := h.upR h6 h8 hi (by unfold Rp; decide)
theorem CD.r7 (h : CD H L R T d c) {i : Nat} (hi : i < R) : c (30 + i) 7 = d (110 + 8 * i) := h.2.2.2.2 i 7 110 hi (by unfold Rp; decide)
theorem CD.ur7 (h : CD H L R T d c) (h6 : H ≤ 6) (h8 : L ≤ 8) {i : Nat} (hi : i < R) {v : Int32} : CD H L R T (upd d (110 + 8 * i) v) (up2 c (30 + i) 7 v) := h.upR h6 h8 hi (by unfold Rp; decide)
theorem CD.jh (h : CD H L R T d c) (h6 : H ≤ 6) {i : Nat} (hi : i < 6) {v : Int32} : CD H L R T d (up2 c (8 + i) 3 v) := h.junk h6 (by omega)
/-- the fine's steps in a world, and its payers -/
def FC (P : Nat → Int32) (ops : List Int32) (c : Nat → Nat → Int32) : Prop := (c 4 1 = nI ops.length ∧ ∀ i, i < ops.length → c 5 i = ops.getD i 0) ∧ ∀ k, k < 3 → c 7 k = P k
theorem FC.same {P : Nat → Int32} {ops : List Int32} {c' : Nat → Nat → Int32} (h : FC P ops c) (h4 : ∀ k, c' 4 k = c 4 k) (h5 : ∀ k, c' 5 k = c 5 k) (h7 : ∀ k, c' 7 k = c 7 k) : FC P ops c' := ⟨⟨by rw [h4]; exact h.1.1, fun i hi => by rw [h5]; exact h.1.2 i hi⟩, fun k hk => by rw [h7]; exact h.2 k hk⟩
theorem FC.up {P : Nat → Int32} {ops : List Int32} (h : FC P ops c) {o k : Nat} {v : Int32} (h4 : o ≠ 4) (h5 : o ≠ 5 ∧ o ≠ 7) : FC P ops (up2 c o k v) := h.same (fun j => up2_n _ v (by omega)) (fun j => up2_n _ v (by omega)) (fun j => up2_n _ v (by omega))
/-- the counts of the requests that the handlers hold -/
def HD (d : XD) (c : Nat → Nat → Int32) : Prop := ∀ i, i < nH d → c (8 + i) 3 = nI (sHeld d (nI i))
def CR (P : Nat → Int32) (ops : List Int32) (d : XD) (c : Nat → Nat → Int32) : Prop := CD (nH d) (nL d) (nR d) (nT d) d c ∧ FC P ops c ∧ HD d c
/-- the counts told by the row that it shows -/
theorem CD.row {d' : XD} {c' : Nat → Nat → Int32} (h : CD (nH d) (nL d) (nR d) (nT d) d' c') (e1 : d' 1 = d 1) (e2 : d' 2 = d 2) (e3 : d' 3 = d 3) (et : ∀ l, l < nL d → d' (51 + 7 * l) = d (51 + 7 * l)) : CD (nH d') (nL d') (nR d') (nT d') d' c' := by
  rw [nH_same e1, nL_same e2, nR_same e3]
  exact h.less (Nat.le_refl _) (Nat.le_refl _) (Nat.le_refl _) (fun l hl => by rw [nT_same (et l hl)]; exact Nat.le_refl _)
end CDS

