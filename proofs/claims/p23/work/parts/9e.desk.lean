/-! NODES: a fine's tree, its steps, its text, its value -/
def vcode (v : Nat) : Int32 := if v = 0 then -nI 12 else if v = 1 then -nI 20 else if v = 2 then -nI 21 else -nI 22
def ocode (c : Nat) : Int32 := if c = 2 then -nI 6 else if c = 3 then -nI 7 else if c = 4 then -nI 8 else -nI 9
def dgF : Nat → Nat → List Nat
  | 0, _ => []
  | D + 1, v => if v < 10 then [48 + v] else dgF D (v / 10) ++ [48 + v % 10]
def dgs (v : Nat) : List Nat := dgF 10 v
def vword (v : Nat) : List Nat := if v = 0 then [108, 105, 110, 101] else if v = 1 then [108, 101, 102, 116] else if v = 2 then [104, 101, 108, 100] else [119, 97, 105, 116, 101, 100]
def sgn (c : Nat) : List Nat := if c = 2 then [43] else if c = 3 then [32, 45, 32] else if c = 4 then [42, 32] else [47]
def own (c : Nat) : Nat := if c < 4 then 1 else 2
def brk (o lev : Nat) (s : List Nat) : List Nat := if o < lev then 40 :: (s ++ [41]) else s
/-- a tree of depth under D at the cell a, with its steps, its text at a level, its value -/
def ND : Nat → XY → XN → Nat → List Int32 → (Nat → List Nat) → ((Nat → Int) → Int) → Prop
  | 0, _, _, _, _, _, _ => False
  | D + 1, Y, N, a, ops, tx, vl => kc Y a = 19 ∧ ((∃ v, v ≤ 9999 ∧ gi N a 0 = nI 0 ∧ gi N a 1 = nI v ∧ ops = [nI v] ∧ tx = (fun _ => dgs v) ∧ vl = fun _ => (v : Int)) ∨
      (∃ v, v < 4 ∧ gi N a 0 = nI 1 ∧ gi N a 1 = nI v ∧ ops = [vcode v] ∧ tx = (fun _ => vword v) ∧ vl = fun e => e v) ∨
      (∃ c p r lo ro lt rt lv rv, (2 ≤ c ∧ c ≤ 5) ∧ gi N a 0 = nI c ∧ gr Y a 2 = some p ∧ gr Y a 3 = some r ∧ ND D Y N p lo lt lv ∧ ND D Y N r ro rt rv ∧ ops = lo ++ (ro ++ [ocode c]) ∧ tx = (fun lev => brk (own c) lev (lt (own c) ++ (sgn c ++ rt (own c + 1)))) ∧ vl = fun e => opV (ocode c) (lv e) (rv e)))
theorem ND.k {D : Nat} {Y : XY} {N : XN} {a : Nat} {ops : List Int32} {tx : Nat → List Nat} {vl : (Nat → Int) → Int} (h : ND D Y N a ops tx vl) : kc Y a = 19 := by
  cases D with
  | zero => exact h.elim
  | succ D => exact h.1
theorem ND.keep : ∀ (D : Nat) {Y Y' : XY} {N N' : XN} {a : Nat} {ops : List Int32} {tx : Nat → List Nat} {vl : (Nat → Int) → Int}, (∀ b, kc Y b = 19 → kc Y' b = 19 ∧ (∀ j, gr Y' b j = gr Y b j) ∧ ∀ j, gi N' b j = gi N b j) → ND D Y N a ops tx vl → ND D Y' N' a ops tx vl := by
  intro D
  induction D with
  | zero => intro Y Y' N N' a ops tx vl _ h; exact h
  | succ D ih =>
    intro Y Y' N N' a ops tx vl hk h
    obtain ⟨k1, k2⟩ := h
    obtain ⟨e1, e2, e3⟩ := hk a k1
    refine ⟨e1, ?_⟩
    rcases k2 with ⟨v, a1, a2, a3, a4⟩ | ⟨v, a1, a2, a3, a4⟩ | ⟨c, p, r, lo, ro, lt, rt, lv, rv, a1, a2, a3, a4, a5, a6, a7⟩
    · exact Or.inl ⟨v, a1, (e3 0).trans a2, (e3 1).trans a3, a4⟩
    · exact Or.inr (Or.inl ⟨v, a1, (e3 0).trans a2, (e3 1).trans a3, a4⟩)
    · exact Or.inr (Or.inr ⟨c, p, r, lo, ro, lt, rt, lv, rv, a1, (e3 0).trans a2, (e2 2).trans a3, (e2 3).trans a4, ih hk a5, ih hk a6, a7⟩)
theorem ocode_op {c : Nat} (h : 2 ≤ c ∧ c ≤ 5) : isOp (ocode c) = true := by
  rcases (by omega : c = 2 ∨ c = 3 ∨ c = 4 ∨ c = 5) with e | e | e | e <;> (subst e; decide)
theorem vcode_leaf {v : Nat} (h : v < 4) : isOp (vcode v) = false ∧ isLeaf (vcode v) = true := by
  rcases (by omega : v = 0 ∨ v = 1 ∨ v = 2 ∨ v = 3) with e | e | e | e <;> (subst e; decide)
theorem nI_leaf {v : Nat} (h : v ≤ 9999) : isOp (nI v) = false ∧ isLeaf (nI v) = true := by
  have t := nI_toInt (n := v) (by omega)
  have n6 : nI v ≠ -nI 6 := fun q => by
    have := congrArg Int32.toInt q
    rw [t, show (-nI 6).toInt = -6 by decide] at this
    omega
  have n7 : nI v ≠ -nI 7 := fun q => by
    have := congrArg Int32.toInt q
    rw [t, show (-nI 7).toInt = -7 by decide] at this
    omega
  have n8 : nI v ≠ -nI 8 := fun q => by
    have := congrArg Int32.toInt q
    rw [t, show (-nI 8).toInt = -8 by decide] at this
    omega
  have n9 : nI v ≠ -nI 9 := fun q => by
    have := congrArg Int32.toInt q
    rw [t, show (-nI 9).toInt = -9 by decide] at this
    omega
  refine ⟨?_, ?_⟩
  · unfold isOp
    rw [decide_eq_false n6, decide_eq_false n7, decide_eq_false n8, decide_eq_false n9]
    rfl
  · unfold isLeaf
    rw [decide_eq_true (p := nI 0 ≤ nI v ∧ nI v ≤ nI 9999) ⟨nI_le (Nat.zero_le _) (by omega), nI_le h (by omega)⟩]
    rfl
def envI (li le he wa : Int32) (v : Nat) : Int := if v = 0 then li.toInt else if v = 1 then le.toInt else if v = 2 then he.toInt else wa.toInt
theorem lfV_nI {v : Nat} {li le he wa : Int32} (h : v ≤ 9999) : lfV (nI v) li le he wa = (v : Int) := by
  unfold lfV
  rw [if_pos (nI_le (Nat.zero_le _) (by omega)), nI_toInt (by omega)]
theorem lfV_v {v : Nat} {li le he wa : Int32} (h : v < 4) : lfV (vcode v) li le he wa = envI li le he wa v := by
  rcases (by omega : v = 0 ∨ v = 1 ∨ v = 2 ∨ v = 3) with e | e | e | e
  · subst e; exact v12
  · subst e; exact v20
  · subst e; exact v21
  · subst e; exact v22
/-- its steps leave its value on the stack -/
theorem ND_ev {li le he wa : Int32} : ∀ (D : Nat) {Y : XY} {N : XN} {a : Nat} {ops : List Int32} {tx : Nat → List Nat} {vl : (Nat → Int) → Int}, ND D Y N a ops tx vl → ∀ (rest : List Int32) (h : Nat) (st : Nat → Int), ∃ st', (∀ j, j < h → st' j = st j) ∧ st' h = vl (envI li le he wa) ∧ ev li le he wa (ops ++ rest) h st = ev li le he wa rest (h + 1) st' := by
  intro D
  induction D with
  | zero => intro Y N a ops tx vl h; exact h.elim
  | succ D ih =>
    intro Y N a ops tx vl hn rest h st
    rcases hn.2 with ⟨v, a1, a2, a3, rfl, -, rfl⟩ | ⟨v, a1, a2, a3, rfl, -, rfl⟩ | ⟨c, p, r, lo, ro, lt, rt, lv, rv, a1, a2, a3, a4, a5, a6, rfl, -, rfl⟩
    · refine ⟨fun j => if j = h then lfV (nI v) li le he wa else st j, fun j hj => if_neg (by omega), ?_, ?_⟩
      · show (if h = h then _ else _) = _
        rw [if_pos rfl, lfV_nI a1]
      · rw [List.singleton_append, ev, if_neg (by rw [(nI_leaf a1).1]; decide)]
    · refine ⟨fun j => if j = h then lfV (vcode v) li le he wa else st j, fun j hj => if_neg (by omega), ?_, ?_⟩
      · show (if h = h then _ else _) = _
        rw [if_pos rfl, lfV_v a1]
      · rw [List.singleton_append, ev, if_neg (by rw [(vcode_leaf a1).1]; decide)]
    · obtain ⟨s1, b1, b2, b3⟩ := ih a5 (ro ++ (ocode c :: rest)) h st
      obtain ⟨s2, c1, c2, c3⟩ := ih a6 (ocode c :: rest) (h + 1) s1
      refine ⟨fun j => if j = h then opV (ocode c) (s2 h) (s2 (h + 1)) else s2 j, fun j hj => ?_, ?_, ?_⟩
      · show (if j = h then _ else _) = _
        rw [if_neg (by omega), c1 j (by omega), b1 j hj]
      · show (if h = h then _ else _) = _
        rw [if_pos rfl, c1 h (by omega), b2, c2]
      · rw [List.append_assoc, List.append_assoc, List.singleton_append, b3, c3, ev, if_pos (ocode_op a1)]
        rfl
theorem ND_ok : ∀ (D : Nat) {Y : XY} {N : XN} {a : Nat} {ops : List Int32} {tx : Nat → List Nat} {vl : (Nat → Int) → Int}, ND D Y N a ops tx vl → ∀ (rest : List Int32) (h : Nat), h + D ≤ 16 → okS (ops ++ rest) h = okS rest (h + 1) := by
  intro D
  induction D with
  | zero => intro Y N a ops tx vl h; exact h.elim
  | succ D ih =>
    intro Y N a ops tx vl hn rest h hh
    rcases hn.2 with ⟨v, a1, a2, a3, rfl, -, rfl⟩ | ⟨v, a1, a2, a3, rfl, -, rfl⟩ | ⟨c, p, r, lo, ro, lt, rt, lv, rv, a1, a2, a3, a4, a5, a6, rfl, -, rfl⟩
    · rw [List.singleton_append, okS, if_neg (by rw [(nI_leaf a1).1]; decide), if_pos (nI_leaf a1).2, if_pos (by omega)]
    · rw [List.singleton_append, okS, if_neg (by rw [(vcode_leaf a1).1]; decide), if_pos (vcode_leaf a1).2, if_pos (by omega)]
    · rw [List.append_assoc, List.append_assoc, List.singleton_append, ih a5 _ h (by omega), ih a6 _ (h + 1) (by omega), okS, if_pos (ocode_op a1), if_pos (by omega)]
      rfl
theorem ND_len : ∀ (D : Nat) {Y : XY} {N : XN} {a : Nat} {ops : List Int32} {tx : Nat → List Nat} {vl : (Nat → Int) → Int}, ND D Y N a ops tx vl → ops.length + 1 ≤ 2 ^ D := by
  intro D
  induction D with
  | zero => intro Y N a ops tx vl h; exact h.elim
  | succ D ih =>
    intro Y N a ops tx vl hn
    rcases hn.2 with ⟨v, a1, a2, a3, rfl, -, rfl⟩ | ⟨v, a1, a2, a3, rfl, -, rfl⟩ | ⟨c, p, r, lo, ro, lt, rt, lv, rv, a1, a2, a3, a4, a5, a6, rfl, -, rfl⟩
    · have := Nat.one_le_two_pow (n := D)
      rw [Nat.pow_succ]
      simp only [List.length_singleton]
      omega
    · have := Nat.one_le_two_pow (n := D)
      rw [Nat.pow_succ]
      simp only [List.length_singleton]
      omega
    · have h1 := ih a5
      have h2 := ih a6
      rw [Nat.pow_succ]
      simp only [List.length_append, List.length_singleton]
      omega
theorem opV_all {x : Int32} {a b : Int} (h1 : -1000000 ≤ a) (h2 : a ≤ 1000000) : -1000000 ≤ opV x a b ∧ opV x a b ≤ 1000000 := opV_b h1 h2
theorem ND_b : ∀ (D : Nat) {Y : XY} {N : XN} {a : Nat} {ops : List Int32} {tx : Nat → List Nat} {vl : (Nat → Int) → Int}, ND D Y N a ops tx vl → ∀ e : Nat → Int, (∀ j, -1000000 ≤ e j ∧ e j ≤ 1000000) → -1000000 ≤ vl e ∧ vl e ≤ 1000000 := by
  intro D
  induction D with
  | zero => intro Y N a ops tx vl h; exact h.elim
  | succ D ih =>
    intro Y N a ops tx vl hn e he
    rcases hn.2 with ⟨v, a1, a2, a3, rfl, -, rfl⟩ | ⟨v, a1, a2, a3, rfl, -, rfl⟩ | ⟨c, p, r, lo, ro, lt, rt, lv, rv, a1, a2, a3, a4, a5, a6, rfl, -, rfl⟩
    · show -1000000 ≤ (v : Int) ∧ (v : Int) ≤ 1000000
      omega
    · exact he v
    · have h1 := ih a5 e he
      exact opV_all h1.1 h1.2
/-- the fine's value: its steps' -/
theorem ND_sFV {D : Nat} {Y : XY} {N : XN} {a : Nat} {ops : List Int32} {tx : Nat → List Nat} {vl : (Nat → Int) → Int} (h : ND D Y N a ops tx vl) {li le he wa : Int32} : sFV ops li le he wa = fnV (vl (envI li le he wa)) := by
  obtain ⟨s, -, b2, b3⟩ := ND_ev (li := li) (le := le) (he := he) (wa := wa) D h [] 0 (fun _ => le.toInt)
  rw [List.append_nil] at b3
  unfold sFV
  rw [b3, ev, b2]
theorem oI_l {v : Int} (h1 : -1000000 ≤ v) (h2 : v ≤ 1000000) : ((Int32.ofInt v).toInt64).toInt = v := by rw [Int32.toInt_toInt64, oI_toInt h1 h2]
theorem lmm1 : ((-1000000 : Int64)).toInt = -1000000 := by decide
theorem lpp1 : ((1000000 : Int64)).toInt = 1000000 := by decide
theorem cl64 {Y : XY} {M : XN} (w : Int64) : (bd2 (f_J9_min_f86c9 Y 1000000 w M) fun r N1 => bd2 (f_J9_max_f86c9 Y (-1000000) r N1) fun r2 N2 => some (r2, N2)) = some ((Int32.ofInt (clM w.toInt)).toInt64, M) := by
  have hb := clM_b w.toInt
  have e := oI_l hb.1 hb.2
  unfold f_J9_min_f86c9 f_J9_max_f86c9
  rw [bd2_some, bd2_some]
  congr 2
  refine Int64.toInt_inj.mp ?_
  rw [e]
  unfold clM
  by_cases h1 : w < 1000000
  · rw [if_pos h1]
    rw [Int64.lt_iff_toInt_lt, lpp1] at h1
    by_cases h2 : w < -1000000
    · rw [if_pos h2]
      rw [Int64.lt_iff_toInt_lt, lmm1] at h2
      rw [if_pos h2, lmm1]
    · rw [if_neg h2]
      rw [Int64.lt_iff_toInt_lt, lmm1] at h2
      rw [if_neg h2, if_neg (by omega)]
  · rw [if_neg h1]
    rw [Int64.lt_iff_toInt_lt, lpp1] at h1
    rw [if_neg (by decide), lpp1]
    by_cases h3 : 1000000 < w.toInt
    · rw [if_neg (by omega), if_pos h3]
    · rw [if_neg (by omega), if_neg h3]; omega
theorem cmp0 (x : Int32) : (lg_cmp x.toInt64 0 = 0) ↔ x = 0 := by
  have h0 : (0 : Int64).toInt = 0 := by decide
  have hx : x.toInt64.toInt = x.toInt := Int32.toInt_toInt64 x
  have h9 : (0 : Int32).toInt = 0 := by decide
  unfold lg_cmp
  by_cases h1 : (0 : Int64) < x.toInt64
  · rw [if_pos h1]
    rw [Int64.lt_iff_toInt_lt, h0, hx] at h1
    exact ⟨fun h => absurd h (by decide), fun h => by rw [h, h9] at h1; omega⟩
  · rw [if_neg h1]
    by_cases h2 : x.toInt64 = 0
    · rw [if_pos h2]
      have := congrArg Int64.toInt h2
      rw [hx, h0] at this
      exact ⟨fun _ => Int32.toInt_inj.mp (this.trans h9.symm), fun _ => rfl⟩
    · rw [if_neg h2]
      exact ⟨fun h => absurd h (by decide), fun h => absurd (by rw [h]; decide) h2⟩
theorem div64 {x y : Int32} (h : y ≠ 0) (hx : -1000000 ≤ x.toInt) : (x.toInt64 / y.toInt64).toInt = x.toInt.tdiv y.toInt := by
  rw [Int64.toInt_div_of_ne_left _ _ (fun q => by
    have := congrArg Int64.toInt q
    rw [Int32.toInt_toInt64] at this
    have h9 : Int64.minValue.toInt = -9223372036854775808 := by decide
    omega), Int32.toInt_toInt64, Int32.toInt_toInt64]
theorem D_value {v : Nat} {ei : Nat → Int32} (hs : ∀ j, sml (ei j)) : ∀ (D : Nat) {Y : XY} {N : XN} {a : Nat} {ops : List Int32} {tx : Nat → List Nat} {vl : (Nat → Int) → Int}, ND D Y N a ops tx vl → kc Y v = 3 → kn Y v = 4 → (∀ j, j < 4 → gl N v j = (ei j).toInt64) → f_X9_value D Y a v N = some ((Int32.ofInt (vl fun j => (ei j).toInt)).toInt64, N) := by
  intro D
  induction D with
  | zero => intro Y N a ops tx vl h; exact h.elim
  | succ D ih =>
    intro Y N a ops tx vl hn kv nv hg
    have ka := hn.1
    have hb := ND_b (D + 1) hn (fun j => (ei j).toInt) (fun j => hs j)
    rcases hn.2 with ⟨v9, a1, a2, a3, rfl, -, rfl⟩ | ⟨v9, a1, a2, a3, rfl, -, rfl⟩ | ⟨c, p, r, lo, ro, lt, rt, lv, rv, a1, a2, a3, a4, a5, a6, rfl, -, rfl⟩
    · rw [f_X9_value]
      simp (disch := omega) only [↓ck, ↓lt_eq, bd_some, bd2_some, ofN, nI_lit, nI_clamp, nI_add, xb_nI, ↓reduceIte, pLEt, pLEf, pLTt, pLTf, pEQf, pML, pMG, pMf, pMg, ka, a2, a3]
      refine congrArg some (Prod.ext (Int64.toInt_inj.mp ?_) rfl)
      rw [oI_l hb.1 hb.2]
      show (Int32.toInt64 (nI v9)).toInt = (v9 : Int)
      rw [Int32.toInt_toInt64, nI_toInt (by omega)]
    · rw [f_X9_value]
      simp (disch := omega) only [↓ck, ↓lt_eq, bd_some, bd2_some, ofN, nI_lit, nI_clamp, nI_add, xb_nI, ↓reduceIte, pLEt, pLEf, pLTt, pLTf, pEQf, pML, pMG, pMf, pMg, ka, a2, a3, kv, nv, hg]
      refine congrArg some (Prod.ext (Int64.toInt_inj.mp ?_) rfl)
      rw [oI_l hb.1 hb.2]
      exact Int32.toInt_toInt64 _
    · have kp := a5.k
      have kr := a6.k
      have b1 := ND_b D a5 (fun j => (ei j).toInt) (fun j => hs j)
      have b2 := ND_b D a6 (fun j => (ei j).toInt) (fun j => hs j)
      have i1 := ih a5 kv nv hg
      have i2 := ih a6 kv nv hg
      have t1 := oI_toInt b1.1 b1.2
      have t2 := oI_toInt b2.1 b2.2
      have g2 := gp_of a3
      have g3 := gp_of a4
      show f_X9_value (D + 1) Y a v N = some ((Int32.ofInt (opV (ocode c) (lv fun j => (ei j).toInt) (rv fun j => (ei j).toInt))).toInt64, N)
      generalize hA : lv (fun j => (ei j).toInt) = A at *
      generalize hB : rv (fun j => (ei j).toInt) = B at *
      rw [f_X9_value]
      have goal : ∀ w : Int64, clM w.toInt = opV (ocode c) A B → (bd2 (f_J9_min_f86c9 Y 1000000 w N) fun r N1 => bd2 (f_J9_max_f86c9 Y (-1000000) r N1) fun r2 N2 => some (r2, N2)) = some ((Int32.ofInt (opV (ocode c) A B)).toInt64, N) := fun w hw => by rw [cl64, hw]
      have hz : Int32.ofInt B = 0 ↔ B = 0 := ⟨fun q => by rw [q] at t2; exact t2.symm, fun q => by rw [q]; rfl⟩
      rcases (by omega : c = 2 ∨ c = 3 ∨ c = 4 ∨ c = 5) with e | e | e | e
      · subst e
        simp (disch := omega) only [↓ck, ↓lt_eq, bd_some, bd2_some, ofN, nI_lit, nI_clamp, nI_add, xb_nI, ↓reduceIte, pLEt, pLEf, pLTt, pLTf, pEQf, pML, pMG, pMf, pMg, ka, a2, a3, a4, g2, g3, kp, kr, bd2_of i1, bd2_of i2]
        exact goal _ (by rw [lg_i2l_add, t1, t2]; exact o6.symm)
      · subst e
        simp (disch := omega) only [↓ck, ↓lt_eq, bd_some, bd2_some, ofN, nI_lit, nI_clamp, nI_add, xb_nI, ↓reduceIte, pLEt, pLEf, pLTt, pLTf, pEQf, pML, pMG, pMf, pMg, ka, a2, a3, a4, g2, g3, kp, kr, bd2_of i1, bd2_of i2]
        exact goal _ (by rw [lg_i2l_sub, t1, t2]; exact o7.symm)
      · subst e
        simp (disch := omega) only [↓ck, ↓lt_eq, bd_some, bd2_some, ofN, nI_lit, nI_clamp, nI_add, xb_nI, ↓reduceIte, pLEt, pLEf, pLTt, pLTf, pEQf, pML, pMG, pMf, pMg, ka, a2, a3, a4, g2, g3, kp, kr, bd2_of i1, bd2_of i2]
        exact goal _ (by rw [lg_i2l_mul, t1, t2]; exact o8.symm)
      · subst e
        have e5 : opV (ocode 5) A B = if B = 0 then 0 else A.tdiv B := o9
        by_cases q : B = 0
        · have q1 : (lg_cmp (Int32.ofInt B).toInt64 0 = nI 0) = True := eq_true ((cmp0 _).mpr (hz.mpr q))
          simp (disch := omega) only [↓ck, ↓lt_eq, bd_some, bd2_some, ofN, nI_lit, nI_clamp, nI_add, xb_nI, ↓reduceIte, pLEt, pLEf, pLTt, pLTf, pEQf, pML, pMG, pMf, pMg, ka, a2, a3, a4, g2, g3, kp, kr, bd2_of i1, bd2_of i2, q1]
          exact goal _ (by rw [e5, if_pos q]; decide)
        · have q1 : (lg_cmp (Int32.ofInt B).toInt64 0 = nI 0) = False := eq_false (fun h => q (hz.mp ((cmp0 _).mp h)))
          have q2 : (Int32.ofInt B).toInt64 ≠ 0 := fun h => q (hz.mp ((cmp0 _).mp (by rw [h]; decide)))
          have q3 : ((Int32.ofInt B).toInt64 = 0) = False := eq_false q2
          obtain ⟨u1, u2⟩ := tdiv_b (b := B) b1.1 b1.2
          simp (disch := omega) only [↓ck, ↓lt_eq, bd_some, bd2_some, ofN, nI_lit, nI_clamp, nI_add, xb_nI, ↓reduceIte, pLEt, pLEf, pLTt, pLTf, pEQf, pML, pMG, pMf, pMg, ka, a2, a3, a4, g2, g3, kp, kr, bd2_of i1, bd2_of i2, q1, q3, not_false_eq_true]
          exact goal _ (by rw [e5, if_neg q, div64 (fun h => q (hz.mp h)) (by rw [t1]; exact b1.1), t1, t2, clM_id u1 u2])
theorem fine64 {Y : XY} {M : XN} (x : Int32) : (bd2 (f_J9_min_f86c9 Y 9999 x.toInt64 M) fun r N1 => bd2 (f_J9_max_f86c9 Y 0 r N1) fun r2 N2 => some (Int64.toInt32 r2, N2)) = some (fnV x.toInt, M) := by
  have h0 : (0 : Int64).toInt = 0 := by decide
  have h9 : (9999 : Int64).toInt = 9999 := by decide
  have hx : x.toInt64.toInt = x.toInt := Int32.toInt_toInt64 x
  unfold f_J9_min_f86c9 f_J9_max_f86c9
  rw [bd2_some, bd2_some]
  congr 2
  unfold fnV
  by_cases h1 : x.toInt64 < 9999
  · rw [if_pos h1]
    rw [Int64.lt_iff_toInt_lt, h9, hx] at h1
    by_cases h2 : x.toInt64 < 0
    · rw [if_pos h2]
      rw [Int64.lt_iff_toInt_lt, h0, hx] at h2
      rw [if_pos h2]; decide
    · rw [if_neg h2]
      rw [Int64.lt_iff_toInt_lt, h0, hx] at h2
      rw [if_neg h2, if_neg (by omega), l2i_of, hx]
  · rw [if_neg h1]
    rw [Int64.lt_iff_toInt_lt, h9, hx] at h1
    rw [if_neg (by decide)]
    by_cases h3 : 9999 < x.toInt
    · rw [if_neg (by omega), if_pos h3]; decide
    · rw [if_neg (by omega), if_neg h3, l2i_of, h9, show x.toInt = 9999 by omega]
