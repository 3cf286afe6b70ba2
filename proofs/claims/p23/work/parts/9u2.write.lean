/-! STRINGS, NUMBERS: written -/
/-- s is a string of these bytes, apart from the object at B -/
def SR (Y : XY) (N : XN) (B s : Nat) (ws : List Nat) : Prop := (isS (kc Y s) = true ∧ (s < B ∨ B + 908 ≤ s)) ∧ ∃ v, (gr Y s 0 = some v ∧ isB (kc Y v) = true ∧ kn Y v = ws.length ∧ (v < B ∨ B + 908 ≤ v)) ∧ gi N s 1 = nI 0 ∧ (∀ j, j < ws.length → gi N v j = nI (gd ws j)) ∧ (∀ j, gd ws j < 128) ∧ ws.length ≤ 400
theorem ch_all : ∀ b, b < 128 → ((nI b &&& nI 255).toUInt32 % 65536).toInt32 = nI b ∧ xch (nI b) = true := by decide +kernel
theorem shr0 {n : Nat} (h : n < 2 ^ 31) : nI n >>> (nI 0 &&& nI 31) = nI n := by
  have e : (nI 0 &&& nI 31 : Int32) = nI 0 := by decide
  rw [e, pk_shrN h (nI 0) 0 (by decide)]
  congr 1
  omega
theorem xby0 : xby (nI 0) = true := by decide
theorem take_gd {ws : List Nat} {j : Nat} (h : j < ws.length) : ws.take (j + 1) = ws.take j ++ [gd ws j] := by
  rw [List.take_succ, List.getElem?_eq_getElem h]
  unfold gd
  rw [List.getD_eq_getElem?_getD, List.getElem?_eq_getElem h]
  rfl
section SW
variable {Y : XY} {B bf s : Nat} {N N' : XN} {bs ws : List Nat}
theorem isS_ne {k : Nat} (h : isS k = true) : k = 21 ∨ k = 40 := by
  unfold isS at h
  simp only [Bool.or_eq_true, beq_iff_eq] at h
  exact h
theorem isB_ne {k : Nat} (h : isB k = true) : k = 2 ∨ k = 41 := by
  unfold isB at h
  simp only [Bool.or_eq_true, beq_iff_eq] at h
  exact h
theorem SR.ft (h : SR Y N B s ws) (kb : kc Y bf = 1) (hf : FT B bf N N') : SR Y N' B s ws := by
  obtain ⟨⟨h1, h2⟩, v, ⟨h3, h4, h5, h6⟩, h7, h8, h9, h10⟩ := h
  have s1 : s ≠ bf := fun e => by have := isS_ne h1; rw [e, kb] at this; omega
  have s2 : v ≠ bf := fun e => by have := isB_ne h4; rw [e, kb] at this; omega
  refine ⟨⟨h1, h2⟩, v, ⟨h3, h4, h5, h6⟩, ?_, fun j hj => ?_, h9, h10⟩
  · unfold gi; rw [hf.1 s s1 (by omega) (by omega)]; exact h7
  · unfold gi; rw [hf.1 v s2 (by omega) (by omega)]; exact h8 j hj
theorem S_length (h : SR Y N B s ws) : f_J0_length_8abf5 Y s N = some (nI ws.length, N) := by
  obtain ⟨⟨h1, h2⟩, v, ⟨h3, h4, h5, h6⟩, h7, h8, h9, h10⟩ := h
  have g := gp_of h3
  unfold f_J0_length_8abf5 f_J0_coder_7d493
  simp (disch := omega) only [↓ck, ↓lt_eq, nI_lit, ofN, ↓reduceIte, pLEt, pLEf, pLTt, pLTf, pEQf, pML, pMG, pMf, pMg, ↓bd_ite, ↓bd2_ite, ↓bd3_ite, ↓bd4_ite, Option.isSome_some, Option.getD_some, h1, h3, g, h4, h5, h7, xby0, shr0]
theorem S_charAt (h : SR Y N B s ws) {j : Nat} (hj : j < ws.length) : f_J0_charAt_5068e Y s (nI j) N = some (nI (gd ws j), N) := by
  obtain ⟨⟨h1, h2⟩, v, ⟨h3, h4, h5, h6⟩, h7, h8, h9, h10⟩ := h
  have g := gp_of h3
  obtain ⟨c1, c2⟩ := ch_all (gd ws j) (h9 j)
  have hv := h8 j hj
  have cj : ¬ nI j < nI 0 ∧ nI j < nI ws.length := ⟨nI_nlt (Nat.zero_le _) (by omega), by rw [pLTt hj (by omega)]; trivial⟩
  have n10 : (nI 1 = nI 0) = False := eq_false (by decide)
  unfold f_J0_charAt_5068e f_J0_isLatin1_aae02 f_J1_charAt_3b067
  simp (disch := omega) only [↓ck, ↓lt_eq, nI_lit, nI_clamp, ofN, xb_nI, ↓reduceIte, pLEt, pLEf, pLTt, pLTf, pEQf, pML, pMG, pMf, pMg, ↓bd_ite, ↓bd2_ite, ↓bd3_ite, ↓bd4_ite, Option.isSome_some, Option.getD_some, h1, h3, g, h4, h5, h7, n10, eq_true cj, not_false_eq_true, and_self, hv, c1, c2]
theorem T_write (h0 : gp Y B 0 = B + 1) (kb : kc Y bf = 1 ∧ kn Y bf = 8) (kB : kc Y B = 17) (nb : bf ≠ B ∧ bf ≠ B + 1) (hl : bs.length + ws.length ≤ 660) (h : TXT N B bf bs) (hs : SR Y N B s ws) : ∃ N', f_L_write Y B bf s N = some N' ∧ TXT N' B bf (bs ++ ws) ∧ FT B bf N N' := by
  have key : ∀ (z j D9 : Nat) (N : XN), j + z = ws.length → z < D9 → TXT N B bf (bs ++ ws.take j) → SR Y N B s ws → ∃ N', f_L_write_2 Y D9 B bf s (nI j) N = some N' ∧ TXT N' B bf (bs ++ ws) ∧ FT B bf N N' := by
    intro z
    induction z with
    | zero =>
      intro j D9 N hj hD ht hs
      obtain ⟨D8, rfl⟩ : ∃ z, D9 = z + 1 := ⟨D9 - 1, by omega⟩
      have hle := hs
      obtain ⟨⟨h1, -⟩, v, -, -, -, -, h10⟩ := hle
      rw [List.take_of_length_le (by omega)] at ht
      refine ⟨N, ?_, ht, FT.rfl'⟩
      rw [f_L_write_2]
      simp (disch := omega) only [↓ck, ↓reduceIte, pLEt, pLEf, pLTt, pLTf, pEQf, pML, pMG, pMf, pMg, ↓bd_ite, ↓bd2_ite, ↓bd3_ite, ↓bd4_ite, Option.isSome_some, Option.getD_some, h1, S_length hs]
    | succ z ih =>
      intro j D9 N hj hD ht hs
      obtain ⟨D8, rfl⟩ : ∃ z, D9 = z + 1 := ⟨D9 - 1, by omega⟩
      have hle := hs
      obtain ⟨⟨h1, -⟩, v, -, -, -, h9, h10⟩ := hle
      obtain ⟨N1, a1, a2, a3⟩ := T_put h0 kb kB nb ht (b := gd ws j) (h9 j) (by rw [List.length_append, List.length_take]; omega)
      rw [List.append_assoc, ← take_gd (by omega)] at a2
      obtain ⟨N', b1, b2, b3⟩ := ih (j + 1) D8 N1 (by omega) (by omega) a2 (hs.ft kb.1 a3)
      refine ⟨N', ?_, b2, a3.trans b3⟩
      rw [f_L_write_2]
      simp (disch := omega) only [↓ck, nI_lit, nI_add, ↓reduceIte, pLEt, pLEf, pLTt, pLTf, pEQf, pML, pMG, pMf, pMg, ↓bd_ite, ↓bd2_ite, ↓bd3_ite, ↓bd4_ite, Option.isSome_some, Option.getD_some, h1, S_length hs, S_charAt hs (show j < ws.length by omega), a1]
      exact b1
  have hle := hs
  obtain ⟨-, v, -, -, -, -, h10⟩ := hle
  exact key ws.length 0 FU N (by omega) (by unfold FU; omega) (by rw [List.take_zero, List.append_nil]; exact h) hs
def dG : Nat → Nat → List Nat
  | 0, _ => []
  | j + 1, n => (48 + n / 10 ^ j % 10) :: dG j n
def nd (n : Nat) : Nat := if n < 10 then 1 else if n < 100 then 2 else if n < 1000 then 3 else 4
/-- a number's digits -/
def NT (n : Nat) : List Nat := dG (nd n) n
theorem dG_len : ∀ (j n : Nat), (dG j n).length = j := by
  intro j
  induction j with
  | zero => intro n; rfl
  | succ j ih => intro n; show (dG j n).length + 1 = j + 1; rw [ih]
theorem NT_len (n : Nat) : (NT n).length ≤ 4 := by
  unfold NT
  rw [dG_len]
  unfold nd
  (repeat' split) <;> omega
theorem T_digits (h0 : gp Y B 0 = B + 1) (kb : kc Y bf = 1 ∧ kn Y bf = 8) (kB : kc Y B = 17) (nb : bf ≠ B ∧ bf ≠ B + 1) {n : Nat} (hn : n < 2 ^ 30) : ∀ (j D9 : Nat) (N : XN) (bs : List Nat), j + 1 < D9 → j ≤ 3 → bs.length + (j + 1) ≤ 660 → TXT N B bf bs → ∃ N', f_L_writeNumber_18 Y D9 B bf (nI n) (nI (10 ^ j)) N = some N' ∧ TXT N' B bf (bs ++ dG (j + 1) n) ∧ FT B bf N N' := by
  intro j
  induction j with
  | zero =>
    intro D9 N bs hD hj hl h
    obtain ⟨D8, rfl⟩ : ∃ z, D9 = z + 2 := ⟨D9 - 2, by omega⟩
    obtain ⟨N1, a1, a2, a3⟩ := T_put h0 kb kB nb h (b := 48 + n / 10 ^ 0 % 10) (by omega) (by omega)
    have e : nI 48 + (nI n / nI 1 - nI n / nI 1 / nI 10 * nI 10) = nI (48 + n / 10 ^ 0 % 10) := by
      rw [pk_div (by omega) (by omega) (by omega), pk_rem (by have := Nat.div_le_self n 1; omega) (by omega) (by omega), nI_add]
    have e1 : nI 1 / nI 10 = nI 0 := by decide
    have e2 : (nI 1 = nI 0) = False := eq_false (by decide)
    refine ⟨N1, ?_, a2, a3⟩
    show f_L_writeNumber_18 Y (D8 + 2) B bf (nI n) (nI 1) N = some N1
    rw [f_L_writeNumber_18]
    simp (disch := omega) only [↓ck, nI_lit, ↓reduceIte, pLEt, pLEf, pLTt, pLTf, pEQf, pML, pMG, pMf, pMg, ↓bd_ite, ↓bd2_ite, ↓bd3_ite, ↓bd4_ite, Option.isSome_some, Option.getD_some, e, e1, e2, not_false_eq_true, a1]
    rw [f_L_writeNumber_18]
    simp (disch := omega) only [nI_lit, ↓reduceIte, pLEt, pLEf, pLTt, pLTf, pEQf, pML, pMG, pMf, pMg]
  | succ j ih =>
    intro D9 N bs hD hj hl h
    obtain ⟨D8, rfl⟩ : ∃ z, D9 = z + 1 := ⟨D9 - 1, by omega⟩
    have hp : 0 < 10 ^ (j + 1) ∧ 10 ^ (j + 1) ≤ 1000 ∧ 10 ^ (j + 1) / 10 = 10 ^ j := by
      rcases (by omega : j = 0 ∨ j = 1 ∨ j = 2) with rfl | rfl | rfl <;> decide
    obtain ⟨N1, a1, a2, a3⟩ := T_put h0 kb kB nb h (b := 48 + n / 10 ^ (j + 1) % 10) (by omega) (by omega)
    obtain ⟨N', b1, b2, b3⟩ := ih D8 N1 (bs ++ [48 + n / 10 ^ (j + 1) % 10]) (by omega) (by omega) (by rw [List.length_append]; show bs.length + 1 + (j + 1) ≤ 660; omega) a2
    have e : nI 48 + (nI n / nI (10 ^ (j + 1)) - nI n / nI (10 ^ (j + 1)) / nI 10 * nI 10) = nI (48 + n / 10 ^ (j + 1) % 10) := by
      rw [pk_div (by omega) hp.1 (by omega), pk_rem (by have := Nat.div_le_self n (10 ^ (j + 1)); omega) (by omega) (by omega), nI_add]
    have e1 : nI (10 ^ (j + 1)) / nI 10 = nI (10 ^ j) := by rw [pk_div (by omega) (by omega) (by omega), hp.2.2]
    obtain ⟨p, hpe⟩ : ∃ p, p = 10 ^ (j + 1) := ⟨_, rfl⟩
    rw [← hpe] at e e1 hp ⊢
    rw [← hpe] at a1
    refine ⟨N', ?_, by rw [List.append_assoc] at b2; exact b2, a3.trans b3⟩
    rw [f_L_writeNumber_18]
    simp (disch := omega) only [↓ck, nI_lit, ↓reduceIte, pLEt, pLEf, pLTt, pLTf, pEQf, pML, pMG, pMf, pMg, ↓bd_ite, ↓bd2_ite, ↓bd3_ite, ↓bd4_ite, Option.isSome_some, Option.getD_some, e, e1, not_false_eq_true, a1]
    exact b1
theorem T_number (h0 : gp Y B 0 = B + 1) (kb : kc Y bf = 1 ∧ kn Y bf = 8) (kB : kc Y B = 17) (nb : bf ≠ B ∧ bf ≠ B + 1) {n : Nat} (hn : n ≤ 9999) (hl : bs.length + 4 ≤ 660) (h : TXT N B bf bs) : ∃ N', f_L_writeNumber Y B bf (nI n) N = some N' ∧ TXT N' B bf (bs ++ NT n) ∧ FT B bf N N' := by
  have hd := fun j (hj : j ≤ 3) => T_digits h0 kb kB nb (n := n) (by omega) j FU N bs (by unfold FU; omega) hj (by omega) h
  have e10 : nI n / nI 10 = nI (n / 10) := pk_div (by omega) (by omega) (by omega)
  have m1 : nI 1 * nI 10 = nI 10 := by decide
  have m2 : nI 10 * nI 10 = nI 100 := by decide
  have m3 : nI 100 * nI 10 = nI 1000 := by decide
  have step : ∀ (D p : Nat), p ≤ n / 10 → f_L_writeNumber_2 Y (D + 1) B bf (nI n) (nI p) N = f_L_writeNumber_2 Y D B bf (nI n) (nI p * nI 10) N := fun D p hp => by
    rw [f_L_writeNumber_2]
    simp (disch := omega) only [nI_lit, ↓reduceIte, pLEt, pLEf, pLTt, pLTf, pEQf, pML, pMG, pMf, pMg, e10]
  have stop : ∀ (D p : Nat), n / 10 < p → p < 2 ^ 31 → f_L_writeNumber_2 Y (D + 1) B bf (nI n) (nI p) N = f_L_writeNumber_18 Y FU B bf (nI n) (nI p) N := fun D p hp hp2 => by
    rw [f_L_writeNumber_2]
    simp (disch := omega) only [nI_lit, ↓reduceIte, pLEt, pLEf, pLTt, pLTf, pEQf, pML, pMG, pMf, pMg, e10]
  unfold f_L_writeNumber NT nd
  show ∃ N', f_L_writeNumber_2 Y (4092 + 1 + 1 + 1 + 1) B bf (nI n) (nI 1) N = some N' ∧ _
  by_cases c1 : n < 10
  · rw [if_pos c1, stop _ 1 (by omega) (by omega)]
    exact hd 0 (by omega)
  · rw [if_neg c1, step _ 1 (by omega), m1]
    by_cases c2 : n < 100
    · rw [if_pos c2, stop _ 10 (by omega) (by omega)]
      exact hd 1 (by omega)
    · rw [if_neg c2, step _ 10 (by omega), m2]
      by_cases c3 : n < 1000
      · rw [if_pos c3, stop _ 100 (by omega) (by omega)]
        exact hd 2 (by omega)
      · rw [if_neg c3, step _ 100 (by omega), m3, stop _ 1000 (by omega) (by omega)]
        exact hd 3 (by omega)
/-- numbers, a space before each -/
def nums : List Nat → List Nat
  | [] => []
  | x :: t => 32 :: (NT x ++ nums t)
theorem nums_len : ∀ xs : List Nat, (nums xs).length ≤ 5 * xs.length := by
  intro xs
  induction xs with
  | nil => exact Nat.le_refl _
  | cons x t ih =>
    have := NT_len x
    show (NT x ++ nums t).length + 1 ≤ 5 * (t.length + 1)
    rw [List.length_append]
    omega
theorem T_numbers {SS SV : Nat → Nat} (h0 : gp Y B 0 = B + 1) (kb : kc Y bf = 1 ∧ kn Y bf = 8) (kB : kc Y B = 17) (nb : bf ≠ B ∧ bf ≠ B + 1) {a : Nat} {xs : List Nat} (ha : kc Y a = 1 ∧ kn Y a = xs.length) (hna : a ≠ bf ∧ (a < B ∨ B + 908 ≤ a)) (hx : ∀ j, j < xs.length → gi N a j = nI (gd xs j) ∧ gd xs j ≤ 9999) (hlx : xs.length ≤ 8) (hl : bs.length + ws.length + 5 * xs.length ≤ 655) (h : TXT N B bf bs) (hs : SR Y N B s ws) (h13 : SR Y N B (SS 13) [32]) : ∃ N', f_L_writeNumbers SS SV Y B bf s a N = some N' ∧ TXT N' B bf (bs ++ (ws ++ nums xs)) ∧ FT B bf N N' := by
  have key : ∀ (ys : List Nat) (j D9 : Nat) (N : XN) (bs : List Nat), ys = xs.drop j → j ≤ xs.length → ys.length < D9 → bs.length + 5 * ys.length ≤ 655 → TXT N B bf bs → (∀ j, j < xs.length → gi N a j = nI (gd xs j) ∧ gd xs j ≤ 9999) → SR Y N B (SS 13) [32] → ∃ N', f_L_writeNumbers_17 SS SV Y D9 B bf a (nI xs.length) (nI j) N = some N' ∧ TXT N' B bf (bs ++ nums ys) ∧ FT B bf N N' := by
    intro ys
    induction ys with
    | nil =>
      intro j D9 N bs hy hj hD hl h hx h13
      obtain ⟨D8, rfl⟩ : ∃ z, D9 = z + 1 := ⟨D9 - 1, by omega⟩
      have hj2 : xs.length ≤ j := by
        have := congrArg List.length hy
        rw [List.length_drop] at this
        show xs.length ≤ j
        have e : ([] : List Nat).length = 0 := rfl
        omega
      refine ⟨N, ?_, by show TXT N B bf (bs ++ []); rw [List.append_nil]; exact h, FT.rfl'⟩
      rw [f_L_writeNumbers_17]
      simp (disch := omega) only [↓reduceIte, pLEt, pLEf, pLTt, pLTf, pEQf, pML, pMG, pMf, pMg]
    | cons y t ih =>
      intro j D9 N bs hy hj hD hl h hx h13
      obtain ⟨D8, rfl⟩ : ∃ z, D9 = z + 1 := ⟨D9 - 1, by omega⟩
      have hlen : t.length + 1 = xs.length - j := by
        have := congrArg List.length hy
        rw [List.length_drop] at this
        exact this
      have hjl : j < xs.length := by omega
      have hyx : y = gd xs j ∧ t = xs.drop (j + 1) := by
        rw [List.drop_eq_getElem_cons hjl] at hy
        obtain ⟨e1, e2⟩ := List.cons.inj hy
        refine ⟨?_, e2⟩
        unfold gd
        rw [List.getD_eq_getElem?_getD, List.getElem?_eq_getElem hjl]
        exact e1
      obtain ⟨hv, h99⟩ := hx j hjl
      rw [← hyx.1] at hv h99
      have hlc : (y :: t).length = t.length + 1 := rfl
      obtain ⟨N1, a1, a2, a3⟩ := T_write h0 kb kB nb (ws := [32]) (by show bs.length + 1 ≤ 660; omega) h h13
      obtain ⟨N2, b1, b2, b3⟩ := T_number h0 kb kB nb h99 (by rw [List.length_append]; show bs.length + 1 + 4 ≤ 660; omega) a2
      have hf := a3.trans b3
      have nt := NT_len y
      obtain ⟨N', c1, c2, c3⟩ := ih (j + 1) D8 N2 (bs ++ [32] ++ NT y) hyx.2 (by omega) (by omega) (by rw [List.length_append, List.length_append]; show bs.length + 1 + (NT y).length + 5 * t.length ≤ 655; omega) b2 (fun i hi => by
        have := hx i hi
        refine ⟨?_, this.2⟩
        unfold gi
        rw [hf.1 a hna.1 (by omega) (by omega)]
        exact this.1) ((h13.ft kb.1 a3).ft kb.1 b3)
      have ea : bs ++ [32] ++ NT y ++ nums t = bs ++ nums (y :: t) := by
        rw [List.append_assoc, List.append_assoc]
        rfl
      rw [ea] at c2
      refine ⟨N', ?_, c2, hf.trans c3⟩
      rw [f_L_writeNumbers_17]
      simp (disch := omega) only [↓ck, ↓lt_eq, nI_lit, nI_clamp, nI_add, xb_nI, ↓reduceIte, pLEt, pLEf, pLTt, pLTf, pEQf, pML, pMG, pMf, pMg, ↓bd_ite, ↓bd2_ite, ↓bd3_ite, ↓bd4_ite, Option.isSome_some, Option.getD_some, ha.1, ha.2, hv, a1, b1]
      exact c1
  obtain ⟨N1, a1, a2, a3⟩ := T_write h0 kb kB nb (by omega) h hs
  have hx1 : ∀ j, j < xs.length → gi N1 a j = nI (gd xs j) ∧ gd xs j ≤ 9999 := fun i hi => by
    have := hx i hi
    refine ⟨?_, this.2⟩
    unfold gi
    rw [a3.1 a hna.1 (by omega) (by omega)]
    exact this.1
  obtain ⟨N', b1, b2, b3⟩ := key xs 0 FU N1 (bs ++ ws) rfl (by omega) (by unfold FU; omega) (by rw [List.length_append]; omega) a2 hx1 (h13.ft kb.1 a3)
  rw [List.append_assoc] at b2
  refine ⟨N', ?_, b2, a3.trans b3⟩
  unfold f_L_writeNumbers
  simp (disch := omega) only [↓ck, nI_lit, ofN, ↓reduceIte, pLEt, pLEf, pLTt, pLTf, pEQf, pML, pMG, pMf, pMg, ↓bd_ite, ↓bd2_ite, ↓bd3_ite, ↓bd4_ite, Option.isSome_some, Option.getD_some, a1, ha.1, ha.2]
  exact b1
end SW
