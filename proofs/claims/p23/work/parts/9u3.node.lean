/-! A RANDOM NODE -/
def tlN : Nat → Nat
  | 0 => 6
  | d + 1 => 2 * tlN d + 5
theorem dgs_NT {v : Nat} (h : v ≤ 9999) : dgs v = NT v := by
  unfold dgs NT nd
  by_cases c1 : v < 10
  · rw [if_pos c1]
    show (if v < 10 then [48 + v] else _) = [48 + v / 10 ^ 0 % 10]
    rw [if_pos c1, show v / 10 ^ 0 % 10 = v by omega]
  · rw [if_neg c1]
    by_cases c2 : v < 100
    · rw [if_pos c2]
      show (if v < 10 then [48 + v] else (if v / 10 < 10 then [48 + v / 10] else _) ++ [48 + v % 10]) = [48 + v / 10 ^ 1 % 10, 48 + v / 10 ^ 0 % 10]
      rw [if_neg c1, if_pos (by omega), show v / 10 ^ 1 % 10 = v / 10 by omega, show v / 10 ^ 0 % 10 = v % 10 by omega]
      rfl
    · rw [if_neg c2]
      by_cases c3 : v < 1000
      · rw [if_pos c3]
        show (if v < 10 then [48 + v] else (if v / 10 < 10 then [48 + v / 10] else (if v / 10 / 10 < 10 then [48 + v / 10 / 10] else _) ++ [48 + v / 10 % 10]) ++ [48 + v % 10]) = [48 + v / 10 ^ 2 % 10, 48 + v / 10 ^ 1 % 10, 48 + v / 10 ^ 0 % 10]
        rw [if_neg c1, if_neg (by omega), if_pos (by omega), show v / 10 ^ 2 % 10 = v / 10 / 10 by omega, show v / 10 ^ 1 % 10 = v / 10 % 10 by omega, show v / 10 ^ 0 % 10 = v % 10 by omega]
        rfl
      · rw [if_neg c3]
        show (if v < 10 then [48 + v] else (if v / 10 < 10 then [48 + v / 10] else (if v / 10 / 10 < 10 then [48 + v / 10 / 10] else (if v / 10 / 10 / 10 < 10 then [48 + v / 10 / 10 / 10] else _) ++ [48 + v / 10 / 10 % 10]) ++ [48 + v / 10 % 10]) ++ [48 + v % 10]) = [48 + v / 10 ^ 3 % 10, 48 + v / 10 ^ 2 % 10, 48 + v / 10 ^ 1 % 10, 48 + v / 10 ^ 0 % 10]
        rw [if_neg c1, if_neg (by omega), if_neg (by omega), if_pos (by omega), show v / 10 ^ 3 % 10 = v / 10 / 10 / 10 by omega, show v / 10 ^ 2 % 10 = v / 10 / 10 % 10 by omega, show v / 10 ^ 1 % 10 = v / 10 % 10 by omega, show v / 10 ^ 0 % 10 = v % 10 by omega]
        rfl
theorem tlN_6 : ∀ d, 6 ≤ tlN d := by
  intro d
  induction d with
  | zero => exact Nat.le_refl _
  | succ d ih => show 6 ≤ 2 * tlN d + 5; omega
/-- below q all is as it was, but for the random numbers' seed -/
def RF (rnd q : Nat) (Y : XY) (N : XN) (Y' : XY) (N' : XN) : Prop := ∀ a, a < q → (kc Y' a = kc Y a ∧ kn Y' a = kn Y a) ∧ (∀ j, gr Y' a j = gr Y a j) ∧ ∀ j, (a ≠ rnd ∨ j ≠ 0) → gi N' a j = gi N a j
theorem RF.trans {rnd q q2 : Nat} {Y Y' Y'' : XY} {N N' N'' : XN} (h : RF rnd q Y N Y' N') (h' : RF rnd q2 Y' N' Y'' N'') (hq : q ≤ q2) : RF rnd q Y N Y'' N'' := fun a ha => by
  have x := h a ha
  have y := h' a (by omega)
  exact ⟨⟨y.1.1.trans x.1.1, y.1.2.trans x.1.2⟩, fun j => (y.2.1 j).trans (x.2.1 j), fun j hj => (y.2.2 j hj).trans (x.2.2 j hj)⟩
def RO (rnd : Nat) (Y : XY) (q : Nat) (N : XN) (dp : Nat) (Y' : XY) (q' : Nat) (N' : XN) (x : Nat) : Prop := MK Y' q' ∧ q < q' ∧ RF rnd q Y N Y' N' ∧ (WT Y → WT Y') ∧ ∃ ops tx vl, (∀ lev, (tx lev).length ≤ tlN dp) ∧ ∀ Y'' N'', (∀ b, q ≤ b → b < q' → kc Y' b = 19 → kc Y'' b = 19 ∧ (∀ j, gr Y'' b j = gr Y' b j) ∧ ∀ j, gi N'' b j = gi N' b j) → ND (dp + 1) Y'' N'' x ops tx vl
section RN
variable {rnd : Nat}
theorem R_67 {D dp : Nat} (IH : ∀ (dp : Nat) (Y : XY) (q : Nat) (N : XN), dp < D → dp < 2 ^ 30 → MK Y q → kc Y rnd = 20 → ∃ Y' q' N', f_X9_random D Y q rnd (nI dp) N = some (q, Y', q', N') ∧ RO rnd Y q N dp Y' q' N' q) (hdp : dp < D + 1) (hd3 : dp < 2 ^ 30) {Y : XY} {q : Nat} {N0 : XN} (hm : MK Y q) (hr : kc Y rnd = 20) {kd num : Nat} {N : XN} (hf : ∀ a, a < q → ∀ j, (a ≠ rnd ∨ j ≠ 0) → gi N a j = gi N0 a j) (h0 : gi N q 0 = nI kd) (hk : kd < 6 ∧ (dp = 0 → kd < 2)) (hn : (kd = 0 → num ≤ 9999) ∧ (kd ≠ 0 → num < 4)) :
    ∃ Y' q' N', f_X9_random_67 (f_X9_random D) D (yK Y q 19 0) (q + 1) rnd (nI dp) q (nI num) q 1 4 N = some (q, Y', q', N') ∧ RO rnd Y q N0 dp Y' q' N' q := by
  have lr := hm.inn (a := rnd) (by omega) (by omega)
  have kq : kc (yK Y q 19 0) q = 19 := kcq rfl
  have m1 := hm.nx (c := 19) (m := 0)
  have hn30 : num < 2 ^ 30 := by
    by_cases e : kd = 0
    · have := hn.1 e; omega
    · have := hn.2 e; omega
  have g0 : gi (si N q 1 (nI num)) q 0 = nI kd := by rw [gi_si_n (Or.inr (by omega))]; exact h0
  have g1 : gi (si N q 1 (nI num)) q 1 = nI num := gi_si _ _ _ _
  have eC1 : rC 1 (D + 1) = 1 + 2 * rC 1 D := rfl
  have eC4 : rC 4 (D + 1) = 4 + 2 * rC 4 D := rfl
  have rf0 : RF rnd q Y N0 (yK Y q 19 0) (si N q 1 (nI num)) := fun a ha => ⟨yK_ne (by omega) (by omega), fun j => yK_gr (by omega) j, fun j hj => (gi_si_n (Or.inl (by omega))).trans (hf a ha j hj)⟩
  have w1 : WT Y → WT (yK Y q 19 0) := fun w => w.nx hm (Or.inr (Or.inr (Or.inr (by omega))))
  by_cases c : kd ≤ 1
  · have bk : 1 ≤ rC 1 (D + 1) ∧ 4 ≤ rC 4 (D + 1) := ⟨by omega, by omega⟩
    refine ⟨_, _, si N q 1 (nI num), ?_, m1, by omega, rf0, w1, ?_⟩
    · unfold f_X9_random_67
      simp (disch := omega) only [↓ck, ↓lt_eq, nI_lit, ↓reduceIte, pLEt, pLEf, pLTt, pLTf, pEQf, pML, pMG, pMf, pMg, kq, g0, eq_true bk]
    · by_cases c0 : kd = 0
      · refine ⟨[nI num], (fun _ => dgs num), (fun _ => (num : Int)), fun lev => ?_, fun Y'' N'' hb => ?_⟩
        · show (dgs num).length ≤ _
          rw [dgs_NT (hn.1 c0)]
          have := NT_len num
          have := tlN_6 dp
          omega
        · obtain ⟨b1, b2, b3⟩ := hb q (Nat.le_refl _) (by omega) kq
          exact ⟨b1, Or.inl ⟨num, hn.1 c0, (b3 0).trans (by rw [g0, c0]), (b3 1).trans g1, rfl, rfl, rfl⟩⟩
      · refine ⟨[vcode num], (fun _ => vword num), (fun e => e num), fun lev => ?_, fun Y'' N'' hb => ?_⟩
        · have := tlN_6 dp
          show (vword num).length ≤ _
          unfold vword
          (repeat' split) <;> (simp only [List.length_cons, List.length_nil]; omega)
        · obtain ⟨b1, b2, b3⟩ := hb q (Nat.le_refl _) (by omega) kq
          exact ⟨b1, Or.inr (Or.inl ⟨num, hn.2 c0, (b3 0).trans (by rw [g0, show kd = 1 by omega]), (b3 1).trans g1, rfl, rfl, rfl⟩)⟩
  · have hd0 : dp ≠ 0 := fun e => by have := hk.2 e; omega
    obtain ⟨dq, rfl⟩ : ∃ z, dp = z + 1 := ⟨dp - 1, by omega⟩
    have ed : nI (dq + 1) - nI 1 = nI dq := nI_sub (a := dq + 1) (b := 1) (by omega)
    have kr1 : kc (yK Y q 19 0) rnd = 20 := (yK_ne (by omega) (by omega)).1.trans hr
    obtain ⟨Y9, q9, N9, a1, a2, a3, a4, a5, ol, tx1, vl1, a6, a7⟩ := IH dq (yK Y q 19 0) (q + 1) (si N q 1 (nI num)) (by omega) (by omega) m1 kr1
    have kq9 : kc Y9 q = 19 := (a4 q (by omega)).1.1.trans kq
    have m13 : MK (sr Y9 q 2 (some (q + 1))) q9 := a2
    have kr9 : kc (sr Y9 q 2 (some (q + 1))) rnd = 20 := (a4 rnd (by omega)).1.1.trans kr1
    obtain ⟨Y17, q17, N17, b1, b2, b3, b4, b5, or, tx2, vl2, b6, b7⟩ := IH dq (sr Y9 q 2 (some (q + 1))) q9 N9 (by omega) (by omega) m13 kr9
    have kq17 : kc Y17 q = 19 := (b4 q (by omega)).1.1.trans kq9
    have bk1 : 1 + rC 1 D ≤ rC 1 (D + 1) ∧ 4 + rC 4 D ≤ rC 4 (D + 1) := ⟨by omega, by omega⟩
    have bk2 : 1 + rC 1 D + rC 1 D ≤ rC 1 (D + 1) ∧ 4 + rC 4 D + rC 4 D ≤ rC 4 (D + 1) := ⟨by omega, by omega⟩
    have rfa : RF rnd q Y N0 (sr Y9 q 2 (some (q + 1))) N9 := fun a ha => by
      have x := (rf0.trans a4 (by omega)) a ha
      exact ⟨x.1, fun j => (gr_sr_ne (by omega) j).trans (x.2.1 j), x.2.2⟩
    have rfb := rfa.trans b4 (by omega)
    refine ⟨sr Y17 q 3 (some q9), q17, N17, ?_, b2, by omega, fun a ha => ?_, fun w => (b5 ((a5 (w1 w)).sr8 (Or.inr (by omega)))).sr8 (Or.inr (by omega)), ?_⟩
    · unfold f_X9_random_67
      simp (disch := omega) only [↓ck, ↓lt_eq, nI_lit, ↓reduceIte, pLEt, pLEf, pLTt, pLTf, pEQf, pML, pMG, pMf, pMg, ↓bd_ite, ↓bd2_ite, ↓bd3_ite, ↓bd4_ite, Option.isSome_some, Option.getD_some, kq, g0, ed, eq_true bk1, eq_true bk2, a1, kq9, b1, kq17]
    · have x := rfb a ha
      exact ⟨x.1, fun j => (gr_sr_ne (by omega) j).trans (x.2.1 j), x.2.2⟩
    · refine ⟨ol ++ (or ++ [ocode kd]), (fun lev => brk (own kd) lev (tx1 (own kd) ++ (sgn kd ++ tx2 (own kd + 1)))), (fun e => opV (ocode kd) (vl1 e) (vl2 e)), fun lev => ?_, fun Y'' N'' hb => ?_⟩
      · have l1 := a6 (own kd)
        have l2 := b6 (own kd + 1)
        have l3 : (sgn kd).length ≤ 3 := by
          unfold sgn
          (repeat' split) <;> (simp only [List.length_cons, List.length_nil]; omega)
        show (brk (own kd) lev (tx1 (own kd) ++ (sgn kd ++ tx2 (own kd + 1)))).length ≤ 2 * tlN dq + 5
        unfold brk
        split
        · simp only [List.length_append, List.length_cons, List.length_nil]; omega
        · simp only [List.length_append]; omega
      · obtain ⟨c1, c2, c3⟩ := hb q (Nat.le_refl _) (by omega) kq17
        have gq0 : gi N'' q 0 = nI kd := by
          rw [c3 0, (b4 q (by omega)).2.2 0 (Or.inl (by omega)), (a4 q (by omega)).2.2 0 (Or.inl (by omega))]
          exact g0
        have gq2 : gr Y'' q 2 = some (q + 1) := by
          rw [c2 2, gr_sr_nf (by decide), (b4 q (by omega)).2.1 2]
          exact gr_sr_s
        have gq3 : gr Y'' q 3 = some q9 := by rw [c2 3]; exact gr_sr_s
        have nl := a7 Y'' N'' (fun b h1 h2 h3 => by
          have x := b4 b (by omega)
          have k17 : kc Y17 b = 19 := x.1.1.trans h3
          obtain ⟨y1, y2, y3⟩ := hb b (by omega) (by omega) k17
          exact ⟨y1, fun j => ((y2 j).trans (gr_sr_ne (by omega) j)).trans ((x.2.1 j).trans (gr_sr_ne (by omega) j)), fun j => (y3 j).trans (x.2.2 j (Or.inl (by omega)))⟩)
        have nr := b7 Y'' N'' (fun b h1 h2 h3 => by
          obtain ⟨y1, y2, y3⟩ := hb b (by omega) h2 h3
          exact ⟨y1, fun j => (y2 j).trans (gr_sr_ne (by omega) j), y3⟩)
        exact ⟨c1, Or.inr (Or.inr ⟨kd, q + 1, q9, ol, or, tx1, tx2, vl1, vl2, by omega, gq0, gq2, gq3, nl, nr, rfl, rfl, rfl⟩)⟩
theorem R_random : ∀ (D dp : Nat) (Y : XY) (q : Nat) (N : XN), dp < D → dp < 2 ^ 30 → MK Y q → kc Y rnd = 20 → ∃ Y' q' N', f_X9_random D Y q rnd (nI dp) N = some (q, Y', q', N') ∧ RO rnd Y q N dp Y' q' N' q := by
  intro D
  induction D with
  | zero => intro dp Y q N h; exact absurd h (by omega)
  | succ D IH =>
    intro dp Y q N hdp hd3 hm hr
    have lr := hm.inn (a := rnd) (by omega) (by omega)
    have hq9 : kc Y q = 9 ∧ kc Y (q + 1) = 0 := ⟨hm.1, hm.2 _ (Nat.lt_succ_self _)⟩
    have kr : kc (yK Y q 19 0) rnd = 20 := (yK_ne (by omega) (by omega)).1.trans hr
    have kq : kc (yK Y q 19 0) q = 19 := kcq rfl
    have eC1 : rC 1 (D + 1) = 1 + 2 * rC 1 D := rfl
    have eC4 : rC 4 (D + 1) = 4 + 2 * rC 4 D := rfl
    have bk : 1 ≤ rC 1 (D + 1) ∧ 4 ≤ rC 4 (D + 1) := ⟨by omega, by omega⟩
    have go : ∀ (kd : Nat) (M : XN), (∀ a, a < q → ∀ j, (a ≠ rnd ∨ j ≠ 0) → gi M a j = gi N a j) → kd < 6 ∧ (dp = 0 → kd < 2) → ∃ Y' q' N', f_X9_random_27 (f_X9_random D) D (yK Y q 19 0) (q + 1) rnd (nI dp) q (nI kd) q 1 4 M = some (q, Y', q', N') ∧ RO rnd Y q N dp Y' q' N' q := fun kd M hM hk => by
      have g0 : gi (si M q 0 (nI kd)) q 0 = nI kd := gi_si _ _ _ _
      have fM : ∀ a, a < q → ∀ j, (a ≠ rnd ∨ j ≠ 0) → gi (si M q 0 (nI kd)) a j = gi N a j := fun a ha j hj => (gi_si_n (Or.inl (by omega))).trans (hM a ha j hj)
      by_cases c0 : kd = 0
      · obtain ⟨v, w, v1, e1⟩ := D_below (N := si M q 0 (nI kd)) kr (n := 8) (by omega) (by omega)
        have f1 : ∀ a, a < q → ∀ j, (a ≠ rnd ∨ j ≠ 0) → gi (si (si M q 0 (nI kd)) rnd 0 w) a j = gi N a j := fun a ha j hj => (gi_si_n (by omega)).trans (fM a ha j hj)
        have go2 : ∀ (n : Nat), 0 < n → n ≤ 10000 → ∃ Y' q' N', f_X9_random_56 (f_X9_random D) D (yK Y q 19 0) (q + 1) rnd (nI dp) q (nI n) rnd q 1 4 (si (si M q 0 (nI kd)) rnd 0 w) = some (q, Y', q', N') ∧ RO rnd Y q N dp Y' q' N' q := fun n hn0 hn => by
          obtain ⟨u, w2, u1, e2⟩ := D_below (N := si (si M q 0 (nI kd)) rnd 0 w) kr (n := n) hn0 (by omega)
          obtain ⟨Y', q', N', r1, r2⟩ := R_67 (N0 := N) (num := u) IH hdp hd3 hm hr (N := si (si (si M q 0 (nI kd)) rnd 0 w) rnd 0 w2) (fun a ha j hj => (gi_si_n (by omega)).trans (f1 a ha j hj)) (by rw [gi_si_n (Or.inl (by omega)), gi_si_n (Or.inl (by omega))]; exact g0) hk ⟨fun _ => by omega, fun h => absurd c0 h⟩
          refine ⟨Y', q', N', ?_, r2⟩
          unfold f_X9_random_56
          simp (disch := omega) only [↓ck, ↓reduceIte, pLEt, pLEf, pLTt, pLTf, pEQf, pML, pMG, pMf, pMg, ↓bd_ite, ↓bd2_ite, ↓bd3_ite, ↓bd4_ite, Option.isSome_some, Option.getD_some, kr, eq_true bk, e2]
          exact r1
        have c00 : (nI kd = nI 0) = True := eq_true (by rw [c0])
        by_cases cv : nI v = nI 0
        · obtain ⟨Y', q', N', r1, r2⟩ := go2 10000 (by omega) (by omega)
          refine ⟨Y', q', N', ?_, r2⟩
          unfold f_X9_random_27
          simp (disch := omega) only [↓ck, ↓lt_eq, nI_lit, ↓reduceIte, pLEt, pLEf, pLTt, pLTf, pEQf, pML, pMG, pMf, pMg, ↓bd_ite, ↓bd2_ite, ↓bd3_ite, ↓bd4_ite, Option.isSome_some, Option.getD_some, kq, g0, c00, kr, eq_true bk, e1, eq_true cv]
          exact r1
        · obtain ⟨Y', q', N', r1, r2⟩ := go2 9 (by omega) (by omega)
          refine ⟨Y', q', N', ?_, r2⟩
          unfold f_X9_random_27
          simp (disch := omega) only [↓ck, ↓lt_eq, nI_lit, ↓reduceIte, pLEt, pLEf, pLTt, pLTf, pEQf, pML, pMG, pMf, pMg, ↓bd_ite, ↓bd2_ite, ↓bd3_ite, ↓bd4_ite, Option.isSome_some, Option.getD_some, kq, g0, c00, kr, eq_true bk, e1, eq_false cv]
          exact r1
      · obtain ⟨v, w, v1, e1⟩ := D_below (N := si M q 0 (nI kd)) kr (n := 4) (by omega) (by omega)
        obtain ⟨Y', q', N', r1, r2⟩ := R_67 (N0 := N) (num := v) IH hdp hd3 hm hr (N := si (si M q 0 (nI kd)) rnd 0 w) (fun a ha j hj => (gi_si_n (by omega)).trans (fM a ha j hj)) (by rw [gi_si_n (Or.inl (by omega))]; exact g0) hk ⟨fun h => absurd h c0, fun _ => v1⟩
        refine ⟨Y', q', N', ?_, r2⟩
        unfold f_X9_random_27
        simp (disch := omega) only [↓ck, ↓lt_eq, nI_lit, ↓reduceIte, pLEt, pLEf, pLTt, pLTf, pEQf, pML, pMG, pMf, pMg, ↓bd_ite, ↓bd2_ite, ↓bd3_ite, ↓bd4_ite, Option.isSome_some, Option.getD_some, kq, g0, kr, eq_true bk, e1]
        exact r1
    have f0 : ∀ w a, a < q → ∀ j, (a ≠ rnd ∨ j ≠ 0) → gi (si (n0 N q) rnd 0 w) a j = gi N a j := fun w a ha j hj => (gi_si_n (by omega)).trans (n0_ne (by omega) j)
    by_cases c : dp = 0
    · obtain ⟨v, w, v1, e1⟩ := D_below (N := n0 N q) kr (n := 2) (by omega) (by omega)
      obtain ⟨Y', q', N', r1, r2⟩ := go v (si (n0 N q) rnd 0 w) (f0 w) (by omega)
      have c0 : (nI dp = nI 0) = True := eq_true (by rw [c])
      refine ⟨Y', q', N', ?_, r2⟩
      rw [f_X9_random]
      simp (disch := omega) only [↓ck, ↓lt_eq, nI_lit, ↓reduceIte, pLEt, pLEf, pLTt, pLTf, pEQf, pML, pMG, pMf, pMg, ↓bd_ite, ↓bd2_ite, ↓bd3_ite, ↓bd4_ite, Option.isSome_some, Option.getD_some, eq_true hq9, f_X9_init, bd_some, c0, kr, e1]
      exact r1
    · obtain ⟨v, w, v1, e1⟩ := D_below (N := n0 N q) kr (n := 6) (by omega) (by omega)
      obtain ⟨Y', q', N', r1, r2⟩ := go v (si (n0 N q) rnd 0 w) (f0 w) (by omega)
      have c0 : (nI dp = nI 0) = False := eq_false (fun z => c ((nI_eq (by omega) (by omega)).mp z))
      refine ⟨Y', q', N', ?_, r2⟩
      rw [f_X9_random]
      simp (disch := omega) only [↓ck, ↓lt_eq, nI_lit, ↓reduceIte, pLEt, pLEf, pLTt, pLTf, pEQf, pML, pMG, pMf, pMg, ↓bd_ite, ↓bd2_ite, ↓bd3_ite, ↓bd4_ite, Option.isSome_some, Option.getD_some, eq_true hq9, f_X9_init, bd_some, c0, kr, e1]
      exact r1
end RN
