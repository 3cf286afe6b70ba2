/-! A NODE'S TEXT -/
theorem ng_toInt {a : Nat} (h : a < 2 ^ 31) : (-nI a).toInt = -(a : Int) := by
  rw [Int32.toInt_neg, nI_toInt h]
  unfold Int.bmod
  have e : ((2 ^ 32 : Nat) : Int) = 4294967296 := by decide
  rw [e]
  dsimp only
  split <;> omega
theorem ngLE {a b : Nat} (ha : a < 2 ^ 31) (hb : b < 2 ^ 31) : (-nI a ≤ -nI b) ↔ b ≤ a := by
  rw [Int32.le_iff_toInt_le, ng_toInt ha, ng_toInt hb]
  omega
theorem ngLT {a b : Nat} (ha : a < 2 ^ 31) (hb : b < 2 ^ 31) : (-nI a < -nI b) ↔ b < a := by
  rw [Int32.lt_iff_toInt_lt, ng_toInt ha, ng_toInt hb]
  omega
theorem ng_div : ∀ a, a < 100 → ∀ b, b < 100 → -nI (100 * a + b) / nI 100 = -nI a ∧ -nI a * nI 100 - -nI (100 * a + b) = nI b := by decide +kernel
theorem nI_prd {p : Nat} (h : 0 < p) : nI p + -nI 1 = nI (p - 1) := by
  rw [← Int32.sub_eq_add_neg]
  exact nI_sub h
theorem leT {a b : Nat} (h : a ≤ b) : (a ≤ b) = True := eq_true h
theorem J_size {Y : XY} {n : Nat} {N : XN} (hn : n ≤ 9999) : f_J6_stringSize_0f7a4 Y (nI n) N = some (nI (nd n), N) := by
  have step : ∀ (D p c : Nat), p ≤ n → c < 10 → f_J6_stringSize_0f7a4_16 Y (D + 1) (-nI n) (nI 0) (-nI p) (nI c) N = f_J6_stringSize_0f7a4_16 Y D (-nI n) (nI 0) (nI 10 * -nI p) (nI c + nI 1) N := fun D p c hp hc => by
    rw [f_J6_stringSize_0f7a4_16]
    simp (disch := omega) only [nI_lit, ↓reduceIte, pLEt, pLEf, pLTt, pLTf, pEQf, pML, pMG, pMf, pMg, eq_true ((ngLE (a := n) (b := p) (by omega) (by omega)).mpr hp)]
  have stop : ∀ (D p c : Nat), n < p → p < 2 ^ 31 → c < 10 → f_J6_stringSize_0f7a4_16 Y (D + 1) (-nI n) (nI 0) (-nI p) (nI c) N = some (nI c, N) := fun D p c hp hp2 hc => by
    rw [f_J6_stringSize_0f7a4_16]
    simp (disch := omega) only [nI_lit, ↓reduceIte, pLEt, pLEf, pLTt, pLTf, pEQf, pML, pMG, pMf, pMg, eq_false (fun z => by have := (ngLE (a := n) (b := p) (by omega) (by omega)).mp z; omega), nI_add, Nat.add_zero]
  have m1 : nI 10 * -nI 10 = -nI 100 := by decide
  have m2 : nI 10 * -nI 100 = -nI 1000 := by decide
  have m3 : nI 10 * -nI 1000 = -nI 10000 := by decide
  have a1 : nI 1 + nI 1 = nI 2 := by decide
  have a2 : nI 2 + nI 1 = nI 3 := by decide
  have a3 : nI 3 + nI 1 = nI 4 := by decide
  unfold f_J6_stringSize_0f7a4 nd
  rw [if_neg (show ¬ nI n < (0 : Int32) from nI_nlt (Nat.zero_le _) (by omega))]
  show f_J6_stringSize_0f7a4_16 Y (4092 + 1 + 1 + 1 + 1) (-nI n) (nI 0) (-nI 10) (nI 1) N = _
  by_cases c1 : n < 10
  · rw [if_pos c1, stop _ 10 1 (by omega) (by omega) (by omega)]
  · rw [if_neg c1, step _ 10 1 (by omega) (by omega), m1, a1]
    by_cases c2 : n < 100
    · rw [if_pos c2, stop _ 100 2 (by omega) (by omega) (by omega)]
    · rw [if_neg c2, step _ 100 2 (by omega) (by omega), m2, a2]
      by_cases c3 : n < 1000
      · rw [if_pos c3, stop _ 1000 3 (by omega) (by omega) (by omega)]
      · rw [if_neg c3, step _ 1000 3 (by omega) (by omega), m3, a3, stop _ 10000 4 (by omega) (by omega) (by omega)]
/-- the tables of digits -/
def TBL (SV : Nat → Nat) (Y : XY) (N : XN) : Prop := (kc Y (SV 100) = 41 ∧ kn Y (SV 100) = 100 ∧ ∀ j, j < 100 → gi N (SV 100) j = nI (48 + j % 10)) ∧ (kc Y (SV 101) = 41 ∧ kn Y (SV 101) = 100 ∧ ∀ j, j < 100 → gi N (SV 101) j = nI (48 + j / 10))
section JC
variable {SS SV : Nat → Nat} {Y : XY} {v : Nat} {N : XN}
theorem TBL.si (h : TBL SV Y N) (hv : kc Y v = 2) {j : Nat} {x : Int32} : TBL SV Y (si N v j x) := by
  obtain ⟨⟨a1, a2, a3⟩, b1, b2, b3⟩ := h
  have n1 : SV 100 ≠ v := fun z => by rw [z, hv] at a1; omega
  have n2 : SV 101 ≠ v := fun z => by rw [z, hv] at b1; omega
  exact ⟨⟨a1, a2, fun j hj => (gi_si_n (Or.inl n1)).trans (a3 j hj)⟩, b1, b2, fun j hj => (gi_si_n (Or.inl n2)).trans (b3 j hj)⟩
theorem J_small (h : TBL SV Y N) (hv : kc Y v = 2) {n p D : Nat} (hn : n < 100) (hp : (if n < 10 then 1 else 2) ≤ p) (hpv : p ≤ kn Y v) (hk : kn Y v ≤ 100) : ∃ r N', f_J6_getChars_ba4f3_22 SS SV Y (D + 1) (-nI n) v (nI p) (nI 0) N = some (r, N') ∧ (∀ b j, b ≠ v → gi N' b j = gi N b j) ∧ ∀ j, gi N' v j = if j + 1 = p then nI (48 + n % 10) else if 10 ≤ n ∧ j + 2 = p then nI (48 + n / 10) else gi N v j := by
  have h' := h
  obtain ⟨⟨a1, a2, a3⟩, b1, b2, b3⟩ := h'
  have ia := isB41 a1
  have ib := isB41 b1
  have p1 : 1 ≤ p := by
    split at hp <;> omega
  have e1 := nI_prd (p := p) (by omega)
  have v1 := (a3 n hn)
  have w1 := vpn_b (48 + n % 10) (by omega)
  have c1 : (-nI 100 < -nI n) = True := eq_true ((ngLT (by omega) (by omega)).mpr (by omega))
  have nn : - -nI n = nI n := Int32.neg_neg
  by_cases c : n < 10
  · have c2 : (-nI 9 ≤ -nI n) = True := eq_true ((ngLE (by omega) (by omega)).mpr (by omega))
    refine ⟨nI (p - 1), si N v (p - 1) (nI (48 + n % 10)), ?_, fun b j hb => gi_si_n (Or.inl hb), fun j => ?_⟩
    · rw [f_J6_getChars_ba4f3_22]
      simp (disch := omega) only [↓ck, ↓lt_eq, nI_lit, nI_clamp, xb_nI, ↓reduceIte, pLEt, pLEf, pLTt, pLTf, pEQf, pML, pMG, pMf, pMg, c1, ia, nn, a2, hv, e1, v1, w1, c2]
    · by_cases z : j + 1 = p
      · rw [if_pos z, show j = p - 1 by omega, gi_si]
      · rw [if_neg z, if_neg (by omega), gi_si_n (Or.inr (by omega))]
  · rw [if_neg c] at hp
    have c2 : (-nI 9 ≤ -nI n) = False := eq_false (fun z => by have := (ngLE (by omega) (by omega)).mp z; omega)
    have e2 := nI_prd (p := p - 1) (by omega)
    have n2 : SV 101 ≠ v := fun z => by rw [z, hv] at b1; omega
    have v2 : gi (si N v (p - 1) (nI (48 + n % 10))) (SV 101) n = nI (48 + n / 10) := (gi_si_n (Or.inl n2)).trans (b3 n hn)
    have w2 := vpn_b (48 + n / 10) (by omega)
    refine ⟨nI (p - 1 - 1), si (si N v (p - 1) (nI (48 + n % 10))) v (p - 1 - 1) (nI (48 + n / 10)), ?_, fun b j hb => (gi_si_n (Or.inl hb)).trans (gi_si_n (Or.inl hb)), fun j => ?_⟩
    · rw [f_J6_getChars_ba4f3_22]
      simp (disch := omega) only [↓ck, ↓lt_eq, nI_lit, nI_clamp, xb_nI, ↓reduceIte, pLEt, pLEf, pLTt, pLTf, pEQf, pML, pMG, pMf, pMg, c1, ia, ib, nn, a2, b2, hv, e1, e2, v1, w1, c2, v2, w2]
    · by_cases z : j + 1 = p
      · rw [if_pos z, gi_si_n (Or.inr (by omega)), show j = p - 1 by omega, gi_si]
      · rw [if_neg z]
        by_cases z2 : j + 2 = p
        · rw [if_pos ⟨by omega, z2⟩, show j = p - 1 - 1 by omega, gi_si]
        · rw [if_neg (by omega), gi_si_n (Or.inr (by omega)), gi_si_n (Or.inr (by omega))]
theorem J_chars (h : TBL SV Y N) (hv : kc Y v = 2) {n p : Nat} (hn : n ≤ 9999) (hp : nd n ≤ p) (hpv : p ≤ kn Y v) (hk : kn Y v ≤ 100) : ∃ r N', f_J6_getChars_ba4f3 SS SV Y (nI n) (nI p) v N = some (r, N') ∧ (∀ b j, b ≠ v → gi N' b j = gi N b j) ∧ ∀ j, gi N' v j = if p - nd n ≤ j ∧ j < p then nI (48 + n / 10 ^ (p - 1 - j) % 10) else gi N v j := by
  have hd : f_J6_getChars_ba4f3 SS SV Y (nI n) (nI p) v N = f_J6_getChars_ba4f3_22 SS SV Y (4094 + 1 + 1) (-nI n) v (nI p) (nI 0) N := by
    unfold f_J6_getChars_ba4f3
    rw [if_pos (show (0 : Int32) ≤ nI n from nI_le (Nat.zero_le _) (by omega))]
    rfl
  rw [hd]
  unfold nd at hp ⊢
  by_cases c : n < 100
  · obtain ⟨r, N', e1, e2, e3⟩ := J_small (SS := SS) (D := 4094 + 1) h hv (n := n) (p := p) c (by split <;> (split at hp <;> omega)) hpv hk
    refine ⟨r, N', e1, e2, fun j => ?_⟩
    rw [e3 j]
    by_cases z : j + 1 = p
    · rw [if_pos z, if_pos (by split <;> omega), show p - 1 - j = 0 by omega]
      exact congrArg nI (by omega)
    · rw [if_neg z]
      by_cases z2 : 10 ≤ n ∧ j + 2 = p
      · rw [if_pos z2, if_neg (show ¬ n < 10 by omega), if_pos c, if_pos (by omega), show p - 1 - j = 1 by omega]
        exact congrArg nI (by omega)
      · rw [if_neg z2, if_neg]
        by_cases z3 : n < 10
        · rw [if_pos z3]; omega
        · rw [if_neg z3, if_pos c]; omega
  · rw [if_neg (by omega), if_neg c] at hp ⊢
    have h' := h
    obtain ⟨⟨a1, a2, a3⟩, b1, b2, b3⟩ := h'
    have ia := isB41 a1
    have ib := isB41 b1
    have p3 : 3 ≤ p := by
      split at hp <;> omega
    obtain ⟨d1, d2⟩ := ng_div (n / 100) (by omega) (n % 100) (by omega)
    rw [show 100 * (n / 100) + n % 100 = n by omega] at d1 d2
    have c1 : (-nI 100 < -nI n) = False := eq_false (fun z => by have := (ngLT (by omega) (by omega)).mp z; omega)
    have e1 := nI_prd (p := p) (by omega)
    have e2 := nI_prd (p := p - 1) (by omega)
    have v1 := a3 (n % 100) (by omega)
    have w1 := vpn_b (48 + n % 100 % 10) (by omega)
    have n2 : SV 101 ≠ v := fun z => by rw [z, hv] at b1; omega
    have v2 : gi (si N v (p - 1) (nI (48 + n % 100 % 10))) (SV 101) (n % 100) = nI (48 + n % 100 / 10) := (gi_si_n (Or.inl n2)).trans (b3 _ (by omega))
    have w2 := vpn_b (48 + n % 100 / 10) (by omega)
    have t1 : TBL SV Y (si (si N v (p - 1) (nI (48 + n % 100 % 10))) v (p - 1 - 1) (nI (48 + n % 100 / 10))) := (h.si hv).si hv
    obtain ⟨r, N', f1, f2, f3⟩ := J_small (SS := SS) (D := 4094) t1 hv (n := n / 100) (p := p - 1 - 1) (by omega) (by split <;> (split at hp <;> omega)) (by omega) hk
    refine ⟨r, N', ?_, fun b j hb => (f2 b j hb).trans ((gi_si_n (Or.inl hb)).trans (gi_si_n (Or.inl hb))), fun j => ?_⟩
    · rw [f_J6_getChars_ba4f3_22]
      simp (disch := omega) only [↓ck, ↓lt_eq, nI_lit, nI_clamp, xb_nI, ↓reduceIte, pLEt, pLEf, pLTt, pLTf, pEQf, pML, pMG, pMf, pMg, c1, ia, ib, d1, d2, a2, b2, hv, e1, e2, v1, w1, v2, w2]
      exact f1
    · rw [f3 j]
      by_cases z1 : j + 1 = p
      · rw [if_neg (by omega), if_neg (by omega), gi_si_n (Or.inr (by omega)), show j = p - 1 by omega, gi_si, if_pos (by split <;> omega), show 48 + n % 100 % 10 = 48 + n / 10 ^ (p - 1 - (p - 1)) % 10 by rw [show p - 1 - (p - 1) = 0 by omega]; omega]
      · by_cases z2 : j + 2 = p
        · rw [if_neg (by omega), if_neg (by omega), show j = p - 1 - 1 by omega, gi_si, if_pos (by split <;> omega), show 48 + n % 100 / 10 = 48 + n / 10 ^ (p - 1 - (p - 1 - 1)) % 10 by rw [show p - 1 - (p - 1 - 1) = 1 by omega]; omega]
        · by_cases z3 : j + 3 = p
          · rw [if_pos (by omega), if_pos (by split <;> omega), show p - 1 - j = 2 by omega]
          · rw [if_neg (by omega)]
            by_cases z4 : 1000 ≤ n ∧ j + 4 = p
            · rw [if_pos (by omega), if_neg (show ¬ n < 1000 by omega), if_pos (by omega), show p - 1 - j = 3 by omega]
              exact congrArg nI (by omega)
            · rw [if_neg (by omega), gi_si_n (Or.inr (by omega)), gi_si_n (Or.inr (by omega)), if_neg]
              by_cases z5 : n < 1000
              · rw [if_pos z5]; omega
              · rw [if_neg z5]; omega
theorem gd_dG {n : Nat} : ∀ (k i : Nat), i < k → gd (dG k n) i = 48 + n / 10 ^ (k - 1 - i) % 10 := by
  intro k
  induction k with
  | zero => intro i h; exact absurd h (by omega)
  | succ k ih =>
    intro i h
    cases i with
    | zero => show 48 + n / 10 ^ k % 10 = _; rw [show k + 1 - 1 - 0 = k by omega]
    | succ i =>
      show gd (dG k n) i = _
      rw [ih i (by omega), show k + 1 - 1 - (i + 1) = k - 1 - i by omega]
theorem NT_gd {n j p l : Nat} (h : p = l + nd n) (h1 : l ≤ j) (h2 : j < p) : gd (NT n) (j - l) = 48 + n / 10 ^ (p - 1 - j) % 10 := by
  unfold NT
  rw [gd_dG _ _ (by omega), show nd n - 1 - (j - l) = p - 1 - j by omega]
theorem NT_l (n : Nat) : (NT n).length = nd n := dG_len _ _
theorem NT_128 (n j : Nat) : gd (NT n) j < 128 := by
  by_cases h : j < nd n
  · unfold NT
    rw [gd_dG _ _ h]; omega
  · rw [gd_ge (by rw [NT_l]; omega)]; omega
end JC
section SBN
variable {SS SV : Nat → Nat} {Y : XY} {q q0 a v B s : Nat} {N : XN} {ws ss : List Nat}
/-- a number more -/
theorem B_number (hm : MK Y q) (h : SBd q0 Y N a ws v) (ht : TBL SV Y N) {n : Nat} (hn : n ≤ 9999) (hl : ws.length < 40) (hq : q0 ≤ q) : ∃ Y' q' N' v', f_J4_append_bf812 SS SV Y q a (nI n) N = some (a, Y', q', N') ∧ MK Y' q' ∧ q ≤ q' ∧ (WT Y → WT Y') ∧ TF q0 Y N Y' N' ∧ SBd q0 Y' N' a (ws ++ NT n) v' ∧ (v' = v ∨ q ≤ v') := by
  have n4 : nd n ≤ 4 := by rw [← NT_l]; exact NT_len n
  obtain ⟨Y', q', N1, v', e1, e2, e3, e4, e5, e6, e7, e8⟩ := B_ensure hm h (m := ws.length + nd n) (by omega) (by omega) hq
  have av := hm.inn (a := a) (by rw [h.1.1]; omega) (by rw [h.1.1]; omega)
  have a10 := h.1.1
  have a40 := h.1.2.2.2
  obtain ⟨⟨a1, a2, a3, a4⟩, ⟨b1, b2, b3, b4, b5⟩, c, d⟩ := e6
  have g := gp_of b1
  have nav : a ≠ v' := fun z => by rw [z, b2] at a1; omega
  have t1 : TBL SV Y' N1 := by
    obtain ⟨⟨t1, t2, t3⟩, t4, t5, t6⟩ := ht
    have x := e5 (SV 100) (hm.inn (by omega) (by omega))
    have y := e5 (SV 101) (hm.inn (by omega) (by omega))
    exact ⟨⟨x.1.1.trans t1, x.1.2.trans t2, fun j hj => (x.2.2 j).trans (t3 j hj)⟩, y.1.1.trans t4, y.1.2.trans t5, fun j hj => (y.2.2 j).trans (t6 j hj)⟩
  obtain ⟨r, N2, f1, f2, f3⟩ := J_chars (SS := SS) t1 b2 (n := n) (p := ws.length + nd n) hn (by omega) e7 b5
  have ea : nI ws.length + nI (nd n) = nI (ws.length + nd n) := nI_add _ _
  have n10 : (nI 1 = nI 0) = False := eq_false (by decide)
  have sz := J_size (Y := Y) (N := N) hn
  refine ⟨Y', q', si N2 a 3 (nI (ws.length + nd n)), v', ?_, e2, e3, e4, fun b hb => ?_, ⟨⟨a1, a2, ?_, ?_⟩, ⟨b1, b2, b3, ?_, b5⟩, fun j hj => ?_, fun j => ?_⟩, e8⟩
  · unfold f_J4_append_bf812 f_J5_append_c97b9 f_J5_isLatin1_aae02
    simp (disch := omega) only [↓ck, ↓lt_eq, nI_lit, ↓reduceIte, pLEt, pLEf, pLTt, pLTf, pEQf, pML, pMG, pMf, pMg, ↓bd_ite, ↓bd2_ite, ↓bd3_ite, ↓bd4_ite, Option.isSome_some, Option.getD_some, a10, sz, a40, ea, e1, a1, a3, n10, b1, g, f1]
  · have z := e5 b (by omega)
    refine ⟨z.1, z.2.1 (by omega), fun j => ?_⟩
    rw [gi_si_n (Or.inl (by omega)), f2 b j (by omega)]
    exact z.2.2 j
  · rw [gi_si_n (Or.inr (by decide)), f2 a 1 nav]; exact a3
  · rw [gi_si, List.length_append, NT_l]
  · rw [List.length_append, NT_l]; exact e7
  · rw [gi_si_n (Or.inl (fun z => nav z.symm)), f3 j, gd_ap]
    by_cases z : ws.length + nd n - nd n ≤ j ∧ j < ws.length + nd n
    · rw [if_pos z, if_neg (by omega), NT_gd (p := ws.length + nd n) rfl (by omega) z.2]
    · rw [if_neg z, c j hj]
      by_cases z2 : j < ws.length
      · rw [if_pos z2]
      · rw [if_neg z2, gd_ge (by omega), gd_ge (by rw [NT_l]; omega)]
  · rw [gd_ap]
    split
    · exact d j
    · exact NT_128 n _
/-- a string that the program was written with -/
def CT (Y : XY) (N : XN) (B s : Nat) (ws : List Nat) : Prop := SR Y N B s ws ∧ kc Y s = 40 ∧ kc Y (gp Y s 0) = 41
def CX (SS SV : Nat → Nat) (Y : XY) (N : XN) (B : Nat) : Prop := (CT Y N B (SS 30) [] ∧ CT Y N B (SS 31) [43] ∧ CT Y N B (SS 32) [32, 45, 32] ∧ CT Y N B (SS 33) [42, 32] ∧ CT Y N B (SS 34) [47] ∧ CT Y N B (SS 35) [40] ∧ CT Y N B (SS 36) [41]) ∧ TBL SV Y N ∧ (kc Y (SV 102) = 42 ∧ kn Y (SV 102) = 4 ∧ ∀ j, j < 4 → ∃ s, gr Y (SV 102) j = some s ∧ CT Y N B s (vword j))
theorem CT.tf {Y' : XY} {N' : XN} (h : CT Y N B s ws) (hm : MK Y q) (hf : TF q Y N Y' N') : CT Y' N' B s ws := by
  obtain ⟨h1, h2, h3⟩ := h
  obtain ⟨r1, r2, r3⟩ := h1.tf hm hf
  exact ⟨r1, (hf s (hm.inn (by omega) (by omega))).1.1.trans h2, by rw [r2]; exact r3.trans h3⟩
theorem TBL.tf {Y' : XY} {N' : XN} (h : TBL SV Y N) (hm : MK Y q) (hf : TF q Y N Y' N') : TBL SV Y' N' := by
  obtain ⟨⟨t1, t2, t3⟩, t4, t5, t6⟩ := h
  have x := hf (SV 100) (hm.inn (by omega) (by omega))
  have y := hf (SV 101) (hm.inn (by omega) (by omega))
  exact ⟨⟨x.1.1.trans t1, x.1.2.trans t2, fun j hj => (x.2.2 j).trans (t3 j hj)⟩, y.1.1.trans t4, y.1.2.trans t5, fun j hj => (y.2.2 j).trans (t6 j hj)⟩
theorem CX.tf {Y' : XY} {N' : XN} (h : CX SS SV Y N B) (hm : MK Y q) (hf : TF q Y N Y' N') : CX SS SV Y' N' B := by
  obtain ⟨⟨a1, a2, a3, a4, a5, a6, a7⟩, b, c1, c2, c3⟩ := h
  have x := hf (SV 102) (hm.inn (by omega) (by omega))
  refine ⟨⟨a1.tf hm hf, a2.tf hm hf, a3.tf hm hf, a4.tf hm hf, a5.tf hm hf, a6.tf hm hf, a7.tf hm hf⟩, b.tf hm hf, x.1.1.trans c1, x.1.2.trans c2, fun j hj => ?_⟩
  obtain ⟨s, s1, s2⟩ := c3 j hj
  exact ⟨s, (x.2.1 j).trans s1, s2.tf hm hf⟩
theorem CT.ne (h : CT Y N B s ws) (hv : kc Y v = 2) : gp Y s 0 ≠ v := fun z => by
  have := h.2.2
  rw [z, hv] at this
  omega
end SBN
