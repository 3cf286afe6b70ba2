/-! PRUNED: of whole -/
/-- tokens 0 .. T - 1 stand in the rows behind the object at Q -/
def TKm (N : XN) (Q T L : Nat) (t : Nat → Nat) : Prop := gi N Q 3 = nI T ∧ ∀ i, i < T → gi N (Q + 1) i = nI (tK t L (tS t L i)) ∧ gi N (Q + 2) i = nI (tS t L i) ∧ gi N (Q + 3) i = nI (tN t L (tS t L i))
def tokf (Q : Nat) (N N' : XN) : Prop := N'.2 = N.2 ∧ (∀ a, a < Q ∨ Q + 4 ≤ a → N'.1 a = N.1 a) ∧ ∀ j, j ≠ 3 → gi N' Q j = gi N Q j
theorem tokf.trans {Q : Nat} {N N' N'' : XN} (h : tokf Q N N') (h' : tokf Q N' N'') : tokf Q N N'' := ⟨h'.1.trans h.1, fun a q => (h'.2.1 a q).trans (h.2.1 a q), fun j q => (h'.2.2 j q).trans (h.2.2 j q)⟩
section SP
variable {Y : XY} {N : XN} {Q A L : Nat} {t : Nat → Nat}
theorem sgK_le (b : Nat) : sgK b ≤ 9 := by unfold sgK; (repeat' split) <;> omega
theorem wK_le (s e : Nat) : ∀ (z i : Nat), wK t s e z i ≤ i + z := by
  intro z
  induction z with
  | zero => intro i; exact Nat.le_refl _
  | succ z ih =>
    intro i
    unfold wK
    split
    · omega
    · have := ih (i + 1); omega
theorem K_add (g0 : gp Y Q 0 = Q + 1) (g1 : gp Y Q 1 = Q + 2) (g2 : gp Y Q 2 = Q + 3) {T : Nat} (hT : T ≤ 700) (h : TKm N Q T L t) {x y z : Int32} (hx : x = nI (tK t L (tS t L T))) (hy : y = nI (tS t L T)) (hz : z = nI (tN t L (tS t L T))) : ∃ N', f_X5_addToken Y Q x y z N = some N' ∧ TKm N' Q (T + 1) L t ∧ tokf Q N N' := by
  obtain ⟨h3, hi⟩ := h
  refine ⟨si (si (si (si N (Q + 1) T x) (Q + 2) T y) (Q + 3) T z) Q 3 (nI (T + 1)), ?_, ⟨gi_si _ _ _ _, fun i hi' => ?_⟩, rfl, fun a q => ?_, fun j q => ?_⟩
  · have e1 : gi (si N (Q + 1) T x) Q 3 = nI T := by rw [gi_si_n (Or.inl (by omega))]; exact h3
    have e2 : gi (si (si N (Q + 1) T x) (Q + 2) T y) Q 3 = nI T := by rw [gi_si_n (Or.inl (by omega))]; exact e1
    have e3 : gi (si (si (si N (Q + 1) T x) (Q + 2) T y) (Q + 3) T z) Q 3 = nI T := by rw [gi_si_n (Or.inl (by omega))]; exact e2
    unfold f_X5_addToken
    simp (disch := omega) only [↓lt_eq, nI_lit, nI_add, ↓reduceIte, pLEt, pLEf, pLTt, pLTf, pEQf, pML, pMG, pMf, pMg, h3, xb_nI, nI_clamp, if_true, g0, g1, g2, e1, e2, e3]
  · have c : ∀ o, 0 < o → gi (si (si (si (si N (Q + 1) T x) (Q + 2) T y) (Q + 3) T z) Q 3 (nI (T + 1))) (Q + o) i = gi (si (si (si N (Q + 1) T x) (Q + 2) T y) (Q + 3) T z) (Q + o) i := fun o ho => gi_si_n (Or.inl (by omega))
    rw [c 1 (by omega), c 2 (by omega), c 3 (by omega)]
    by_cases e : i = T
    · subst e
      refine ⟨?_, ?_, ?_⟩
      · rw [gi_si_n (Or.inl (by omega)), gi_si_n (Or.inl (by omega)), gi_si]; exact hx
      · rw [gi_si_n (Or.inl (by omega)), gi_si]; exact hy
      · rw [gi_si]; exact hz
    · obtain ⟨a1, a2, a3⟩ := hi i (by omega)
      refine ⟨?_, ?_, ?_⟩
      · rw [gi_si_n (Or.inl (by omega)), gi_si_n (Or.inl (by omega)), gi_si_n (Or.inr e)]; exact a1
      · rw [gi_si_n (Or.inl (by omega)), gi_si_n (Or.inr e), gi_si_n (Or.inl (by omega))]; exact a2
      · rw [gi_si_n (Or.inr e), gi_si_n (Or.inl (by omega)), gi_si_n (Or.inl (by omega))]; exact a3
  · rw [si_row (by omega), si_row (by omega), si_row (by omega), si_row (by omega)]
  · rw [gi_si_n (Or.inr q), gi_si_n (Or.inl (by omega)), gi_si_n (Or.inl (by omega)), gi_si_n (Or.inl (by omega))]
theorem TB.far {N' : XN} (h : TB N A L t) (hA : A < Q ∨ Q + 4 ≤ A) (hf : tokf Q N N') : TB N' A L t := fun i hi => ⟨(h i hi).1, by unfold gi; rw [hf.2.1 A hA]; exact (h i hi).2⟩
theorem sgK_no {a : Int32} (N : XN) (h1 : ¬ a = 40) (h2 : ¬ a = 41) (h3 : ¬ a = 42) (h4 : ¬ a = 43) (h5 : ¬ a = 45) (h6 : ¬ a = 47) (h7 : ¬ a = 59) : f_X5_signKind Y a N = 1 := by
  unfold f_X5_signKind
  rw [if_neg h1, if_neg h2, if_neg h3, if_neg h4, if_neg h5, if_neg h6, if_neg h7]
  simp only [ite_self]
theorem sgK_sb {b : Nat} (hb : b < 256) (N : XN) : f_X5_signKind Y (sb b) N = nI (sgK b) := by
  have e : ∀ k, k < 128 → ¬ b = k → ¬ sb b = nI k := fun k hk q z => q ((sb_eq hb hk).mp z)
  by_cases c1 : b = 40
  · subst c1; rfl
  · by_cases c2 : b = 41
    · subst c2; rfl
    · by_cases c3 : b = 42
      · subst c3; rfl
      · by_cases c4 : b = 43
        · subst c4; rfl
        · by_cases c5 : b = 45
          · subst c5; rfl
          · by_cases c6 : b = 47
            · subst c6; rfl
            · by_cases c7 : b = 59
              · subst c7; rfl
              · rw [sgK_no N (e 40 (by omega) c1) (e 41 (by omega) c2) (e 42 (by omega) c3) (e 43 (by omega) c4) (e 45 (by omega) c5) (e 47 (by omega) c6) (e 59 (by omega) c7)]
                unfold sgK
                rw [if_neg c1, if_neg c2, if_neg c3, if_neg c4, if_neg c5, if_neg c6, if_neg c7]
                rfl
theorem K_split_L (g0 : gp Y Q 0 = Q + 1) (g1 : gp Y Q 1 = Q + 2) (g2 : gp Y Q 2 = Q + 3) (hk : kn Y A = 700) (hL : L ≤ 700) (hA : A < Q ∨ Q + 4 ≤ A) : ∀ (n x i T D9 : Nat) (N : XN), L - x ≤ n → n < D9 → x ≤ L → i ≤ x → T ≤ x → TB N A L t → TKm N Q T L t → sk t L x = tS t L T → (∀ j, j < T → tS t L j < L) → ∃ N' T', f_X5_split_10 Y D9 Q A (nI L) (nI x) (nI i) N = some N' ∧ TKm N' Q (T' + 1) L t ∧ tokf Q N N' ∧ tS t L T' = L ∧ T' ≤ 700 ∧ ∀ j, j < T' → tS t L j < L := by
  intro n
  induction n with
  | zero =>
    intro x i T D9 N hn hD9 hx hi hT hB hK hS hj
    obtain ⟨D8, rfl⟩ : ∃ z, D9 = z + 1 := ⟨D9 - 1, by omega⟩
    have ex : x = L := by omega
    subst ex
    have eS : tS t x T = x := by rw [← hS]; exact rN_end (Nat.le_refl _)
    have k0 : tK t x x = 0 := by unfold tK; rw [if_pos (Nat.le_refl _)]
    have n0 : tN t x x = 0 := by unfold tN; rw [if_pos (Nat.le_refl _)]
    obtain ⟨N', a1, a2, a3⟩ := K_add (L := x) g0 g1 g2 (by omega) hK (x := nI 0) (y := nI x) (z := nI 0) (by rw [eS, k0]) (by rw [eS]) (by rw [eS, n0])
    refine ⟨N', T, ?_, a2, a3, eS, by omega, hj⟩
    rw [f_X5_split_10]
    by_cases q : 700 ≤ i
    · simp (disch := omega) only [nI_lit, ↓reduceIte, pLEt, pLEf, pLTt, pLTf, pEQf, pML, pMG, pMf, pMg, a1, bd_some]
    · simp (disch := omega) only [nI_lit, ↓reduceIte, pLEt, pLEf, pLTt, pLTf, pEQf, pML, pMG, pMf, pMg, a1, bd_some]
  | succ n ih =>
    intro x i T D9 N hn hD9 hx hi hT hB hK hS hj
    by_cases ex : x = L
    · exact ih x i T D9 N (by omega) (by omega) hx hi hT hB hK hS hj
    · obtain ⟨D8, rfl⟩ : ∃ z, D9 = z + 1 := ⟨D9 - 1, by omega⟩
      obtain ⟨b1, b2⟩ := hB x (by omega)
      have e700 : Int32.ofNat 700 = nI 700 := rfl
      have lt97 := sb_lt (k := 97) b1 (by omega)
      have lt48 := sb_lt (k := 48) b1 (by omega)
      have gt57 := sb_gt (k := 57) b1 (by omega)
      have gt122 := sb_gt (k := 122) b1 (by omega)
      have e32 := sb_eq (k := 32) b1 (by omega)
      rw [f_X5_split_10]
      by_cases s32 : t x = 32
      · -- a space
        have hS' : sk t L (x + 1) = tS t L T := by rw [← hS]; exact (rN_t (by omega) (decide_eq_true s32)).symm
        obtain ⟨N', T', f1, f2⟩ := ih (x + 1) (i + 1) T D8 N (by omega) (by omega) (by omega) (by omega) (by omega) hB hK hS' hj
        refine ⟨N', T', ?_, f2⟩
        simp (disch := omega) only [nI_lit, nI_add, ↓reduceIte, pLEt, pLEf, pLTt, pLTf, pEQf, pML, pMG, pMf, pMg, hk, e700, xb_nI, nI_clamp, if_true, b2, eq_true (lt97.mpr (by omega)), eq_true (lt48.mpr (by omega)), eq_true (e32.mpr s32)]
        exact f1
      · have eS : tS t L T = x := by rw [← hS]; exact rN_f (by omega) (decide_eq_false s32)
        have hj' : ∀ j, j < T + 1 → tS t L j < L := fun j hj9 => by
          by_cases e : j = T
          · rw [e, eS]; omega
          · exact hj j (by omega)
        have hS2 : ∀ e, e = tE t L x → sk t L e = tS t L (T + 1) := fun e he => by
          show sk t L e = sk t L (tE t L (tS t L T))
          rw [eS, he]
        have hte := tE_le (t := t) (L := L) (s := x) (by omega)
        have ne32 : (sb (t x) = nI 32) = False := eq_false (fun z => s32 (e32.mp z))
        by_cases l1 : isL (t x) = true
        · -- a word
          have hl : 97 ≤ t x ∧ t x ≤ 122 := of_decide_eq_true l1
          have eE : tE t L x = rN isL t L x := by unfold tE; rw [if_pos l1]
          have kr := K_endOfRun hk hL hB isL (a := 97) (z9 := 122) (s := x) (by omega) (by omega) (fun b => rfl) (by omega) l1
          have kw := K_word hk hL hB (s := x) (e := rN isL t L x) (by omega) (by omega) (fun j a b => by have : 97 ≤ t j ∧ t j ≤ 122 := of_decide_eq_true (rN_in a b); omega) 13 0 FU (by omega) (by unfold FU; omega)
          have kk : tK t L x = 10 + wK t x (rN isL t L x) 13 0 := by unfold tK; rw [if_neg (by omega), if_pos l1]
          have kn0 : tN t L x = 0 := by unfold tN; rw [if_neg (by omega), if_pos l1]
          obtain ⟨N1, a1, a2, a3⟩ := K_add g0 g1 g2 (by omega) hK (x := nI (10 + wK t x (rN isL t L x) 13 0)) (y := nI x) (z := nI 0) (by rw [eS, kk]) (by rw [eS]) (by rw [eS, kn0])
          obtain ⟨N', T', f1, f2, f3, f4⟩ := ih (rN isL t L x) (i + 1) (T + 1) D8 N1 (by omega) (by omega) (by omega) (by omega) (by omega) (hB.far hA a3) a2 (hS2 _ eE.symm) hj'
          refine ⟨N', T', ?_, f2, a3.trans f3, f4⟩
          have kw' : f_X5_wordKind Y A (nI x) (nI (rN isL t L x)) N = some (nI (10 + wK t x (rN isL t L x) 13 0)) := kw
          simp (disch := omega) only [nI_lit, nI_add, ↓reduceIte, pLEt, pLEf, pLTt, pLTf, pEQf, pML, pMG, pMf, pMg, hk, e700, xb_nI, nI_clamp, if_true, b2, eq_false (fun z => (by have := lt97.mp z; omega) : ¬ sb (t x) < nI 97), eq_false (fun z => (by have := gt122.mp z; omega) : ¬ nI 122 < sb (t x)), kr, bd_some, kw', a1]
          exact f1
        · have nl : ¬ (97 ≤ t x ∧ t x ≤ 122) := fun z => l1 (decide_eq_true z)
          by_cases d1 : isD (t x) = true
          · -- a number
            have hd : 48 ≤ t x ∧ t x ≤ 57 := of_decide_eq_true d1
            have eE : tE t L x = rN isD t L x := by unfold tE; rw [if_neg l1, if_pos d1]
            have kr := K_endOfRun hk hL hB isD (a := 48) (z9 := 57) (s := x) (by omega) (by omega) (fun b => rfl) (by omega) d1
            have kn9 := K_num hk hL hB (e := rN isD t L x) (by omega) (rN isD t L x - x) x 0 FU (by omega) (by unfold FU; omega) (fun j a b => rN_in a b) (by omega)
            have kk : tK t L x = 2 := by unfold tK; rw [if_neg (by omega), if_neg l1, if_pos d1]
            have kn0 : tN t L x = dV t 100000 (rN isD t L x - x) x 0 := by unfold tN; rw [if_neg (by omega), if_neg l1, if_pos d1]
            obtain ⟨N1, a1, a2, a3⟩ := K_add g0 g1 g2 (by omega) hK (x := nI 2) (y := nI x) (z := nI (dV t 100000 (rN isD t L x - x) x 0)) (by rw [eS, kk]) (by rw [eS]) (by rw [eS, kn0])
            obtain ⟨N', T', f1, f2, f3, f4⟩ := ih (rN isD t L x) (i + 1) (T + 1) D8 N1 (by omega) (by omega) (by omega) (by omega) (by omega) (hB.far hA a3) a2 (hS2 _ eE.symm) hj'
            refine ⟨N', T', ?_, f2, a3.trans f3, f4⟩
            have kn' : f_X5_numberIn Y A (nI x) (nI (rN isD t L x)) N = some (nI (dV t 100000 (rN isD t L x - x) x 0)) := kn9
            simp (disch := omega) only [nI_lit, nI_add, ↓reduceIte, pLEt, pLEf, pLTt, pLTf, pEQf, pML, pMG, pMf, pMg, hk, e700, xb_nI, nI_clamp, if_true, b2, eq_true (lt97.mpr (by omega)), eq_false (fun z => (by have := lt48.mp z; omega) : ¬ sb (t x) < nI 48), eq_false (fun z => (by have := gt57.mp z; omega) : ¬ nI 57 < sb (t x)), kr, bd_some, kn', a1]
            exact f1
          · -- a sign
            have nd : ¬ (48 ≤ t x ∧ t x ≤ 57) := fun z => d1 (decide_eq_true z)
            have eE : tE t L x = x + 1 := by unfold tE; rw [if_neg l1, if_neg d1]
            have kk : tK t L x = sgK (t x) := by unfold tK; rw [if_neg (by omega), if_neg l1, if_neg d1]
            have kn0 : tN t L x = 0 := by unfold tN; rw [if_neg (by omega), if_neg l1, if_neg d1]
            have ks := sgK_sb (Y := Y) b1 N
            obtain ⟨N1, a1, a2, a3⟩ := K_add g0 g1 g2 (by omega) hK (x := nI (sgK (t x))) (y := nI x) (z := nI 0) (by rw [eS, kk]) (by rw [eS]) (by rw [eS, kn0])
            obtain ⟨N', T', f1, f2, f3, f4⟩ := ih (x + 1) (i + 1) (T + 1) D8 N1 (by omega) (by omega) (by omega) (by omega) (by omega) (hB.far hA a3) a2 (hS2 _ eE.symm) hj'
            refine ⟨N', T', ?_, f2, a3.trans f3, f4⟩
            by_cases c1 : sb (t x) < nI 97
            · by_cases c2 : sb (t x) < nI 48
              · simp (disch := omega) only [nI_lit, nI_add, ↓reduceIte, pLEt, pLEf, pLTt, pLTf, pEQf, pML, pMG, pMf, pMg, hk, e700, xb_nI, nI_clamp, if_true, b2, eq_true c1, eq_true c2, ne32, ks, a1, bd_some]
                exact f1
              · have c3 : nI 57 < sb (t x) := gt57.mpr (by rw [lt48] at c2; rw [lt97] at c1; omega)
                simp (disch := omega) only [nI_lit, nI_add, ↓reduceIte, pLEt, pLEf, pLTt, pLTf, pEQf, pML, pMG, pMf, pMg, hk, e700, xb_nI, nI_clamp, if_true, b2, eq_true c1, eq_false c2, eq_true c3, ne32, ks, a1, bd_some]
                exact f1
            · have c4 : nI 122 < sb (t x) := gt122.mpr (by rw [lt97] at c1; omega)
              have c2 : ¬ sb (t x) < nI 48 := fun z => by rw [lt48] at z; rw [gt122] at c4; omega
              have c3 : nI 57 < sb (t x) := gt57.mpr (by rw [gt122] at c4; omega)
              simp (disch := omega) only [nI_lit, nI_add, ↓reduceIte, pLEt, pLEf, pLTt, pLTf, pEQf, pML, pMG, pMf, pMg, hk, e700, xb_nI, nI_clamp, if_true, b2, eq_false c1, eq_true c4, eq_false c2, eq_true c3, ne32, ks, a1, bd_some]
              exact f1
theorem K_split (g0 : gp Y Q 0 = Q + 1) (g1 : gp Y Q 1 = Q + 2) (g2 : gp Y Q 2 = Q + 3) (hk : kn Y A = 700) (hL : L ≤ 700) (hA : A < Q ∨ Q + 4 ≤ A) (hB : TB N A L t) : ∃ N' T', f_X5_split Y Q A (nI L) N = some N' ∧ TKm N' Q (T' + 1) L t ∧ tokf Q N N' ∧ tS t L T' = L ∧ T' ≤ 700 ∧ ∀ j, j < T' → tS t L j < L := by
  have hf : tokf Q N (si N Q 3 (nI 0)) := ⟨rfl, fun a q => si_row (by omega), fun j q => gi_si_n (Or.inr q)⟩
  obtain ⟨N', T', f1, f2, f3, f4⟩ := K_split_L g0 g1 g2 hk hL hA L 0 0 0 FU (si N Q 3 (nI 0)) (by omega) (by unfold FU; omega) (by omega) (by omega) (by omega) (hB.far hA hf) ⟨gi_si _ _ _ _, fun i hi => absurd hi (by omega)⟩ rfl (fun j hj => absurd hj (by omega))
  refine ⟨N', T', ?_, f2, hf.trans f3, f4⟩
  unfold f_X5_split
  simp only [↓lt_eq, nI_lit]
  exact f1
end SP

