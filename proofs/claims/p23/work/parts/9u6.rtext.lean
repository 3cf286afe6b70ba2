/-! A TREE'S TEXT -/
/-- what a text's making leaves -/
def RT (B q : Nat) (Y : XY) (N : XN) (ws : List Nat) (Y' : XY) (q' : Nat) (N' : XN) (r : Nat) : Prop := MK Y' q' ∧ q ≤ q' ∧ TF q Y N Y' N' ∧ (WT Y → WT Y') ∧ SR Y' N' B r ws ∧ (kc Y' (gp Y' r 0) = 41 ∨ q ≤ gp Y' r 0)
theorem ND.tf {D q : Nat} {Y Y' : XY} {N N' : XN} {a : Nat} {ops : List Int32} {tx : Nat → List Nat} {vl : (Nat → Int) → Int} (h : ND D Y N a ops tx vl) (hm : MK Y q) (hf : TF q Y N Y' N') : ND D Y' N' a ops tx vl :=
  h.keep D (fun b hb => by
    have x := hf b (hm.inn (by omega) (by omega))
    exact ⟨x.1.1.trans hb, x.2⟩)
section RTX
variable {SS SV : Nat → Nat} {B : Nat}
theorem R_120 {FS : XY → Nat → Nat → Int32 → XN → Option (Nat × XY × Nat × XN)} {D : Nat} (IH : ∀ {Y : XY} {q : Nat} {N : XN} {a : Nat} {ops : List Int32} {tx : Nat → List Nat} {vl : (Nat → Int) → Int} {lev : Nat}, ND D Y N a ops tx vl → (tx lev).length < 46 → lev ≤ 3 → MK Y q → B + 908 ≤ q → CX SS SV Y N B → ∃ Y' q' N' r, FS Y q a (nI lev) N = some (r, Y', q', N') ∧ RT B q Y N (tx lev) Y' q' N' r)
    {Z : XY} {M : XN} {q0 : Nat} (hm0 : MK Z q0) (hC : CX SS SV Z M B) {a r s b v : Nat} {ops : List Int32} {tx : Nat → List Nat} {vl : (Nat → Int) → Int} (hnd : ND D Z M r ops tx vl) (hka : kc Z a = 19) (hga : gr Z a 3 = some r) {Y : XY} {q : Nat} {N : XN} (ht : TF q0 Z M Y N) (hm : MK Y q) (hq : q0 ≤ q) {tl sg : List Nat} (hb : SBd q0 Y N b tl v) (hB : B + 908 ≤ q0) (hs : CT Z M B s sg) {ow lev k n : Nat} (how : ow ≤ 2) (hlev : lev ≤ 3) (hl : (brk ow lev (tl ++ (sg ++ tx (ow + 1)))).length < 46) (bk : k + 12 + rC 17 D ≤ rC 17 (D + 1) ∧ n + 2850 + rC 3300 D ≤ rC 3300 (D + 1)) :
    ∃ Y' q' N' r', f_X9_text_120 SS SV FS D Y q a (nI lev) (nI ow) s b k n N = some (r', Y', q', N') ∧ MK Y' q' ∧ q ≤ q' ∧ TF q0 Z M Y' N' ∧ (WT Y → WT Y') ∧ SR Y' N' B r' (brk ow lev (tl ++ (sg ++ tx (ow + 1)))) ∧ q0 ≤ gp Y' r' 0 := by
  have lin : tl.length + sg.length + (tx (ow + 1)).length + (if ow < lev then 2 else 0) < 46 := by
    unfold brk at hl
    split at hl
    · rename_i c
      rw [if_pos c]
      simp only [List.length_append, List.length_cons, List.length_nil] at hl
      omega
    · rename_i c
      rw [if_neg c]
      simp only [List.length_append] at hl
      omega
  have aq := hm0.inn (a := a) (by omega) (by omega)
  have kb := hb.1.1
  -- the sign
  have hsY := hs.tf hm0 ht
  obtain ⟨Y5, q6, N7, v5, a1, a2, a3, a4, a5, a6, a7⟩ := B_append hm hb hsY.1 (hsY.ne hb.2.1.2.1) (by omega) hq
  have t5 : TF q0 Z M Y5 N7 := ht.trans a5 (Nat.le_refl _)
  have ka5 : kc Y5 a = 19 := (t5 a aq).1.1.trans hka
  have ga5 : gr Y5 a 3 = some r := ((t5 a aq).2.1 3).trans hga
  have pa5 := gp_of ga5
  have nd5 := hnd.tf hm0 t5
  have kr5 := nd5.k
  -- the right side
  have eow : nI ow + nI 1 = nI (ow + 1) := nI_add _ _
  obtain ⟨Y15, q16, N17, r13, b1, b2, b3, b4, b5, b6, b7⟩ := IH (lev := ow + 1) nd5 (by omega) (by omega) a2 (by omega) (hC.tf hm0 t5)
  have bq := a2.inn (a := b) (by rw [a6.1.1]; omega) (by rw [a6.1.1]; omega)
  have vq := a2.inn (a := v5) (by rw [a6.2.1.2.1]; omega) (by rw [a6.2.1.2.1]; omega)
  have sb15 := a6.tf b4 bq vq
  have kb15 := sb15.1.1
  have ne15 : gp Y15 r13 0 ≠ v5 := fun z => by
    rcases b7 with b7 | b7
    · rw [z, sb15.2.1.2.1] at b7; omega
    · omega
  obtain ⟨Y22, q23, N24, v22, c1, c2, c3, c4, c5, c6, c7⟩ := B_append b2 sb15 b6 ne15 (by rw [List.length_append]; omega) (by omega)
  have kb22 := c6.1.1
  rw [List.append_assoc] at c6
  obtain ⟨Y29, N31, d1, d2, d3, d4, d5, d6⟩ := B_string (B := B) c2 c6 (by rw [List.length_append, List.length_append]; omega) (by omega)
  have t29 : TF q0 Z M Y29 N31 := (((t5.trans b4 (by omega)).trans c5 (Nat.le_refl _)).trans d4 (by omega))
  by_cases c : lev ≤ ow
  · refine ⟨Y29, q23 + 1 + 1, N31, q23, ?_, d2, by omega, t29, fun w => d3 (c4 (b5 (a4 w))), ?_, by omega⟩
    · unfold f_X9_text_120
      simp (disch := omega) only [↓ck, ↓lt_eq, nI_lit, ↓reduceIte, pLEt, pLEf, pLTt, pLTf, pEQf, pML, pMG, pMf, pMg, ↓bd_ite, ↓bd2_ite, ↓bd3_ite, ↓bd4_ite, Option.isSome_some, Option.getD_some, leT, and_self, kb, a1, ka5, ga5, pa5, kr5, eow, b1, kb15, c1, kb22, d1]
    · unfold brk
      rw [if_neg (by omega)]
      exact d5
  · have cl : ow < lev := by omega
    rw [if_pos cl] at lin
    have kq29 : kc Y29 (q23 + 1 + 1) = 9 ∧ kc Y29 (q23 + 1 + 1 + 1) = 0 := ⟨d2.1, d2.2 _ (Nat.lt_succ_self _)⟩
    obtain ⟨q30, hq30⟩ : ∃ x, x = q23 + 1 + 1 := ⟨_, rfl⟩
    rw [← hq30] at kq29 d1
    rw [show q23 + 2 = q30 by omega] at d2
    obtain ⟨Y40, N42, e1, e2, e3, e4, e5⟩ := B_init (N := N31) d2
    have t40 : TF q0 Z M Y40 N42 := t29.trans e3 (by omega)
    have s35 := hC.1.2.2.2.2.2.1.tf hm0 t40
    obtain ⟨Y47, q48, N49, v47, f1, f2, f3, f4, f5, f6, f7⟩ := B_append e2 e5 s35.1 (s35.ne e5.2.1.2.1) (show 0 + 1 < 50 by omega) (by omega)
    have t47 : TF q0 Z M Y47 N49 := t40.trans f5 (by omega)
    obtain ⟨g1, g2, g3⟩ := d5.tf d2 (e3.trans f5 (Nat.le_refl _))
    have v47' := f6.2.1.2.2.1
    obtain ⟨Y54, q55, N56, v54, h1, h2, h3, h4, h5, h6, h7⟩ := B_append f2 f6 g1 (by omega) (by simp only [List.length_append, List.length_cons, List.length_nil]; omega) (by omega)
    have t54 : TF q0 Z M Y54 N56 := t47.trans h5 (by omega)
    have s36 := hC.1.2.2.2.2.2.2.tf hm0 t54
    obtain ⟨Y61, q62, N63, v61, i1, i2, i3, i4, i5, i6, i7⟩ := B_append h2 h6 s36.1 (s36.ne h6.2.1.2.1) (by simp only [List.length_append, List.length_cons, List.length_nil]; omega) (by omega)
    obtain ⟨Y68, N70, j1, j2, j3, j4, j5, j6⟩ := B_string (B := B) i2 i6 (by simp only [List.length_append, List.length_cons, List.length_nil]; omega) (by omega)
    have k40 := e5.1.1
    have k47 := f6.1.1
    have k54 := h6.1.1
    have k61 := i6.1.1
    refine ⟨Y68, q62 + 1 + 1, N70, q62, ?_, j2, by omega, (t54.trans i5 (by omega)).trans j4 (by omega), fun w => j3 (i4 (h4 (f4 (e4 (d3 (c4 (b5 (a4 w)))))))), ?_, by omega⟩
    · unfold f_X9_text_120
      simp (disch := omega) only [↓ck, ↓lt_eq, nI_lit, ↓reduceIte, pLEt, pLEf, pLTt, pLTf, pEQf, pML, pMG, pMf, pMg, ↓bd_ite, ↓bd2_ite, ↓bd3_ite, ↓bd4_ite, Option.isSome_some, Option.getD_some, leT, and_self, kb, a1, ka5, ga5, pa5, kr5, eow, b1, kb15, c1, kb22, d1, eq_true kq29, e1, k40, f1, k47, h1, k54, i1, k61, j1]
    · unfold brk
      rw [if_pos cl]
      have ee : [] ++ [40] ++ (tl ++ (sg ++ tx (ow + 1))) ++ [41] = 40 :: (tl ++ (sg ++ tx (ow + 1)) ++ [41]) := rfl
      rw [← ee]
      exact j5
theorem R_text : ∀ (D : Nat) {Y : XY} {q : Nat} {N : XN} {a : Nat} {ops : List Int32} {tx : Nat → List Nat} {vl : (Nat → Int) → Int} {lev : Nat}, ND D Y N a ops tx vl → (tx lev).length < 46 → lev ≤ 3 → MK Y q → B + 908 ≤ q → CX SS SV Y N B → ∃ Y' q' N' r, f_X9_text SS SV D Y q a (nI lev) N = some (r, Y', q', N') ∧ RT B q Y N (tx lev) Y' q' N' r := by
  intro D
  induction D with
  | zero => intro Y q N a ops tx vl lev h; exact h.elim
  | succ D IH =>
    intro Y q N a ops tx vl lev h hl h3 hm hB hC
    obtain ⟨ka, h⟩ := h
    have aq := hm.inn (a := a) (by omega) (by omega)
    have kq : kc Y q = 9 ∧ kc Y (q + 1) = 0 := ⟨hm.1, hm.2 _ (Nat.lt_succ_self _)⟩
    rcases h with ⟨v, hv, g0, g1, -, rfl, -⟩ | ⟨v, hv, g0, g1, -, rfl, -⟩ | ⟨c, p, r, lo, ro, lt', rt, lv, rv, hc, g0, gl, gr', ndl, ndr, -, rfl, -⟩
    · have hl : (dgs v).length < 46 := hl
      obtain ⟨Y8, N10, a1, a2, a3, a4, a5⟩ := B_init (N := N) hm
      have kq8 := a5.1.1
      have s30 := hC.1.1.tf hm a3
      obtain ⟨Y14, q15, N16, v14, b1, b2, b3, b4, b5, b6, b7⟩ := B_append a2 a5 s30.1 (s30.ne a5.2.1.2.1) (show 0 + 0 < 50 by omega) (by omega)
      have t14 : TF q Y N Y14 N16 := a3.trans b5 (Nat.le_refl _)
      have ka14 : kc Y14 a = 19 := (t14 a aq).1.1.trans ka
      have g14 : gi N16 a 1 = nI v := ((t14 a aq).2.2 1).trans g1
      have k14 := b6.1.1
      obtain ⟨Y21, q22, N23, v21, c1, c2, c3, c4, c5, c6, c7⟩ := B_number (SS := SS) b2 b6 (hC.2.1.tf hm t14) hv (show 0 < 40 by omega) (by omega)
      have k21 := c6.1.1
      have e0 : ([] : List Nat) ++ [] ++ NT v = dgs v := (dgs_NT hv).symm
      rw [e0] at c6
      obtain ⟨Y27, N29, d1, d2, d3, d4, d5, d6⟩ := B_string (B := B) c2 c6 (by omega) (by omega)
      refine ⟨Y27, q22 + 1 + 1, N29, q22, ?_, d2, by omega, (t14.trans c5 (Nat.le_refl _)).trans d4 (by omega), fun w => d3 (c4 (b4 (a4 w))), d5, Or.inr (by omega)⟩
      rw [f_X9_text]
      simp (disch := omega) only [↓ck, ↓lt_eq, nI_lit, ↓reduceIte, pLEt, pLEf, pLTt, pLTf, pEQf, pML, pMG, pMf, pMg, ↓bd_ite, ↓bd2_ite, ↓bd3_ite, ↓bd4_ite, Option.isSome_some, Option.getD_some, ka, g0, eq_true kq, a1, kq8, b1, ka14, k14, g14, c1, k21, d1]
    · obtain ⟨k2, n2, f2⟩ := hC.2.2
      obtain ⟨s, s1, s2⟩ := f2 v hv
      have p2 := gp_of s1
      refine ⟨Y, q, N, s, ?_, hm, Nat.le_refl _, TF.rfl', fun w => w, s2.1, Or.inl s2.2.2⟩
      rw [f_X9_text]
      simp (disch := omega) only [↓ck, ↓lt_eq, nI_lit, nI_clamp, xb_nI, ↓reduceIte, pLEt, pLEf, pLTt, pLTf, pEQf, pML, pMG, pMf, pMg, ka, g0, g1, k2, n2, s1, p2]
    · have hl : (brk (own c) lev (lt' (own c) ++ (sgn c ++ rt (own c + 1)))).length < 46 := hl
      have e17 : rC 17 (D + 1) = 17 + 2 * rC 17 D := rfl
      have e33 : rC 3300 (D + 1) = 3300 + 2 * rC 3300 D := rfl
      have hsub : (lt' (own c)).length ≤ (brk (own c) lev (lt' (own c) ++ (sgn c ++ rt (own c + 1)))).length := by
        unfold brk
        split <;> simp only [List.length_append, List.length_cons, List.length_nil] <;> omega
      have how : own c ≤ 2 ∧ 1 ≤ own c := by unfold own; split <;> omega
      obtain ⟨Y8, N10, a1, a2, a3, a4, a5⟩ := B_init (N := N) hm
      have ka8 : kc Y8 a = 19 := (a3 a aq).1.1.trans ka
      have gl8 : gr Y8 a 2 = some p := ((a3 a aq).2.1 2).trans gl
      have pl8 := gp_of gl8
      have nd8 := ndl.tf hm a3
      have kp8 := nd8.k
      obtain ⟨Y18, q19, N20, r16, b1, b2, b3, b4, b5, b6, b7⟩ := IH (lev := own c) nd8 (by omega) (by omega) a2 (by omega) (hC.tf hm a3)
      have sb18 := a5.tf b4 (by omega) (by omega)
      have k18 := sb18.1.1
      have ne18 : gp Y18 r16 0 ≠ q + 1 := fun z => by
        rcases b7 with b7 | b7
        · rw [z, sb18.2.1.2.1] at b7; omega
        · omega
      obtain ⟨Y25, q26, N27, v25, c1, c2, c3, c4, c5, c6, c7⟩ := B_append b2 sb18 b6 ne18 (show 0 + (lt' (own c)).length < 50 by omega) (by omega)
      have t25 : TF q Y N Y25 N27 := (a3.trans b4 (by omega)).trans c5 (Nat.le_refl _)
      have ka25 : kc Y25 a = 19 := (t25 a aq).1.1.trans ka
      have g25 : gi N27 a 0 = nI c := ((t25 a aq).2.2 0).trans g0
      have fin : ∀ s sg, CT Y N B s sg → sg = sgn c → ∃ Y' q' N' r', f_X9_text_120 SS SV (f_X9_text SS SV D) D Y25 q26 a (nI lev) (nI (own c)) s q (0 + 1 + 1 + rC 17 D + 1) (0 + 4 + 16 + rC 3300 D + 400) N27 = some (r', Y', q', N') ∧ RT B q Y N (brk (own c) lev (lt' (own c) ++ (sgn c ++ rt (own c + 1)))) Y' q' N' r' := fun s sg hs hsg => by
        subst hsg
        obtain ⟨Y', q', N', r', f1, f2, f3, f4, f5, f6, f7⟩ := R_120 (SS := SS) (SV := SV) (FS := f_X9_text SS SV D) IH hm hC ndr ka gr' t25 c2 (by omega) c6 hB hs (ow := own c) (lev := lev) (k := 0 + 1 + 1 + rC 17 D + 1) (n := 0 + 4 + 16 + rC 3300 D + 400) how.1 h3 hl ⟨by omega, by omega⟩
        exact ⟨Y', q', N', r', f1, f2, by omega, f4, fun w => f5 (c4 (b5 (a4 w))), f6, Or.inr f7⟩
      obtain ⟨s31, s32, s33, s34⟩ := (⟨hC.1.2.1, hC.1.2.2.1, hC.1.2.2.2.1, hC.1.2.2.2.2.1⟩ : CT Y N B (SS 31) [43] ∧ CT Y N B (SS 32) [32, 45, 32] ∧ CT Y N B (SS 33) [42, 32] ∧ CT Y N B (SS 34) [47])
      have key : ∃ Y' q' N' r', f_X9_text_60 SS SV (f_X9_text SS SV D) D Y q a (nI lev) (nI (own c)) 0 0 N = some (r', Y', q', N') ∧ RT B q Y N (brk (own c) lev (lt' (own c) ++ (sgn c ++ rt (own c + 1)))) Y' q' N' r' := by
        have hd : ∀ s, (∃ Y' q' N' r', f_X9_text_120 SS SV (f_X9_text SS SV D) D Y25 q26 a (nI lev) (nI (own c)) s q (0 + 1 + 1 + rC 17 D + 1) (0 + 4 + 16 + rC 3300 D + 400) N27 = some (r', Y', q', N') ∧ RT B q Y N (brk (own c) lev (lt' (own c) ++ (sgn c ++ rt (own c + 1)))) Y' q' N' r') → s = (if c = 2 then SS 31 else if c = 3 then SS 32 else if c = 4 then SS 33 else SS 34) → ∃ Y' q' N' r', f_X9_text_60 SS SV (f_X9_text SS SV D) D Y q a (nI lev) (nI (own c)) 0 0 N = some (r', Y', q', N') ∧ RT B q Y N (brk (own c) lev (lt' (own c) ++ (sgn c ++ rt (own c + 1)))) Y' q' N' r' := by
          rintro s ⟨Y', q', N', r', f1, f2⟩ rfl
          refine ⟨Y', q', N', r', ?_, f2⟩
          unfold f_X9_text_60
          rcases (by omega : c = 2 ∨ c = 3 ∨ c = 4 ∨ c = 5) with e | e | e | e <;> (rw [e] at g25; simp only [e, reduceIte, Nat.reduceEqDiff] at f1; simp (disch := omega) only [↓ck, ↓lt_eq, nI_lit, ↓reduceIte, pLEt, pLEf, pLTt, pLTf, pEQf, pML, pMG, pMf, pMg, ↓bd_ite, ↓bd2_ite, ↓bd3_ite, ↓bd4_ite, Option.isSome_some, Option.getD_some, leT, and_self, e, eq_true kq, a1, ka8, gl8, pl8, kp8, e ▸ b1, k18, c1, ka25, g25]; exact f1)
        rcases (by omega : c = 2 ∨ c = 3 ∨ c = 4 ∨ c = 5) with e | e | e | e
        · exact hd _ (fin _ _ s31 (by rw [e]; rfl)) (by rw [e]; rfl)
        · exact hd _ (fin _ _ s32 (by rw [e]; rfl)) (by rw [e]; rfl)
        · exact hd _ (fin _ _ s33 (by rw [e]; rfl)) (by rw [e]; rfl)
        · exact hd _ (fin _ _ s34 (by rw [e]; rfl)) (by rw [e]; rfl)
      obtain ⟨Y', q', N', r', f1, f2⟩ := key
      refine ⟨Y', q', N', r', ?_, f2⟩
      rw [f_X9_text]
      by_cases c4 : 4 ≤ c
      · have eo : own c = 2 := by unfold own; rw [if_neg (by omega)]
        rw [eo] at f1
        simp (disch := omega) only [↓ck, nI_lit, ↓reduceIte, pLEt, pLEf, pLTt, pLTf, pEQf, pML, pMG, pMf, pMg, ka, g0]
        exact f1
      · have eo : own c = 1 := by unfold own; rw [if_pos (by omega)]
        rw [eo] at f1
        simp (disch := omega) only [↓ck, nI_lit, ↓reduceIte, pLEt, pLEf, pLTt, pLTf, pEQf, pML, pMG, pMf, pMg, ka, g0]
        exact f1
end RTX
