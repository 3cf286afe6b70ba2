/-! THE CLASS READS A FINE (first rows: of whole) -/
theorem okS_app {x : Int32} : ∀ (l : List Int32) (h s : Nat), okS l h = some s → okS (l ++ [x]) h = okS [x] s := by
  intro l
  induction l with
  | nil => intro h s q; cases q; rfl
  | cons y l ih =>
    intro h s q
    rw [okS] at q
    show okS (y :: (l ++ [x])) h = _
    rw [okS]
    by_cases q1 : isOp y = true
    · rw [if_pos q1] at q ⊢
      by_cases q2 : 2 ≤ h
      · rw [if_pos q2] at q ⊢; exact ih _ _ q
      · rw [if_neg q2] at q; cases q
    · rw [if_neg q1] at q ⊢
      by_cases q3 : isLeaf y = true
      · rw [if_pos q3] at q ⊢
        by_cases q2 : h < 16
        · rw [if_pos q2] at q ⊢; exact ih _ _ q
        · rw [if_neg q2] at q; cases q
      · rw [if_neg q3] at q; cases q
theorem encs_app {x : Int32} : ∀ (l : List Int32), encs (l ++ [x]) = encs l ++ enc x := by
  intro l
  induction l with
  | nil => show enc x ++ [] = [] ++ enc x; rw [List.append_nil]; rfl
  | cons y l ih =>
    show enc y ++ encs (l ++ [x]) = (enc y ++ encs l) ++ enc x
    rw [ih, List.append_assoc]
theorem enc_len {x : Int32} : (isOp x = true → (enc x).length = 1) ∧ (isOp x = false → (enc x).length = 2) := by
  unfold enc isOp
  by_cases q6 : x = -nI 6
  · rw [if_pos q6, decide_eq_true q6, Bool.true_or, Bool.true_or, Bool.true_or]; exact ⟨fun _ => rfl, fun h => by cases h⟩
  · rw [if_neg q6, decide_eq_false q6, Bool.false_or]
    by_cases q7 : x = -nI 7
    · rw [if_pos q7, decide_eq_true q7, Bool.true_or, Bool.true_or]; exact ⟨fun _ => rfl, fun h => by cases h⟩
    · rw [if_neg q7, decide_eq_false q7, Bool.false_or]
      by_cases q8 : x = -nI 8
      · rw [if_pos q8, decide_eq_true q8, Bool.true_or]; exact ⟨fun _ => rfl, fun h => by cases h⟩
      · rw [if_neg q8, decide_eq_false q8, Bool.false_or]
        by_cases q9 : x = -nI 9
        · rw [if_pos q9, decide_eq_true q9]; exact ⟨fun _ => rfl, fun h => by cases h⟩
        · rw [if_neg q9, decide_eq_false q9]
          refine ⟨(fun h => by cases h), fun _ => ?_⟩
          (repeat' split) <;> rfl
theorem encs_len : ∀ (l : List Int32) (h s : Nat), okS l h = some s → 2 * (encs l).length + h = 3 * l.length + s := by
  intro l
  induction l with
  | nil => intro h s q; cases q; show 2 * 0 + h = 3 * 0 + h; omega
  | cons y l ih =>
    intro h s q
    show 2 * (enc y ++ encs l).length + h = 3 * (l.length + 1) + s
    rw [List.length_append]
    cases hop : isOp y with
    | true =>
      obtain ⟨h2, q2⟩ := okS_op hop q
      have := ih _ _ q2
      have := enc_len.1 hop
      omega
    | false =>
      obtain ⟨-, h2, q2⟩ := okS_leaf hop q
      have := ih _ _ q2
      have := enc_len.2 hop
      omega
section CO9
variable {Y : XY} {N N2 : XN} {B T L m a w : Nat} {t : Nat → Nat} {c c' : Nat → Nat → Int32} {g h h0 e e' : XD} {P : Nat → Int32} {ops ops' : List Int32}
theorem QD.code (hQ : QD P ops e c) (hs : ∀ j, j ≠ 10 → j ≠ 11 → (j < 584 ∨ 1784 ≤ j) → e' j = e j) (hM : MC ops' e') (hF : FC P ops' c') (hc : ∀ o k, o ≠ 4 → o ≠ 5 → c' o k = c o k) : QD P ops' e' c' := by
  obtain ⟨hD, ⟨⟨w1, w2, w3, w4, w5⟩, hC2, hC3⟩, h0, z1, z2, z3⟩ := hQ
  have h6 := hD.H6
  have h8 := hD.L8
  have h60 := hD.R60
  have q0 := hs 0 (by omega) (by omega) (by omega)
  have q1 := hs 1 (by omega) (by omega) (by omega)
  have q2 := hs 2 (by omega) (by omega) (by omega)
  have q3 := hs 3 (by omega) (by omega) (by omega)
  have z3' : ∀ r, r < nR e' → e' (107 + 8 * r) = nI 0 := fun r hr => by
    rw [nR_same q3] at hr
    rw [hs _ (by omega) (by omega) (by omega)]; exact z3 r hr
  refine ⟨?_, ⟨?_, hF, fun i hi => ?_⟩, ?_, fun j b1 b2 => ?_, fun j b1 b2 => ?_, z3'⟩
  · obtain ⟨a1, a2, a3, a4, a5, a6, a7, a8, a9⟩ := hD
    unfold DJ
    rw [nH_same q1, nL_same q2, nR_same q3, tM_same q0, q0, q1, q2, q3, hs 8 (by omega) (by omega) (by omega)]
    refine ⟨a1, a2, a3, a4, a5, fun i hi => ?_, fun l hl => ?_, fun r hr => ?_, hM⟩
    · rw [hs _ (by omega) (by omega) (by omega)]; exact a6 i hi
    · exact LN_same (fun k hk => hs _ (by omega) (by omega) (by omega)) (a7 l hl)
    · exact RQ_same (fun k hk => hs _ (by omega) (by omega) (by omega)) (a8 r hr)
  · rw [nH_same q1, nL_same q2, nR_same q3]
    refine ⟨fun k' j' h' => ?_, fun i' k' j' hi' h' => ?_, fun i' k' j' hi' h' => ?_, fun i' k' hi' h3' h' => ?_, fun i' k' j' hi' h' => ?_⟩
    · have b' := h'.b; rw [hc _ _ (by omega) (by omega), hs _ (by omega) (by omega) (by omega)]; exact w1 k' j' h'
    · have b' := h'.b; rw [hc _ _ (by omega) (by omega), hs _ (by omega) (by omega) (by omega)]; exact w2 i' k' j' hi' h'
    · have b' := h'.b; rw [hc _ _ (by omega) (by omega), hs _ (by omega) (by omega) (by omega)]; exact w3 i' k' j' hi' h'
    · rw [nT_same (hs _ (by omega) (by omega) (by omega))] at h'
      rw [hc _ _ (by omega) (by omega), hs _ (by omega) (by omega) (by omega)]; exact w4 i' k' hi' h3' h'
    · have b' := h'.b; rw [hc _ _ (by omega) (by omega), hs _ (by omega) (by omega) (by omega)]; exact w5 i' k' j' hi' h'
  · rw [nH_same q1] at hi
    rw [held0 z3', hc _ _ (by omega) (by omega), hC3 i hi, held0 z3]
  · rw [q0]; exact h0
  · rw [nH_same q1] at b1
    rw [hs _ (by omega) (by omega) (by omega)]; exact z1 j b1 b2
  · rw [nL_same q2] at b1
    rw [hs _ (by omega) (by omega) (by omega)]; exact z2 j b1 b2
theorem FC.step (hF : FC P ops c) {x : Int32} : FC P (ops ++ [x]) (cStep c ops.length x) := by
  obtain ⟨⟨f1, f2⟩, f3⟩ := hF
  unfold cStep
  refine ⟨⟨?_, fun i hi => ?_⟩, fun k hk => ?_⟩
  · rw [up2_s, List.length_append]; rfl
  · rw [List.length_append] at hi
    have hi' : i < ops.length + 1 := hi
    rw [up2_n _ _ (by omega)]
    by_cases q : i = ops.length
    · rw [q, up2_s]
      simp [List.getD]
    · rw [up2_n _ _ (by omega), f2 i (by omega)]
      simp [List.getD, List.getElem?_append_left (show i < ops.length by omega)]
  · rw [up2_n _ _ (by omega), up2_n _ _ (by omega)]; exact f3 k hk
def eCode (e : XD) (n : Nat) : List Int32 → XD
  | [] => e
  | x :: l => eCode (upd (upd e (584 + n) x) 11 (nI (n + 1))) (n + 1) l
theorem eCode_at : ∀ (l : List Int32) (n : Nat) (e : XD), e 11 = nI n → eCode e n l 11 = nI (n + l.length) ∧ (∀ j, j ≠ 11 → (j < 584 + n ∨ 584 + n + l.length ≤ j) → eCode e n l j = e j) ∧ ∀ i, i < l.length → eCode e n l (584 + n + i) = l.getD i 0 := by
  intro l
  induction l with
  | nil => intro n e h; exact ⟨h, fun j _ _ => rfl, fun i hi => absurd hi (Nat.not_lt_zero i)⟩
  | cons x l ih =>
    intro n e h
    obtain ⟨i1, i2, i3⟩ := ih (n + 1) (upd (upd e (584 + n) x) 11 (nI (n + 1))) (upd_s _ _ _)
    have hl : (x :: l).length = l.length + 1 := rfl
    refine ⟨?_, fun j h1 h2 => ?_, fun i hi => ?_⟩
    · rw [eCode, i1, hl]
      congr 1
      omega
    · rw [eCode, i2 j h1 (by omega), upd_n h1, upd_n (by omega)]
    · rw [eCode]
      cases i with
      | zero => rw [i2 _ (by omega) (by omega), upd_n (by omega), Nat.add_zero, upd_s]; rfl
      | succ i => rw [show 584 + n + (i + 1) = 584 + (n + 1) + i by omega, i3 i (by omega)]; rfl
theorem QD.step (hQ : QD P ops e c) {s s' : Nat} {x : Int32} (ho : okS ops 0 = some s) (ho' : okS [x] s = some s') (hl : ops.length < 700) (hs' : s' ≤ 16) : QD P (ops ++ [x]) (eCode e (encs ops).length (enc x)) (cStep c ops.length x) ∧ okS (ops ++ [x]) 0 = some s' := by
  have ho2 : okS (ops ++ [x]) 0 = some s' := by rw [okS_app ops 0 s ho]; exact ho'
  obtain ⟨-, m2, m3, m4, m5⟩ := hQ.1.C
  obtain ⟨b1, b2, b3⟩ := eCode_at (enc x) (encs ops).length e m4
  have el := encs_len _ _ _ ho2
  have ll : (ops ++ [x]).length = ops.length + 1 := by rw [List.length_append]; rfl
  have lc : (encs (ops ++ [x])).length = (encs ops).length + (enc x).length := by rw [encs_app, List.length_append]
  refine ⟨hQ.code (fun j h1 h2 h3 => b2 j h2 (by omega)) ⟨⟨s', ho2⟩, by omega, by omega, by rw [lc]; exact b1, fun i hi => ?_⟩ hQ.2.1.2.1.step (fun o k h1 h2 => ?_), ho2⟩
  · rw [lc] at hi
    rw [encs_app]
    by_cases q : i < (encs ops).length
    · rw [b2 _ (by omega) (by omega), m5 i q]
      simp [List.getD, List.getElem?_append_left q]
    · have := b3 (i - (encs ops).length) (by omega)
      rw [show 584 + (encs ops).length + (i - (encs ops).length) = 584 + i by omega] at this
      rw [this]
      simp [List.getD, List.getElem?_append_right (show (encs ops).length ≤ i by omega)]
  · unfold cStep
    rw [up2_n _ _ (by omega), up2_n _ _ (by omega)]
theorem KS_step (hR : RD Y B) {c : Nat → Nat → Int32} {g : XD} {n : Nat} (hn : n < 700) (h4 : c 4 1 = nI n) {x : Int32} : f_X0_addStep Y (B + 97 + 4) x (KS N B c g) = some (KS N B (cStep c n x) g) := by
  rw [KS_w, C_addStep hR.2.2.2.2.2 hn h4, ← KS_w]
theorem leaf_ok {x : Int32} {s : Nat} (h1 : isOp x = false) (h2 : isLeaf x = true) (hs : s < 16) : okS [x] s = some (s + 1) := by
  rw [okS, if_neg (by rw [h1]; decide), if_pos h2, if_pos hs]
  rfl
theorem op_ok {x : Int32} {s : Nat} (h1 : isOp x = true) : okS [x] (s + 2) = some (s + 1) := by
  rw [okS, if_pos h1, if_pos (by omega)]
  rfl
end CO9
/-- rows that are told apart by the fine alone -/
def EQC (e e' : XD) : Prop := ∀ j, j ≠ 10 → j ≠ 11 → (j < 584 ∨ 1784 ≤ j) → e' j = e j
theorem eCode_far {e : XD} {n : Nat} {l : List Int32} (h : e 11 = nI n) (hb : n + l.length ≤ 1200) : EQC e (eCode e n l) := fun j h1 h2 h3 => (eCode_at l n e h).2.1 j h2 (by omega)
/-- the reader stands at the token a -/
def SV (B T L : Nat) (t : Nat → Nat) (P : Nat → Int32) (e0 : XD) (x6 : Int32) (k a : Nat) (c : Nat → Nat → Int32) (g : XD) (ops : List Int32) (s : Nat) (rest : List (Nat × Nat)) : Prop := (∃ e, EQC e0 e ∧ QD P ops e c) ∧ okS ops 0 = some s ∧ ops.length + k ≤ a ∧ a ≤ T ∧ g 4 = nI a ∧ g 6 = x6 ∧ TSQ t L (tS t L a) rest
section SVS
variable {Y : XY} {N : XN} {B T L a k s : Nat} {t : Nat → Nat} {c : Nat → Nat → Int32} {g e0 : XD} {P : Nat → Int32} {x6 : Int32} {ops : List Int32} {rest : List (Nat × Nat)}
theorem SV.tok {kd n : Nat} (h : SV B T L t P e0 x6 k a c g ops s ((kd, n) :: rest)) (hT : TK9 N B T L t) (hk : kd ≠ 0) {g' : XD} (h4 : g' 4 = nI (a + 1)) (h6 : g' 6 = g 6) : SV B T L t P e0 x6 (k + 1) (a + 1) c g' ops s rest := by
  obtain ⟨h1, h2, h3, h5, h7, h8, h9⟩ := h
  obtain ⟨a1, -, -, s1⟩ := h9.hd hT h5 hk
  exact ⟨h1, h2, by omega, a1, h4, h6.trans h8, s1⟩
theorem SV.step (h : SV B T L t P e0 x6 (k + 1) a c g ops s rest) (hR : RD Y B) (hT : TK9 N B T L t) {x : Int32} {s' : Nat} (ho : okS [x] s = some s') (hs : s' ≤ 16) : f_X0_addStep Y (B + 97 + 4) x (KS N B c g) = some (KS N B (cStep c ops.length x) g) ∧ SV B T L t P e0 x6 k a (cStep c ops.length x) g (ops ++ [x]) s' rest := by
  obtain ⟨⟨e, h1, hQ⟩, h2, h3, h5, h7, h8, h9⟩ := h
  have hT7 := hT.2.2.1
  have h41 : c 4 1 = nI ops.length := hQ.2.1.2.1.1.1
  obtain ⟨q1, q2⟩ := hQ.step h2 ho (by omega) hs
  obtain ⟨-, -, m3, m4, -⟩ := hQ.1.C
  obtain ⟨-, -, n3, -, -⟩ := q1.1.C
  refine ⟨KS_step hR (by omega) h41, ⟨_, fun j j1 j2 j3 => ?_, q1⟩, q2, ?_, h5, h7, h8, h9⟩
  · rw [encs_app, List.length_append] at n3
    exact (eCode_far m4 n3 j j1 j2 j3).trans (h1 j j1 j2 j3)
  · rw [List.length_append]
    show ops.length + 1 + k ≤ a
    omega
/-- a factor of these tokens, these steps -/
def CFp (Y : XY) (N : XN) (B T L : Nat) (t : Nat → Nat) (P : Nat → Int32) (e0 : XD) (x6 : Int32) (tk : List (Nat × Nat)) (o : List Int32) (D v1 s : Nat) : Prop := ∀ (k a : Nat) (c : Nat → Nat → Int32) (g : XD) (ops : List Int32) (rest : List (Nat × Nat)), SV B T L t P e0 x6 k a c g ops s (tk ++ rest) → ∃ a' c' g', b_X4_readsFactor Y (f_X4_S Y D) (B + 6) (nI v1) (KS N B c g) = some (nI 1, KS N B c' g') ∧ SV B T L t P e0 x6 k a' c' g' (ops ++ o) (s + 1) rest
def CTp (Y : XY) (N : XN) (B T L : Nat) (t : Nat → Nat) (P : Nat → Int32) (e0 : XD) (x6 : Int32) (m : Nat) (tk : List (Nat × Nat)) (o : List Int32) (D v1 s : Nat) : Prop := ∀ (k a : Nat) (c : Nat → Nat → Int32) (g : XD) (ops : List Int32) (rest : List (Nat × Nat)), SV B T L t P e0 x6 k a c g ops s (tk ++ rest) → ∃ a' c' g' i, i ≤ m ∧ b_X4_readsTerm Y (f_X4_S Y D) (B + 6) (nI v1) (KS N B c g) = f_X4_readsTerm_8 Y (f_X4_S Y D) (FU - i) (B + 6) (nI v1) (nI 1) (nI i) (KS N B c' g') ∧ SV B T L t P e0 x6 k a' c' g' (ops ++ o) (s + 1) rest
def CSp (Y : XY) (N : XN) (B T L : Nat) (t : Nat → Nat) (P : Nat → Int32) (e0 : XD) (x6 : Int32) (m : Nat) (tk : List (Nat × Nat)) (o : List Int32) (D v1 s : Nat) : Prop := ∀ (k a : Nat) (c : Nat → Nat → Int32) (g : XD) (ops : List Int32) (kd n : Nat) (rest : List (Nat × Nat)), kd ≠ 8 → kd ≠ 9 → kd < 24 → SV B T L t P e0 x6 k a c g ops s (tk ++ (kd, n) :: rest) → ∃ a' c' g' i, i ≤ m ∧ b_X4_readsSum Y (f_X4_S Y D) (B + 6) (nI v1) (KS N B c g) = f_X4_readsSum_8 Y (f_X4_S Y D) (FU - i) (B + 6) (nI v1) (nI 1) (nI i) (KS N B c' g') ∧ SV B T L t P e0 x6 k a' c' g' (ops ++ o) (s + 1) ((kd, n) :: rest)
theorem CTp.mono {m m' D v1 : Nat} {tk : List (Nat × Nat)} {o : List Int32} (h : CTp Y N B T L t P e0 x6 m tk o D v1 s) (hm : m ≤ m') : CTp Y N B T L t P e0 x6 m' tk o D v1 s := fun k a c g ops rest q => by
  obtain ⟨a', c', g', i, i1, i2, i3⟩ := h k a c g ops rest q
  exact ⟨a', c', g', i, by omega, i2, i3⟩
theorem CSp.mono {m m' D v1 : Nat} {tk : List (Nat × Nat)} {o : List Int32} (h : CSp Y N B T L t P e0 x6 m tk o D v1 s) (hm : m ≤ m') : CSp Y N B T L t P e0 x6 m' tk o D v1 s := fun k a c g ops kd n rest q1 q2 q3 q => by
  obtain ⟨a', c', g', i, i1, i2, i3⟩ := h k a c g ops kd n rest q1 q2 q3 q
  exact ⟨a', c', g', i, by omega, i2, i3⟩
theorem fu_1 (D i : Nat) (h : i < 4000) : ∃ z, FU - i = z + 1 ∧ FU - (i + 1) = z := ⟨FU - i - 1, by unfold FU; omega, by omega⟩
theorem T_of_F {D v1 : Nat} {tk : List (Nat × Nat)} {o : List Int32} (h : CFp Y N B T L t P e0 x6 tk o D v1 s) : CTp Y N B T L t P e0 x6 0 tk o (D + 1) v1 s := fun k a c g ops rest q => by
  obtain ⟨a', c', g', i2, i3⟩ := h k a c g ops rest q
  refine ⟨a', c', g', 0, Nat.le_refl _, ?_, i3⟩
  unfold b_X4_readsTerm
  have e : f_X4_S Y (D + 1) 2 (B + 6) (nI v1) (KS N B c g) = some (nI 1, KS N B c' g') := by
    rw [f_X4_S, if_neg (by decide), if_neg (by decide)]
    exact i2
  rw [e, bd2_some]
  rfl
theorem S_of_T {m D v1 : Nat} {tk : List (Nat × Nat)} {o : List Int32} (h : CTp Y N B T L t P e0 x6 m tk o D v1 s) (hm : m < 700) (hR : RD Y B) (hT : TK9 N B T L t) : CSp Y N B T L t P e0 x6 0 tk o (D + 1) v1 s := fun k a c g ops kd n rest k8 k9 k24 q => by
  obtain ⟨a', c', g', i, i1, i2, i3⟩ := h k a c g ops _ q
  obtain ⟨z, z1, -⟩ := fu_1 D i (by omega)
  have kd' := V_kind (N := N) (c := c') hR hT i3.2.2.2.1 i3.2.2.2.2.1 i3.2.2.2.2.2.2
  refine ⟨a', c', g', 0, Nat.le_refl _, ?_, i3⟩
  unfold b_X4_readsSum
  have e : f_X4_S Y (D + 1) 1 (B + 6) (nI v1) (KS N B c g) = some (nI 1, KS N B c' g') := by
    rw [f_X4_S, if_neg (by decide), if_pos rfl, i2, z1, f_X4_readsTerm_8]
    simp (disch := omega) only [nI_lit, ↓reduceIte, pLEt, pLEf, pLTt, pLTf, pEQf, pML, pMG, pMf, pMg, nz10, kd', bd_some, xz1]
  rw [e, bd2_some]
  rfl
theorem F_of_S {m D v1 : Nat} {tk : List (Nat × Nat)} {o : List Int32} (h : CSp Y N B T L t P e0 x6 m tk o D (v1 + 1) s) (hv : v1 < 4) (hm : m < 700) (hR : RD Y B) (hT : TK9 N B T L t) : CFp Y N B T L t P e0 x6 ((4, 0) :: (tk ++ [(5, 0)])) o (D + 1) v1 s := fun k a c g ops rest q => by
  have q' : SV B T L t P e0 x6 k a c g ops s ((4, 0) :: (tk ++ (5, 0) :: rest)) := by
    have e : (4, 0) :: (tk ++ [(5, 0)]) ++ rest = (4, 0) :: (tk ++ (5, 0) :: rest) := by
      show (4, 0) :: (tk ++ [(5, 0)] ++ rest) = _
      rw [List.append_assoc]
      rfl
    rw [← e]; exact q
  have kd0 := V_kind (N := N) (c := c) hR hT q'.2.2.2.1 q'.2.2.2.2.1 q'.2.2.2.2.2.2
  have q1 := q'.tok hT (by decide) (g' := upd g 4 (nI (a + 1))) (upd_s _ _ _) (upd_n (by omega))
  obtain ⟨a', c', g', i, i1, i2, i3⟩ := h (k + 1) (a + 1) c _ ops 5 0 rest (by decide) (by decide) (by decide) q1
  obtain ⟨z, z1, -⟩ := fu_1 D i (by omega)
  have kd' := V_kind (N := N) (c := c') hR hT i3.2.2.2.1 i3.2.2.2.2.1 i3.2.2.2.2.2.2
  have tk5 := V_take (N := N) (c := c') hR hT i3.2.2.2.1 i3.2.2.2.2.1 (by decide) i3.2.2.2.2.2.2
  have q2 := i3.tok hT (by decide) (g' := upd g' 4 (nI (a' + 1))) (upd_s _ _ _) (upd_n (by omega))
  have q3 : SV B T L t P e0 x6 k (a' + 1) c' (upd g' 4 (nI (a' + 1))) (ops ++ o) (s + 1) rest := ⟨q2.1, q2.2.1, by have := q2.2.2.1; omega, q2.2.2.2⟩
  refine ⟨a' + 1, c', _, ?_, q3⟩
  have e : f_X4_S Y (D + 1) 0 (B + 6) (nI (v1 + 1)) (KS N B c (upd g 4 (nI (a + 1)))) = some (nI 1, KS N B c' g') := by
    rw [f_X4_S, if_pos rfl, i2, z1, f_X4_readsSum_8]
    simp (disch := omega) only [nI_lit, ↓reduceIte, pLEt, pLEf, pLTt, pLTf, pEQf, pML, pMG, pMf, pMg, nz10, kd', bd_some, xz1]
  have h4 := q'.2.2.2.2.1
  unfold b_X4_readsFactor
  simp (disch := omega) only [nI_lit, ↓reduceIte, pLEt, pLEf, pLTt, pLTf, pEQf, pML, pMG, pMf, pMg, nz10, kd0, bd_some, ↓lt_eq, gi_KS, h4, nI_add, si_KS, e, bd2_some, tk5]
theorem T_step {m D v1 kd : Nat} {tk tk2 : List (Nat × Nat)} {o o2 : List Int32} (h : CTp Y N B T L t P e0 x6 m tk o (D + 1) v1 s) (h2 : CFp Y N B T L t P e0 x6 tk2 o2 D v1 (s + 1)) (hk : kd = 8 ∨ kd = 9) (hm : m < 600) (hs : s < 15) (hR : RD Y B) (hT : TK9 N B T L t) : CTp Y N B T L t P e0 x6 (m + 1) (tk ++ (kd, 0) :: tk2) (o ++ (o2 ++ [-nI kd])) (D + 1) v1 s := fun k a c g ops rest q => by
  rw [List.append_assoc] at q
  obtain ⟨a', c', g', i, i1, i2, i3⟩ := h k a c g ops _ q
  obtain ⟨z, z1, z2⟩ := fu_1 D i (by omega)
  have kd' := V_kind (N := N) (c := c') hR hT i3.2.2.2.1 i3.2.2.2.2.1 i3.2.2.2.2.2.2
  have h4 := i3.2.2.2.2.1
  have q1 := i3.tok hT (by omega) (g' := upd g' 4 (nI (a' + 1))) (upd_s _ _ _) (upd_n (by omega))
  obtain ⟨a2, c2, g2, j2, j3⟩ := h2 (k + 1) (a' + 1) c' _ (ops ++ o) rest q1
  have e : f_X4_S Y (D + 1) 2 (B + 6) (nI v1) (KS N B c' (upd g' 4 (nI (a' + 1)))) = some (nI 1, KS N B c2 g2) := by
    rw [f_X4_S, if_neg (by decide), if_neg (by decide)]
    exact j2
  have iop : isOp (-nI kd) = true := by rcases hk with rfl | rfl <;> decide
  obtain ⟨w1, w2⟩ := j3.step (Y := Y) hR hT (op_ok iop) (by omega)
  have g13 : gp Y (gp Y (B + 6) 3) 13 = B + 97 + 4 := by rw [hR.2.1]; exact hR.2.2.2.2.2.g13
  refine ⟨a2, cStep c2 (ops ++ o ++ o2).length (-nI kd), g2, i + 1, by omega, ?_, ?_⟩
  · rw [i2, z1, z2, f_X4_readsTerm_8]
    rcases hk with rfl | rfl
    · simp (disch := omega) only [nI_lit, ↓reduceIte, pLEt, pLEf, pLTt, pLTf, pEQf, pML, pMG, pMf, pMg, nz10, kd', bd_some, ↓lt_eq, gi_KS, h4, nI_add, si_KS, e, bd2_some, g13, w1]
    · simp (disch := omega) only [nI_lit, ↓reduceIte, pLEt, pLEf, pLTt, pLTf, pEQf, pML, pMG, pMf, pMg, nz10, kd', bd_some, ↓lt_eq, gi_KS, h4, nI_add, si_KS, e, bd2_some, g13, w1]
  · have ee : ops ++ o ++ o2 ++ [-nI kd] = ops ++ (o ++ (o2 ++ [-nI kd])) := by rw [List.append_assoc, List.append_assoc]
    rw [ee] at w2
    exact w2
theorem S_step {m m2 D v1 kd : Nat} {tk tk2 : List (Nat × Nat)} {o o2 : List Int32} (h : CSp Y N B T L t P e0 x6 m tk o (D + 1) v1 s) (h2 : CTp Y N B T L t P e0 x6 m2 tk2 o2 D v1 (s + 1)) (hk : kd = 6 ∨ kd = 7) (hm : m < 600 ∧ m2 < 600) (hs : s < 15) (hR : RD Y B) (hT : TK9 N B T L t) : CSp Y N B T L t P e0 x6 (m + 1) (tk ++ (kd, 0) :: tk2) (o ++ (o2 ++ [-nI kd])) (D + 1) v1 s := fun k a c g ops kr nr rest r8 r9 r24 q => by
  rw [List.append_assoc] at q
  obtain ⟨a', c', g', i, i1, i2, i3⟩ := h k a c g ops kd 0 _ (by omega) (by omega) (by omega) q
  obtain ⟨z, z1, z2⟩ := fu_1 D i (by omega)
  have kd' := V_kind (N := N) (c := c') hR hT i3.2.2.2.1 i3.2.2.2.2.1 i3.2.2.2.2.2.2
  have h4 := i3.2.2.2.2.1
  have q1 := i3.tok hT (by omega) (g' := upd g' 4 (nI (a' + 1))) (upd_s _ _ _) (upd_n (by omega))
  obtain ⟨a2, c2, g2, i', j1, j2, j3⟩ := h2 (k + 1) (a' + 1) c' _ (ops ++ o) _ q1
  obtain ⟨y, y1, -⟩ := fu_1 D i' (by omega)
  have kd2 := V_kind (N := N) (c := c2) hR hT j3.2.2.2.1 j3.2.2.2.2.1 j3.2.2.2.2.2.2
  have e : f_X4_S Y (D + 1) 1 (B + 6) (nI v1) (KS N B c' (upd g' 4 (nI (a' + 1)))) = some (nI 1, KS N B c2 g2) := by
    rw [f_X4_S, if_neg (by decide), if_pos rfl, j2, y1, f_X4_readsTerm_8]
    simp (disch := omega) only [nI_lit, ↓reduceIte, pLEt, pLEf, pLTt, pLTf, pEQf, pML, pMG, pMf, pMg, nz10, kd2, bd_some, xz1]
  have iop : isOp (-nI kd) = true := by rcases hk with rfl | rfl <;> decide
  obtain ⟨w1, w2⟩ := j3.step (Y := Y) hR hT (op_ok iop) (by omega)
  have g13 : gp Y (gp Y (B + 6) 3) 13 = B + 97 + 4 := by rw [hR.2.1]; exact hR.2.2.2.2.2.g13
  refine ⟨a2, cStep c2 (ops ++ o ++ o2).length (-nI kd), g2, i + 1, by omega, ?_, ?_⟩
  · rw [i2, z1, z2, f_X4_readsSum_8]
    rcases hk with rfl | rfl
    · simp (disch := omega) only [nI_lit, ↓reduceIte, pLEt, pLEf, pLTt, pLTf, pEQf, pML, pMG, pMf, pMg, nz10, kd', bd_some, ↓lt_eq, gi_KS, h4, nI_add, si_KS, e, bd2_some, g13, w1]
    · simp (disch := omega) only [nI_lit, ↓reduceIte, pLEt, pLEf, pLTt, pLTf, pEQf, pML, pMG, pMf, pMg, nz10, kd', bd_some, ↓lt_eq, gi_KS, h4, nI_add, si_KS, e, bd2_some, g13, w1]
  · have ee : ops ++ o ++ o2 ++ [-nI kd] = ops ++ (o ++ (o2 ++ [-nI kd])) := by rw [List.append_assoc, List.append_assoc]
    rw [ee] at w2
    exact w2
/-- a number, a word -/
theorem F_num {v D v1 : Nat} (hv : v ≤ 9999) (hs : s < 16) (hR : RD Y B) (hT : TK9 N B T L t) : CFp Y N B T L t P e0 x6 [(2, v)] [nI v] D v1 s := fun k a c g ops rest q => by
  have kd0 := V_kind (N := N) (c := c) hR hT q.2.2.2.1 q.2.2.2.2.1 q.2.2.2.2.2.2
  obtain ⟨g2, m2, p4, p5, p6⟩ := V_num (N := N) (c := c) (y := nI 9999) hR hT q.2.2.2.1 q.2.2.2.2.1 q.2.2.2.2.2.2 (Nat.zero_le _) (by omega) (by rw [nI_toInt (by omega)]; omega) (by decide)
  have q1 := q.tok hT (by decide) p4 p6
  obtain ⟨l1, l2⟩ := nI_leaf hv
  obtain ⟨w1, w2⟩ := q1.step (Y := Y) hR hT (leaf_ok l1 l2 hs) (by omega)
  have g13 : gp Y (gp Y (B + 6) 3) 13 = B + 97 + 4 := by rw [hR.2.1]; exact hR.2.2.2.2.2.g13
  refine ⟨a + 1, _, g2, ?_, w2⟩
  unfold b_X4_readsFactor
  simp (disch := omega) only [nI_lit, ↓reduceIte, pLEt, pLEf, pLTt, pLTf, pEQf, pML, pMG, pMf, pMg, nz10, kd0, bd_some, m2, bd2_some, gi_KS, p5, g13, w1]
theorem F_word {i v D v1 : Nat} (hi : (v = 0 ∧ i = 2) ∨ (v = 1 ∧ i = 10) ∨ (v = 2 ∧ i = 11) ∨ (v = 3 ∧ i = 12)) (hs : s < 16) (hR : RD Y B) (hT : TK9 N B T L t) : CFp Y N B T L t P e0 x6 [(10 + i, 0)] [vcode v] D v1 s := fun k a c g ops rest q => by
  have kd0 := V_kind (N := N) (c := c) hR hT q.2.2.2.1 q.2.2.2.2.1 q.2.2.2.2.2.2
  have h4 := q.2.2.2.2.1
  have q1 := q.tok hT (by omega) (g' := upd g 4 (nI (a + 1))) (upd_s _ _ _) (upd_n (by omega))
  have ev : vcode v = -nI (10 + i) := by rcases hi with ⟨rfl, rfl⟩ | ⟨rfl, rfl⟩ | ⟨rfl, rfl⟩ | ⟨rfl, rfl⟩ <;> rfl
  have l1 : isOp (vcode v) = false := by rcases hi with ⟨rfl, rfl⟩ | ⟨rfl, rfl⟩ | ⟨rfl, rfl⟩ | ⟨rfl, rfl⟩ <;> decide
  have l2 : isLeaf (vcode v) = true := by rcases hi with ⟨rfl, rfl⟩ | ⟨rfl, rfl⟩ | ⟨rfl, rfl⟩ | ⟨rfl, rfl⟩ <;> decide
  obtain ⟨w1, w2⟩ := q1.step (Y := Y) hR hT (leaf_ok l1 l2 hs) (by omega)
  have h41 : c 4 1 = nI ops.length := by
    obtain ⟨⟨e, -, hQ⟩, -⟩ := q
    exact hQ.2.1.2.1.1.1
  have hlen : ops.length < 700 := by
    have a1 := q1.2.2.1
    have a2 := q1.2.2.2.1
    have a3 := hT.2.2.1
    omega
  have w0 : f_X0_addStep Y (B + 97 + 4) (vcode v) (KS N B c g) = some (KS N B (cStep c ops.length (vcode v)) g) := KS_step hR hlen h41
  rw [ev] at w0 w1 w2 ⊢
  have g13 : gp Y (gp Y (B + 6) 3) 13 = B + 97 + 4 := by rw [hR.2.1]; exact hR.2.2.2.2.2.g13
  refine ⟨a + 1, _, _, ?_, w2⟩
  unfold b_X4_readsFactor
  rcases hi with ⟨rfl, rfl⟩ | ⟨rfl, rfl⟩ | ⟨rfl, rfl⟩ | ⟨rfl, rfl⟩ <;> (simp only [Nat.reduceAdd] at kd0 w0 ⊢; simp (disch := omega) only [nI_lit, ↓reduceIte, pLEt, pLEf, pLTt, pLTf, pEQf, pML, pMG, pMf, pMg, nz10, kd0, bd_some, g13, w0, ↓lt_eq, gi_KS, h4, nI_add, si_KS])
end SVS
