/-! THE FINE'S STEPS GROW ON BOTH SIDES -/
theorem okS_app {x : Int32} : ∀ (l : List Int32) (h s : Nat), okS l h = some s → okS (l ++ [x]) h = okS [x] s := by
  intro l
  induction l with
  | nil => intro h s q; cases q; rfl
  | cons y l ih =>
    intro h s q
    rw [okS] at q
    show okS (y :: (l ++ [x])) h = _
    rw [okS]
    by_cases q1 : isOp y = true
    · rw [if_pos q1] at q ⊢
      by_cases q2 : 2 ≤ h
      · rw [if_pos q2] at q ⊢; exact ih _ _ q
      · rw [if_neg q2] at q; cases q
    · rw [if_neg q1] at q ⊢
      by_cases q3 : isLeaf y = true
      · rw [if_pos q3] at q ⊢
        by_cases q2 : h < 16
        · rw [if_pos q2] at q ⊢; exact ih _ _ q
        · rw [if_neg q2] at q; cases q
      · rw [if_neg q3] at q; cases q
theorem encs_app {x : Int32} : ∀ (l : List Int32), encs (l ++ [x]) = encs l ++ enc x := by
  intro l
  induction l with
  | nil => show enc x ++ [] = [] ++ enc x; rw [List.append_nil]; rfl
  | cons y l ih =>
    show enc y ++ encs (l ++ [x]) = (enc y ++ encs l) ++ enc x
    rw [ih, List.append_assoc]
theorem enc_len {x : Int32} : (isOp x = true → (enc x).length = 1) ∧ (isOp x = false → (enc x).length = 2) := by
  unfold enc isOp
  by_cases q6 : x = -nI 6
  · rw [if_pos q6, decide_eq_true q6, Bool.true_or, Bool.true_or, Bool.true_or]; exact ⟨fun _ => rfl, fun h => by cases h⟩
  · rw [if_neg q6, decide_eq_false q6, Bool.false_or]
    by_cases q7 : x = -nI 7
    · rw [if_pos q7, decide_eq_true q7, Bool.true_or, Bool.true_or]; exact ⟨fun _ => rfl, fun h => by cases h⟩
    · rw [if_neg q7, decide_eq_false q7, Bool.false_or]
      by_cases q8 : x = -nI 8
      · rw [if_pos q8, decide_eq_true q8, Bool.true_or]; exact ⟨fun _ => rfl, fun h => by cases h⟩
      · rw [if_neg q8, decide_eq_false q8, Bool.false_or]
        by_cases q9 : x = -nI 9
        · rw [if_pos q9, decide_eq_true q9]; exact ⟨fun _ => rfl, fun h => by cases h⟩
        · rw [if_neg q9, decide_eq_false q9]
          refine ⟨(fun h => by cases h), fun _ => ?_⟩
          (repeat' split) <;> rfl
/-- the code's length, by the steps' and the stack's height -/
theorem encs_len : ∀ (l : List Int32) (h s : Nat), okS l h = some s → 2 * (encs l).length + h = 3 * l.length + s := by
  intro l
  induction l with
  | nil => intro h s q; cases q; show 2 * 0 + h = 3 * 0 + h; omega
  | cons y l ih =>
    intro h s q
    show 2 * (enc y ++ encs l).length + h = 3 * (l.length + 1) + s
    rw [List.length_append]
    cases hop : isOp y with
    | true =>
      obtain ⟨h2, q2⟩ := okS_op hop q
      have := ih _ _ q2
      have := enc_len.1 hop
      omega
    | false =>
      obtain ⟨-, h2, q2⟩ := okS_leaf hop q
      have := ih _ _ q2
      have := enc_len.2 hop
      omega
section CO
variable {Y : XY} {N N2 : XN} {B T L m a w : Nat} {t : Nat → Nat} {c c' : Nat → Nat → Int32} {g h h0 e e' : XD} {P : Nat → Int32} {ops ops' : List Int32}
/-- only the code, and whether there is a fine, has changed -/
theorem QD.code (hQ : QD P ops e c) (hs : ∀ j, j ≠ 10 → j ≠ 11 → (j < 584 ∨ 1784 ≤ j) → e' j = e j) (hM : MC ops' e') (hF : FC P ops' c') (hc : ∀ o k, o ≠ 4 → o ≠ 5 → c' o k = c o k) : QD P ops' e' c' := by
  obtain ⟨hD, ⟨⟨w1, w2, w3, w4, w5⟩, hC2, hC3⟩, h0, z1, z2, z3⟩ := hQ
  have h6 := hD.H6
  have h8 := hD.L8
  have h60 := hD.R60
  have q0 := hs 0 (by omega) (by omega) (by omega)
  have q1 := hs 1 (by omega) (by omega) (by omega)
  have q2 := hs 2 (by omega) (by omega) (by omega)
  have q3 := hs 3 (by omega) (by omega) (by omega)
  have z3' : ∀ r, r < nR e' → e' (107 + 8 * r) = nI 0 := fun r hr => by
    rw [nR_same q3] at hr
    rw [hs _ (by omega) (by omega) (by omega)]; exact z3 r hr
  refine ⟨?_, ⟨?_, hF, fun i hi => ?_⟩, ?_, fun j b1 b2 => ?_, fun j b1 b2 => ?_, z3'⟩
  · obtain ⟨a1, a2, a3, a4, a5, a6, a7, a8, a9⟩ := hD
    unfold DJ
    rw [nH_same q1, nL_same q2, nR_same q3, tM_same q0, q0, q1, q2, q3, hs 8 (by omega) (by omega) (by omega)]
    refine ⟨a1, a2, a3, a4, a5, fun i hi => ?_, fun l hl => ?_, fun r hr => ?_, hM⟩
    · rw [hs _ (by omega) (by omega) (by omega)]; exact a6 i hi
    · exact LN_same (fun k hk => hs _ (by omega) (by omega) (by omega)) (a7 l hl)
    · exact RQ_same (fun k hk => hs _ (by omega) (by omega) (by omega)) (a8 r hr)
  · rw [nH_same q1, nL_same q2, nR_same q3]
    refine ⟨fun k' j' h' => ?_, fun i' k' j' hi' h' => ?_, fun i' k' j' hi' h' => ?_, fun i' k' hi' h3' h' => ?_, fun i' k' j' hi' h' => ?_⟩
    · have b' := h'.b; rw [hc _ _ (by omega) (by omega), hs _ (by omega) (by omega) (by omega)]; exact w1 k' j' h'
    · have b' := h'.b; rw [hc _ _ (by omega) (by omega), hs _ (by omega) (by omega) (by omega)]; exact w2 i' k' j' hi' h'
    · have b' := h'.b; rw [hc _ _ (by omega) (by omega), hs _ (by omega) (by omega) (by omega)]; exact w3 i' k' j' hi' h'
    · rw [nT_same (hs _ (by omega) (by omega) (by omega))] at h'
      rw [hc _ _ (by omega) (by omega), hs _ (by omega) (by omega) (by omega)]; exact w4 i' k' hi' h3' h'
    · have b' := h'.b; rw [hc _ _ (by omega) (by omega), hs _ (by omega) (by omega) (by omega)]; exact w5 i' k' j' hi' h'
  · rw [nH_same q1] at hi
    rw [held0 z3', hc _ _ (by omega) (by omega), hC3 i hi, held0 z3]
  · rw [q0]; exact h0
  · rw [nH_same q1] at b1
    rw [hs _ (by omega) (by omega) (by omega)]; exact z1 j b1 b2
  · rw [nL_same q2] at b1
    rw [hs _ (by omega) (by omega) (by omega)]; exact z2 j b1 b2
/-- a step more in the class's world -/
def cStep (c : Nat → Nat → Int32) (n : Nat) (x : Int32) : Nat → Nat → Int32 := up2 (up2 c 5 n x) 4 1 (nI (n + 1))
theorem C_addStep (hY : WY Y w) {n : Nat} (hn : n < 700) (h4 : c 4 1 = nI n) {x : Int32} : f_X0_addStep Y (w + 4) x (sw N w c) = some (sw N w (cStep c n x)) := by
  unfold f_X0_addStep
  simp (disch := omega) only [↓lt_eq, bd, bd2, Option.bind_some, nI_lit, nI_clamp, nI_add, xb_nI, if_true, gi_sw, gi_sw0, si_sw, si_sw0, hY.g0, hY.g2, hY.g4, hY.g13, hY.g14, hY.f0, hY.f2, hY.h, hY.l, hY.t, hY.r, ↓reduceIte, pLEt, pLEf, pLTt, pLTf, pEQf, pML, pMG, pMf, pMg, h4, up2_n]
  rfl
theorem FC.step (hF : FC P ops c) {x : Int32} : FC P (ops ++ [x]) (cStep c ops.length x) := by
  obtain ⟨⟨f1, f2⟩, f3⟩ := hF
  unfold cStep
  refine ⟨⟨?_, fun i hi => ?_⟩, fun k hk => ?_⟩
  · rw [up2_s, List.length_append]; rfl
  · rw [List.length_append] at hi
    have hi' : i < ops.length + 1 := hi
    rw [up2_n _ _ (by omega)]
    by_cases q : i = ops.length
    · rw [q, up2_s]
      simp [List.getD]
    · rw [up2_n _ _ (by omega), f2 i (by omega)]
      simp [List.getD, List.getElem?_append_left (show i < ops.length by omega)]
  · rw [up2_n _ _ (by omega), up2_n _ _ (by omega)]; exact f3 k hk
/-- the code of one step more in the model's row -/
def eCode (e : XD) (n : Nat) : List Int32 → XD
  | [] => e
  | x :: l => eCode (upd (upd e (584 + n) x) 11 (nI (n + 1))) (n + 1) l
theorem eCode_at : ∀ (l : List Int32) (n : Nat) (e : XD), e 11 = nI n → eCode e n l 11 = nI (n + l.length) ∧ (∀ j, j ≠ 11 → (j < 584 + n ∨ 584 + n + l.length ≤ j) → eCode e n l j = e j) ∧ ∀ i, i < l.length → eCode e n l (584 + n + i) = l.getD i 0 := by
  intro l
  induction l with
  | nil => intro n e h; exact ⟨h, fun j _ _ => rfl, fun i hi => absurd hi (Nat.not_lt_zero i)⟩
  | cons x l ih =>
    intro n e h
    obtain ⟨i1, i2, i3⟩ := ih (n + 1) (upd (upd e (584 + n) x) 11 (nI (n + 1))) (upd_s _ _ _)
    have hl : (x :: l).length = l.length + 1 := rfl
    refine ⟨?_, fun j h1 h2 => ?_, fun i hi => ?_⟩
    · rw [eCode, i1, hl]
      congr 1
      omega
    · rw [eCode, i2 j h1 (by omega), upd_n h1, upd_n (by omega)]
    · rw [eCode]
      cases i with
      | zero => rw [i2 _ (by omega) (by omega), upd_n (by omega), Nat.add_zero, upd_s]; rfl
      | succ i => rw [show 584 + n + (i + 1) = 584 + (n + 1) + i by omega, i3 i (by omega)]; rfl
theorem QD.step (hQ : QD P ops e c) {s s' : Nat} {x : Int32} (ho : okS ops 0 = some s) (ho' : okS [x] s = some s') (hl : ops.length < 700) (hs' : s' ≤ 16) : QD P (ops ++ [x]) (eCode e (encs ops).length (enc x)) (cStep c ops.length x) ∧ okS (ops ++ [x]) 0 = some s' := by
  have ho2 : okS (ops ++ [x]) 0 = some s' := by rw [okS_app ops 0 s ho]; exact ho'
  obtain ⟨-, m2, m3, m4, m5⟩ := hQ.1.C
  obtain ⟨b1, b2, b3⟩ := eCode_at (enc x) (encs ops).length e m4
  have el := encs_len _ _ _ ho2
  have ll : (ops ++ [x]).length = ops.length + 1 := by rw [List.length_append]; rfl
  have lc : (encs (ops ++ [x])).length = (encs ops).length + (enc x).length := by rw [encs_app, List.length_append]
  refine ⟨hQ.code (fun j h1 h2 h3 => b2 j h2 (by omega)) ⟨⟨s', ho2⟩, by omega, by omega, by rw [lc]; exact b1, fun i hi => ?_⟩ hQ.2.1.2.1.step (fun o k h1 h2 => ?_), ho2⟩
  · rw [lc] at hi
    rw [encs_app]
    by_cases q : i < (encs ops).length
    · rw [b2 _ (by omega) (by omega), m5 i q]
      simp [List.getD, List.getElem?_append_left q]
    · have := b3 (i - (encs ops).length) (by omega)
      rw [show 584 + (encs ops).length + (i - (encs ops).length) = 584 + i by omega] at this
      rw [this]
      simp [List.getD, List.getElem?_append_right (show (encs ops).length ≤ i by omega)]
  · unfold cStep
    rw [up2_n _ _ (by omega), up2_n _ _ (by omega)]
end CO
