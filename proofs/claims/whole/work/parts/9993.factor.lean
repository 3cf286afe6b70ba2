/-! BOTH READ A FACTOR -/
/-- how a piece of the fine ends -/
def OX (N N2 : XN) (B T L m : Nat) (t : Nat → Nat) (h0 : XD) (P : Nat → Int32) (y1 y2 : Int32) (k a s : Nat) (ops : List Int32) (fc : Option (Int32 × XN)) (fm : Option XN) : Prop :=
  ∃ c' g' h' e', fm = some (MM N2 m h' e') ∧ ((fc = some (nI 1, KS N B c' g') ∧ ∃ a' ops', a < a' ∧ RG T L t h0 a' g' h' ∧ QD P ops' e' c' ∧ okS ops' 0 = some (s + 1) ∧ ops'.length + a ≤ ops.length + a' ∧ g' 6 = y1 ∧ h' 15 = nI k ∧ h' 16 = y2) ∨ (fc = some (nI 0, KS N B c' g') ∧ RB h0 g' h' ∧ ∃ n, n ≤ 700 ∧ c' 4 1 = nI n))
section FA
variable {Y : XY} {N N2 : XN} {B T L m : Nat} {t : Nat → Nat} {h0 : XD} {P : Nat → Int32} {y1 y2 : Int32}
theorem M_S_bad {h e : XD} (h5 : h 5 ≠ nI 0) : (∀ D, f_X8_S Y (D + 1) 2 m (MM N2 m h e) = some (MM N2 m h e)) ∧ (∀ D, f_X8_S Y (D + 2) 1 m (MM N2 m h e) = some (MM N2 m h e)) ∧ (∀ D, f_X8_S Y (D + 3) 0 m (MM N2 m h e) = some (MM N2 m h e)) := by
  have gd := M_isGood (Y := Y) (N := N2) (m := m) (h := h) (e := e)
  rw [if_neg h5] at gd
  obtain ⟨z, hz⟩ : ∃ z, FU = z + 1 := ⟨FU - 1, by unfold FU; omega⟩
  have p2 : ∀ D, f_X8_S Y (D + 1) 2 m (MM N2 m h e) = some (MM N2 m h e) := fun D => by
    rw [f_X8_S, if_neg (by decide), if_neg (by decide)]
    unfold b_X8_factor
    simp only [nI_lit, gd, nI01, ↓reduceIte]
  have p1 : ∀ D, f_X8_S Y (D + 2) 1 m (MM N2 m h e) = some (MM N2 m h e) := fun D => by
    rw [f_X8_S, if_neg (by decide), if_pos rfl]
    unfold b_X8_term
    rw [p2, bd_some, hz, f_X8_term_4]
    simp only [nI_lit, gd, nI01, ↓reduceIte]
  refine ⟨p2, p1, fun D => ?_⟩
  rw [f_X8_S, if_pos rfl]
  unfold b_X8_sum
  rw [p1, bd_some, hz, f_X8_sum_4]
  simp only [nI_lit, gd, nI01, ↓reduceIte]
theorem M_emits1 (g9 : gp Y m 9 = m + 3) (k9 : kn Y (m + 3) = 1784) {h e : XD} (h5 : h 5 = nI 0) {n : Nat} (h11 : e 11 = nI n) (hn : n < 1200) {x : Int32} : f_X8_emit Y m x (MM N2 m h e) = some (MM N2 m h (eCode e n [x])) := M_emit g9 k9 h5 h11 hn
theorem M_emits2 (g9 : gp Y m 9 = m + 3) (k9 : kn Y (m + 3) = 1784) {h e : XD} (h5 : h 5 = nI 0) {n : Nat} (h11 : e 11 = nI n) (hn : n < 1199) {x y : Int32} : (bd (f_X8_emit Y m x (MM N2 m h e)) fun N' => bd (f_X8_emit Y m y N') fun N'' => some N'') = some (MM N2 m h (eCode e n [x, y])) := by
  rw [M_emit g9 k9 h5 h11 (by omega), bd_some, M_emit g9 k9 h5 (upd_s _ _ _) (by omega), bd_some]
  rfl
theorem KS_step (hR : RD Y B) {c : Nat → Nat → Int32} {g : XD} {n : Nat} (hn : n < 700) (h4 : c 4 1 = nI n) {x : Int32} : f_X0_addStep Y (B + 97 + 4) x (KS N B c g) = some (KS N B (cStep c n x) g) := by
  rw [KS_w, C_addStep hR.2.2.2.2.2 hn h4, ← KS_w]
/-- a leaf, laid by both -/
theorem leaf_ok {x : Int32} {s : Nat} (h1 : isOp x = false) (h2 : isLeaf x = true) (hs : s < 16) : okS [x] s = some (s + 1) := by
  rw [okS, if_neg (by rw [h1]; decide), if_pos h2, if_pos hs]
  rfl
theorem op_ok {x : Int32} {s : Nat} (h1 : isOp x = true) : okS [x] (s + 2) = some (s + 1) := by
  rw [okS, if_pos h1, if_pos (by omega)]
  rfl
theorem num_leaf {v : Nat} (hv : v ≤ 9999) : isOp (nI v) = false ∧ isLeaf (nI v) = true ∧ enc (nI v) = [nI 0, nI v] := by
  have ne : ∀ k : Nat, 0 < k → k < 100 → ¬ nI v = -nI k := by
    intro k hk hk2 z
    have dn : ∀ k, k < 100 → 0 < k → (-nI k : Int32).toInt < 0 := by decide +kernel
    have := dn k hk2 hk
    rw [← z, nI_toInt (by omega)] at this
    omega
  have n6 := ne 6 (by omega) (by omega)
  have n7 := ne 7 (by omega) (by omega)
  have n8 := ne 8 (by omega) (by omega)
  have n9 := ne 9 (by omega) (by omega)
  have n12 := ne 12 (by omega) (by omega)
  have n20 := ne 20 (by omega) (by omega)
  have n21 := ne 21 (by omega) (by omega)
  have n22 := ne 22 (by omega) (by omega)
  refine ⟨?_, ?_, ?_⟩
  · unfold isOp
    rw [decide_eq_false n6, decide_eq_false n7, decide_eq_false n8, decide_eq_false n9]
    rfl
  · unfold isLeaf
    rw [decide_eq_true ⟨nI_le (Nat.zero_le v) (by omega), nI_le hv (by omega)⟩]
    rfl
  · unfold enc
    rw [if_neg n6, if_neg n7, if_neg n8, if_neg n9, if_neg n12, if_neg n20, if_neg n21, if_neg n22]
/-- a leaf that is a word: how both leave it -/
theorem S_leafw (E : EN Y N N2 B T L m t) {a s k : Nat} {ops : List Int32} {g h' e : XD} {c : Nat → Nat → Int32} {x : Int32} {u : Nat} (hx1 : isOp x = false) (hx2 : isLeaf x = true) (hx3 : enc x = [nI 1, nI u]) (hQ : QD P ops e c) (ho : okS ops 0 = some s) (hs : s < 16) (hl : ops.length ≤ a) (hg : RG T L t h0 (a + 1) (upd g 4 (nI (a + 1))) h') (h4 : g 4 = nI a) (hg6 : g 6 = y1) (h15 : h' 15 = nI k) (h16 : h' 16 = y2) : OX N N2 B T L m t h0 P y1 y2 k a s ops (bd (f_X0_addStep Y (gp Y (gp Y (B + 6) 3) 13) x (KS N B c g)) fun N35 => lt (si N35 (B + 6) 4 ((gi N35 (B + 6) 4) + nI 1)) fun N36 => some (nI 1, N36)) (bd (f_X8_emit Y m (nI 1) (MM N2 m h' e)) fun N' => bd (f_X8_emit Y m (nI u) N') fun N'' => some N'') := by
  obtain ⟨hR, hT, hL, ⟨g1, g9, k9⟩, hM⟩ := E
  have hT7 := hT.2.2.1
  have haT := hg.1
  obtain ⟨-, m2, m3, m4, m5⟩ := hQ.1.C
  have el := encs_len _ _ _ ho
  have hc4 := hQ.2.1.2.1.1.1
  obtain ⟨q1, q2⟩ := hQ.step ho (leaf_ok hx1 hx2 hs) (by omega) (by omega)
  rw [hx3] at q1
  refine ⟨_, _, h', _, M_emits2 g9 k9 hg.2.2.1 m4 (by omega), Or.inl ⟨?_, a + 1, ops ++ [x], by omega, hg, q1, q2, ?_, ?_, h15, h16⟩⟩
  · rw [hR.2.1, hR.2.2.2.2.2.g13, KS_step hR (by omega) hc4, bd_some]
    simp only [lt_eq, gi_KS, h4, nI_add, si_KS]
  · rw [List.length_append]
    show ops.length + 1 + a ≤ _
    omega
  · rw [upd_n (by omega)]; exact hg6
end FA
