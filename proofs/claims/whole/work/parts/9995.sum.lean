/-! BOTH READ A TERM AND A SUM -/
section SU
variable {Y : XY} {N N2 : XN} {B T L m : Nat} {t : Nat → Nat} {h0 : XD} {P : Nat → Int32} {y1 y2 : Int32}
theorem KS_stepbad (hR : RD Y B) {c : Nat → Nat → Int32} {g : XD} {n : Nat} (hn : n ≤ 700) (h4 : c 4 1 = nI n) {x : Int32} : ∃ c', f_X0_addStep Y (B + 97 + 4) x (KS N B c g) = some (KS N B c' g) ∧ ∃ n', n' ≤ 700 ∧ c' 4 1 = nI n' := by
  by_cases q : n < 700
  · exact ⟨_, KS_step hR q h4, n + 1, by omega, up2_s _ _ _ _⟩
  · refine ⟨c, ?_, n, hn, h4⟩
    have hY : WY Y (B + 97) := hR.2.2.2.2.2
    unfold f_X0_addStep
    have e4 : gi (KS N B c g) (B + 97 + 4) 1 = nI n := by rw [gi_KSw _ (by omega)]; exact h4
    simp (disch := omega) only [nI_lit, e4, ↓reduceIte, pLEt, pLEf, pLTt, pLTf, pEQf, pML, pMG, pMf, pMg]
/-- an operator behind its second operand, and what follows -/
theorem S_op (E : EN Y N N2 B T L m t) {k a s a0 : Nat} {ops ops0 : List Int32} {x code : Int32} (hx : isOp x = true) (hxe : enc x = [code]) (hs : s ≤ 2 * k + 1) (hk : k ≤ 4) (hl : ops.length ≤ a) {fc : Option (Int32 × XN)} {fm : Option XN} (ho : OX N N2 B T L m t h0 P y1 y2 k (a + 1) (s + 1) ops fc fm) {kc : Int32 → XN → Option (Int32 × XN)} {km : XN → Option XN} (bc : ∀ M, kc (nI 0) M = some (nI 0, M)) (bm : ∀ h e : XD, h 5 ≠ nI 0 → km (MM N2 m h e) = some (MM N2 m h e)) (gc : ∀ (a' : Nat) (ops' : List Int32) (g' h' e' : XD) (c' : Nat → Nat → Int32), a + 1 < a' → RG T L t h0 a' g' h' → QD P ops' e' c' → okS ops' 0 = some (s + 1) → ops'.length + a ≤ ops.length + a' → g' 6 = y1 → h' 15 = nI k → h' 16 = y2 → OX N N2 B T L m t h0 P y1 y2 k a0 s ops0 (kc (nI 1) (KS N B c' g')) (km (MM N2 m h' e'))) : OX N N2 B T L m t h0 P y1 y2 k a0 s ops0 (bd2 fc fun r N13 => bd (f_X0_addStep Y (gp Y (gp Y (B + 6) 3) 13) x N13) fun N19 => kc r N19) (bd fm fun N12 => bd (f_X8_emit Y m code N12) fun N14 => km N14) := by
  obtain ⟨hR, hT, hL, ⟨g1, g9, k9⟩, hM⟩ := E
  have hT7 := hT.2.2.1
  have hY : WY Y (B + 97) := hR.2.2.2.2.2
  obtain ⟨c', g', h', e', f1, f2⟩ := ho
  rw [f1, bd_some, hR.2.1, hY.g13]
  rcases f2 with ⟨f2, a', ops', i1, i2, i3, i4, i5, i6, i7, i8⟩ | ⟨f2, i1, n, n1, n2⟩
  · have haT := i2.1
    obtain ⟨-, m2, m3, m4, m5⟩ := i3.1.C
    have el := encs_len _ _ _ i4
    obtain ⟨q1, q2⟩ := i3.step i4 (op_ok hx) (by omega) (by omega)
    rw [hxe] at q1
    rw [f2, bd2_some, KS_step hR (by omega) i3.2.1.2.1.1.1, bd_some, M_emits1 g9 k9 i2.2.2.1 m4 (by omega), bd_some]
    refine gc a' _ g' h' _ _ i1 i2 q1 q2 ?_ i6 i7 i8
    rw [List.length_append]
    show ops'.length + 1 + a ≤ _
    omega
  · obtain ⟨c'', z1, n', z2, z3⟩ := KS_stepbad (Y := Y) (N := N) (g := g') hR n1 n2 (x := x)
    rw [f2, bd2_some, z1, bd_some, M_emit_bad i1.1, bd_some, bc, bm _ _ i1.1]
    exact ⟨c'', g', h', e', rfl, Or.inr ⟨rfl, i1, n', z2, z3⟩⟩
theorem K_term0 {rc : Nat → Nat → Int32 → XN → Option (Int32 × XN)} {D p : Nat} {u v : Int32} {M : XN} : f_X4_readsTerm_8 Y rc (D + 1) p u (nI 0) v M = some (nI 0, M) := by
  rw [f_X4_readsTerm_8]
  simp only [nI_lit, xz0, nI01, if_true]
  split <;> rfl
theorem K_sum0 {rc : Nat → Nat → Int32 → XN → Option (Int32 × XN)} {D p : Nat} {u v : Int32} {M : XN} : f_X4_readsSum_8 Y rc (D + 1) p u (nI 0) v M = some (nI 0, M) := by
  rw [f_X4_readsSum_8]
  simp only [nI_lit, xz0, nI01, if_true]
  split <;> rfl
theorem M_term0 {rc : Nat → Nat → XN → Option XN} {D : Nat} {h e : XD} (h5 : h 5 ≠ nI 0) : f_X8_term_4 Y rc (D + 1) m (MM N2 m h e) = some (MM N2 m h e) := by
  have gd := M_isGood (Y := Y) (N := N2) (m := m) (h := h) (e := e)
  rw [if_neg h5] at gd
  rw [f_X8_term_4]
  simp only [nI_lit, gd, nI01, ↓reduceIte]
theorem M_sum0 {rc : Nat → Nat → XN → Option XN} {D : Nat} {h e : XD} (h5 : h 5 ≠ nI 0) : f_X8_sum_4 Y rc (D + 1) m (MM N2 m h e) = some (MM N2 m h e) := by
  have gd := M_isGood (Y := Y) (N := N2) (m := m) (h := h) (e := e)
  rw [if_neg h5] at gd
  rw [f_X8_sum_4]
  simp only [nI_lit, gd, nI01, ↓reduceIte]
/-- both have read what stands before; they agree from here -/
def PX (Y : XY) (N N2 : XN) (B T L m : Nat) (t : Nat → Nat) (h0 : XD) (P : Nat → Int32) (y1 y2 : Int32) (k u D w : Nat) : Prop := ∀ (a s : Nat) (ops : List Int32) (g h e : XD) (c : Nat → Nat → Int32), RG T L t h0 a g h → QD P ops e c → okS ops 0 = some s → s ≤ u → ops.length ≤ a → g 6 = y1 → h 15 = nI k → h 16 = y2 → OX N N2 B T L m t h0 P y1 y2 k a s ops (f_X4_S Y D w (B + 6) (nI k) (KS N B c g)) (f_X8_S Y D w m (MM N2 m h e))
/-- an operator taken -/
theorem RG.op (hT : TK9 N B T L t) {a b : Nat} {g h : XD} (hb : b = 40 ∨ b = 41 ∨ b = 42 ∨ b = 43 ∨ b = 45 ∨ b = 47 ∨ b = 59) (hg : RG T L t h0 a g h) (hk : tK t L (tS t L a) = sgK b) : RG T L t h0 (a + 1) (upd g 4 (nI (a + 1))) (upd h 4 (nI (tS t L a + 1))) := by
  have n0 : sgK b ≠ 0 := by rcases hb with rfl | rfl | rfl | rfl | rfl | rfl | rfl <;> decide
  have q := (tK_sign (t := t) (L := L) (s := tS t L a) hb).mp hk
  exact hg.next hT (by rw [hk]; exact n0) (upd_s _ _ _) (upd_n (by omega)) (by rw [upd_s, tE_sign hb q.2]) (upd_n (by omega)) (upd_n (by omega)) (hg.2.2.2.2.2.2.up (by omega) _)
theorem op6 : isOp (-nI 6) = true ∧ enc (-nI 6) = [nI 2] := by decide
theorem op7 : isOp (-nI 7) = true ∧ enc (-nI 7) = [nI 3] := by decide
theorem op8 : isOp (-nI 8) = true ∧ enc (-nI 8) = [nI 4] := by decide
theorem op9 : isOp (-nI 9) = true ∧ enc (-nI 9) = [nI 5] := by decide
theorem S_term_L (E : EN Y N N2 B T L m t) {k D : Nat} (hk : k ≤ 4) (H : PX Y N N2 B T L m t h0 P y1 y2 k (2 * k + 2) D 2) {a0 s : Nat} {ops0 : List Int32} (hs : s ≤ 2 * k + 1) : ∀ (n a v3 D9 D8 : Nat) (ops : List Int32) (g h e : XD) (c : Nat → Nat → Int32), T - a ≤ n → n + 1 < D9 → n + 1 < D8 → v3 + 1 ≤ a → a0 < a → RG T L t h0 a g h → QD P ops e c → okS ops 0 = some (s + 1) → ops.length ≤ a → ops.length + a0 ≤ ops0.length + a → g 6 = y1 → h 15 = nI k → h 16 = y2 → OX N N2 B T L m t h0 P y1 y2 k a0 s ops0 (f_X4_readsTerm_8 Y (f_X4_S Y D) D9 (B + 6) (nI k) (nI 1) (nI v3) (KS N B c g)) (f_X8_term_4 Y (f_X8_S Y D) D8 m (MM N2 m h e)) := by
  obtain ⟨hR, hT, hL, ⟨g1, g9, k9⟩, hM⟩ := id E
  have hT7 := hT.2.2.1
  intro n
  induction n with
  | zero =>
    intro a v3 D9 D8 ops g h e c hn hD9 hD8 hv ha hg hQ ho hl hl2 hg6 h15 h16
    obtain ⟨D9, rfl⟩ : ∃ z, D9 = z + 1 := ⟨D9 - 1, by omega⟩
    obtain ⟨D8, rfl⟩ : ∃ z, D8 = z + 1 := ⟨D8 - 1, by omega⟩
    have haT := hg.1
    have e9 : tS t L a = L := by rw [show a = T by omega]; exact hT.2.1
    have kd := S_kind (c := c) hR hT hg
    have k0 : tK t L (tS t L a) = 0 := tK_end.mpr (by omega)
    rw [k0] at kd
    obtain ⟨h1, nx, b1, b2, b3, b4⟩ := S_next (e := e) hL g1 hM hT hg
    obtain ⟨h2, nx2, d1, d2, d3, d4⟩ := S_next (e := e) hL g1 hM hT b1
    have n42 : (nb t L (tS t L a) = nI 42) = False := eq_false (fun z => by have := ((nb_eq hM (by omega)).mp z).1; omega)
    have n47 : (nb t L (tS t L a) = nI 47) = False := eq_false (fun z => by have := ((nb_eq hM (by omega)).mp z).1; omega)
    refine ⟨c, g, h2, e, ?_, Or.inl ⟨?_, a, ops, ha, d1, hQ, ho, hl2, hg6, by rw [d3, b3]; exact h15, by rw [d4, b4]; exact h16⟩⟩
    · rw [f_X8_term_4]
      simp only [nI_lit, hg.good, nz10, ↓reduceIte]
      rw [nx, bd2_some]
      simp only [n42, ↓reduceIte]
      rw [nx2, bd2_some]
      simp only [n47, ↓reduceIte]
    · rw [f_X4_readsTerm_8]
      simp (disch := omega) only [nI_lit, ↓reduceIte, pLEt, pLEf, pLTt, pLTf, pEQf, pML, pMG, pMf, pMg, nz10, kd, bd_some, xz1]
  | succ n ih =>
    intro a v3 D9 D8 ops g h e c hn hD9 hD8 hv ha hg hQ ho hl hl2 hg6 h15 h16
    obtain ⟨D9, rfl⟩ : ∃ z, D9 = z + 1 := ⟨D9 - 1, by omega⟩
    obtain ⟨D8, rfl⟩ : ∃ z, D8 = z + 1 := ⟨D8 - 1, by omega⟩
    have haT := hg.1
    have h4 := hg.2.1
    have kd := S_kind (c := c) hR hT hg
    have lK := tK_lt (t := t) (L := L) (s := tS t L a)
    obtain ⟨h1, nx, b1, b2, b3, b4⟩ := S_next (e := e) hL g1 hM hT hg
    obtain ⟨h2, nx2, d1, d2, d3, d4⟩ := S_next (e := e) hL g1 hM hT b1
    obtain ⟨h3, nx3, i1, i2, i3, i4⟩ := S_next (e := e) hL g1 hM hT d1
    have n42 : nb t L (tS t L a) = nI 42 ↔ tK t L (tS t L a) = 8 := by
      rw [nb_eq hM (by omega)]
      exact (tK_sign (c := 42) (by omega)).symm
    have n47 : nb t L (tS t L a) = nI 47 ↔ tK t L (tS t L a) = 9 := by
      rw [nb_eq hM (by omega)]
      exact (tK_sign (c := 47) (by omega)).symm
    obtain ⟨d7, hd7⟩ : ∃ z, D9 = z + 1 := ⟨D9 - 1, by omega⟩
    obtain ⟨d6, hd6⟩ : ∃ z, D8 = z + 1 := ⟨D8 - 1, by omega⟩
    have bc : ∀ M, f_X4_readsTerm_8 Y (f_X4_S Y D) D9 (B + 6) (nI k) (nI 0) (nI (v3 + 1)) M = some (nI 0, M) := fun M => by rw [hd7]; exact K_term0
    have bm : ∀ h e : XD, h 5 ≠ nI 0 → f_X8_term_4 Y (f_X8_S Y D) D8 m (MM N2 m h e) = some (MM N2 m h e) := fun h e q => by rw [hd6]; exact M_term0 q
    have gc : ∀ (a' : Nat) (ops' : List Int32) (g' h' e' : XD) (c' : Nat → Nat → Int32), a + 1 < a' → RG T L t h0 a' g' h' → QD P ops' e' c' → okS ops' 0 = some (s + 1) → ops'.length + a ≤ ops.length + a' → g' 6 = y1 → h' 15 = nI k → h' 16 = y2 → OX N N2 B T L m t h0 P y1 y2 k a0 s ops0 (f_X4_readsTerm_8 Y (f_X4_S Y D) D9 (B + 6) (nI k) (nI 1) (nI (v3 + 1)) (KS N B c' g')) (f_X8_term_4 Y (f_X8_S Y D) D8 m (MM N2 m h' e')) := fun a' ops' g' h' e' c' x1 x2 x3 x4 x5 x6 x7 x8 => ih a' (v3 + 1) D9 D8 ops' g' h' e' c' (by omega) (by omega) (by omega) (by omega) (by omega) x2 x3 x4 (by omega) (by omega) x6 x7 x8
    rw [f_X4_readsTerm_8, f_X8_term_4]
    simp only [nI_lit, hg.good, nz10, ↓reduceIte]
    rw [nx, bd2_some]
    have v7 : (nI 700 ≤ nI v3) = False := pLEf (by omega) (by omega)
    simp only [v7, kd, ↓reduceIte]
    rw [bd_some]
    by_cases q8 : tK t L (tS t L a) = 8
    · have e42 := n42.mpr q8
      have R := H (a + 1) (s + 1) ops (upd g 4 (nI (a + 1))) (upd h2 4 (nI (tS t L a + 1))) e c (d1.op hT (b := 42) (by omega) q8) hQ ho (by omega) (by omega) (by rw [upd_n (by omega)]; exact hg6) (by rw [upd_n (by omega), d3, b3]; exact h15) (by rw [upd_n (by omega), d4, b4]; exact h16)
      have Z := S_op (a0 := a0) (ops0 := ops0) (kc := fun r M => f_X4_readsTerm_8 Y (f_X4_S Y D) D9 (B + 6) (nI k) r (nI (v3 + 1)) M) (km := f_X8_term_4 Y (f_X8_S Y D) D8 m) E op8.1 op8.2 hs hk hl R bc bm gc
      simp only [e42, q8, nI01, ↓reduceIte, eq_self]
      rw [nx2, bd2_some, bd_some]
      simp only [e42, ↓reduceIte, eq_self, lt_eq, gi_KS, h4, nI_add, si_KS, gi_MM, d2, si_MM]
      exact Z
    · have e42 : (nb t L (tS t L a) = nI 42) = False := eq_false (fun z => q8 (n42.mp z))
      simp only [e42, sk_eq lK q8 (by omega), ↓reduceIte]
      rw [nx2, bd2_some, bd_some]
      by_cases q9 : tK t L (tS t L a) = 9
      · have e47 := n47.mpr q9
        have e74 : (nI 47 = nI 42) = False := pEQf (by omega) (by omega) (by omega)
        have R := H (a + 1) (s + 1) ops (upd g 4 (nI (a + 1))) (upd h3 4 (nI (tS t L a + 1))) e c (i1.op hT (b := 47) (by omega) q9) hQ ho (by omega) (by omega) (by rw [upd_n (by omega)]; exact hg6) (by rw [upd_n (by omega), i3, d3, b3]; exact h15) (by rw [upd_n (by omega), i4, d4, b4]; exact h16)
        have Z := S_op (a0 := a0) (ops0 := ops0) (kc := fun r M => f_X4_readsTerm_8 Y (f_X4_S Y D) D9 (B + 6) (nI k) r (nI (v3 + 1)) M) (km := f_X8_term_4 Y (f_X8_S Y D) D8 m) E op9.1 op9.2 hs hk hl R bc bm gc
        simp only [e47, q9, nI01, ↓reduceIte, eq_self]
        rw [nx3, bd2_some, bd_some]
        simp only [e47, e74, ↓reduceIte, lt_eq, gi_KS, h4, nI_add, si_KS, gi_MM, i2, si_MM]
        exact Z
      · have e47 : (nb t L (tS t L a) = nI 47) = False := eq_false (fun z => q9 (n47.mp z))
        simp only [e47, sk_eq lK q9 (by omega), ↓reduceIte, xz1]
        exact ⟨c, g, h2, e, rfl, Or.inl ⟨rfl, a, ops, ha, d1, hQ, ho, hl2, hg6, by rw [d3, b3]; exact h15, by rw [d4, b4]; exact h16⟩⟩
end SU
