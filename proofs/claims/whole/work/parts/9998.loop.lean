/-! BOTH READ STATEMENT AFTER STATEMENT -/
section SL
variable {Y : XY} {N N2 : XN} {B T L m : Nat} {t : Nat → Nat} {h0 : XD} {P : Nat → Int32}
theorem K_reads0 {D p : Nat} {v : Int32} {M : XN} : f_X4_reads_63 Y (D + 1) p (nI 0) v M = some (nI 0, M) := by
  rw [f_X4_reads_63]
  simp only [nI_lit, xz0, nI01, if_true]
  split <;> rfl
/-- how the reading ends: at the text's end, or with the same fault -/
def OUTL (N N2 : XN) (B T L m : Nat) (t : Nat → Nat) (h0 : XD) (P : Nat → Int32) (Y : XY) (fc : Option (Int32 × XN)) (fm : Option (Int32 × XN)) : Prop :=
  ∃ c' g' h' e' D', fm = f_X8_load_99 Y (D' + 1) m (MM N2 m h' e') ∧ ((fc = some (nI 1, KS N B c' g') ∧ RG T L t h0 T g' h' ∧ ∃ ops, QD P ops e' c') ∨ (fc = some (nI 0, KS N B c' g') ∧ RB h0 g' h'))
theorem S_loop (E : EN Y N N2 B T L m t) : ∀ (n a v D9 D8 : Nat) (f : Bool) (ops : List Int32) (g h e : XD) (c : Nat → Nat → Int32), T - a ≤ n → n + 1 < D9 → n + 1 < D8 → v + 1 ≤ a → RG T L t h0 a g h → QD P ops e c → (f = true → ops = []) → NB f g h → OUTL N N2 B T L m t h0 P Y (f_X4_reads_63 Y D9 (B + 6) (nI 1) (nI v) (KS N B c g)) (f_X8_load_99 Y D8 m (MM N2 m h e)) := by
  obtain ⟨hR, hT, hL, ⟨g1, g9, k9⟩, hM⟩ := id E
  have hT7 := hT.2.2.1
  intro n
  induction n with
  | zero =>
    intro a v D9 D8 f ops g h e c hn hD9 hD8 hv hg hQ hf hN
    obtain ⟨D9, rfl⟩ : ∃ z, D9 = z + 1 := ⟨D9 - 1, by omega⟩
    obtain ⟨D8, rfl⟩ : ∃ z, D8 = z + 1 := ⟨D8 - 1, by omega⟩
    have haT := hg.1
    have ea : a = T := by omega
    subst ea
    have kd := S_kind (c := c) hR hT hg
    have k0 : tK t L (tS t L a) = 0 := tK_end.mpr (by have := hT.2.1; omega)
    rw [k0] at kd
    refine ⟨c, g, h, e, D8, rfl, Or.inl ⟨?_, hg, ops, hQ⟩⟩
    rw [f_X4_reads_63]
    have v7 : (nI 700 ≤ nI v) = False := pLEf (by omega) (by omega)
    simp only [nI_lit, v7, nz10, ↓reduceIte]
    rw [kd, bd_some]
    simp only [nI01, xz1, ↓reduceIte]
  | succ n ih =>
    intro a v D9 D8 f ops g h e c hn hD9 hD8 hv hg hQ hf hN
    obtain ⟨D9, rfl⟩ : ∃ z, D9 = z + 1 := ⟨D9 - 1, by omega⟩
    obtain ⟨D8, rfl⟩ : ∃ z, D8 = z + 1 := ⟨D8 - 1, by omega⟩
    have haT := hg.1
    have kd := S_kind (c := c) hR hT hg
    have lK := tK_lt (t := t) (L := L) (s := tS t L a)
    have v7 : (nI 700 ≤ nI v) = False := pLEf (by omega) (by omega)
    obtain ⟨d9, hd9⟩ : ∃ z, D9 = z + 1 := ⟨D9 - 1, by omega⟩
    obtain ⟨d8, hd8⟩ : ∃ z, D8 = z + 1 := ⟨D8 - 1, by omega⟩
    by_cases q : tK t L (tS t L a) = 0
    · have ea : a = T := by
        rcases Nat.lt_or_ge a T with z | z
        · have := hT.2.2.2 a z
          have := tK_end.mp q
          omega
        · omega
      subst ea
      rw [q] at kd
      refine ⟨c, g, h, e, D8, rfl, Or.inl ⟨?_, hg, ops, hQ⟩⟩
      rw [f_X4_reads_63]
      simp only [nI_lit, v7, nz10, ↓reduceIte]
      rw [kd, bd_some]
      simp only [nI01, xz1, ↓reduceIte]
    · obtain ⟨-, -, hlt⟩ := adv hT haT q
      obtain ⟨h1, nx, b1, b2, b3, b4⟩ := S_next (e := e) hL g1 hM hT hg
      have nbn : (nb t L (tS t L a) = -nI 1) = False := by
        unfold nb
        rw [if_pos hlt]
        exact eq_false (nI_neg1 (by have := (hM _ hlt).1; omega))
      obtain ⟨f', c2, g2, h2, e2, f1, f2⟩ := S_stmt E hQ hf (hN.keep rfl b3 b4) b1
      rw [f_X4_reads_63, f_X8_load_99]
      simp only [nI_lit, v7, nz10, hg.good, ↓reduceIte, nI_add]
      rw [kd, bd_some, nx, bd2_some]
      simp only [nbn, sk_eq lK q (by omega), ↓reduceIte]
      rw [f1]
      rcases f2 with ⟨f2, ⟨a', i1, i2⟩, ⟨ops', i3, i4⟩, i5⟩ | ⟨f2, i1⟩
      · rw [f2, bd2_some]
        simp only [nz10, ↓reduceIte]
        obtain ⟨g3, h3, x1, x2⟩ := S_takes (N2 := N2) (c := c2) (e := e2) hR hT hL g1 hM i2 (b := 59) (by omega)
        have es : sgK 59 = 3 := rfl
        rw [es] at x2
        rw [x1, bd_some, bd_some]
        rcases x2 with ⟨x2, x3, x4, x5, x6⟩ | ⟨x2, x3⟩
        · rw [x2, bd2_some]
          simp only [nz10, ↓reduceIte]
          exact ih (a' + 1) (v + 1) D9 D8 f' ops' g3 h3 e2 c2 (by omega) (by omega) (by omega) (by omega) x3 i4 i3 (i5.keep x4 x5 x6)
        · rw [x2, bd2_some]
          simp only [nI01, ↓reduceIte]
          rw [hd9, K_reads0, hd8]
          exact ⟨c2, g3, h3, e2, d8, rfl, Or.inr ⟨rfl, x3⟩⟩
      · rw [f2, bd2_some, M_expect_bad i1.1, bd_some, bd_some]
        simp only [nI01, ↓reduceIte]
        rw [hd9, K_reads0, hd8]
        exact ⟨c2, g2, h2, e2, d8, rfl, Or.inr ⟨rfl, i1⟩⟩
end SL
