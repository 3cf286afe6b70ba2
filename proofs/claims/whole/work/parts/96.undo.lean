/-! THE FACE: undo, checksum -/
section UN
variable {P : Nat → Int32} {Y : XY} {B m w : Nat} {N : XN} {d : XD} {ops : List Int32} {k p n : Nat}
theorem F_undo (hY : YO Y B) (hI : IV B N) : FC3 Y B (f_X7_undo Y B) (f_X8_undo Y (B + 908)) N := by
  have hY' := hY
  obtain ⟨⟨g0, g3, g4, h5, h6, g7⟩, gr, -, hW, hW2, hWr, hM, -⟩ := hY'
  have hI' := hI
  obtain ⟨⟨ops, d, hdd⟩, ⟨k, p, hh⟩, n, ht⟩ := hI'
  have hdd' := hdd
  obtain ⟨hD, hz, hT, hr, P, hC⟩ := hdd'
  have hh' := hh
  obtain ⟨⟨a1, a2, a3, a4, a5⟩, a6, a7⟩ := hh'
  have k8 : gp Y (B + 908) 8 = B + 910 := hM.g8
  have g12 : gp Y (B + 908) 12 = B + 914 := hM.g12
  have e0 : ∀ N' : XN, si N' (B + 908) 0 (nI 0) = mm N' B (nI 0) := fun _ => rfl
  by_cases k0 : k = 0
  · subst k0
    refine ⟨-nI 1, N, ?_, fun N' hN' => ⟨mm N' B (nI 0), ?_, (after_read hN' hI _).1, (after_read hN' hI _).2⟩⟩
    · unfold f_X7_undo
      have e : (gi N B 8 = nI 0) = True := eq_true a3
      simp only [nI_lit, e, if_true]
    · have e : (gi (mm N' B (nI 0)) (B + 908) 13 = nI 0) = True := eq_true (by
        rw [show gi (mm N' B (nI 0)) (B + 908) 13 = gi N' (B + 908) 13 from gi_si_n (Or.inr (by omega))]
        unfold gi
        rw [hN']
        exact a6)
      unfold f_X8_undo
      simp only [↓lt_eq, nI_lit, e0, e, if_true]
  · obtain ⟨ops', hD', hT', P', hC'⟩ := a5 (k - 1) (by omega)
    have hz' := a7 (k - 1) (by omega)
    obtain ⟨p', hp'⟩ : ∃ p', (p + 7) % 8 = p' := ⟨_, rfl⟩
    have hp8 : p' < 8 := by omega
    have es : slot B p k (k - 1) = B + (188 + 90 * p') := by unfold slot; omega
    rw [es] at hC'
    obtain ⟨u, hu⟩ : ∃ u, B + (188 + 90 * p') = u := ⟨_, rfl⟩
    -- the class's memory before the copy
    obtain ⟨M1, hM1⟩ : ∃ M1, si (si N B 9 (nI p')) B 8 (nI (k - 1)) = M1 := ⟨_, rfl⟩
    have m1r : ∀ a, a ≠ B → M1.1 a = N.1 a := fun a q => by rw [← hM1, si_row q, si_row q]
    have m1B : ∀ j, j ≠ 8 → j ≠ 9 → gi M1 B j = gi N B j := fun j q1 q2 => by rw [← hM1, gi_si_n (Or.inr q1), gi_si_n (Or.inr q2)]
    have m18 : gi M1 B 8 = nI (k - 1) := by rw [← hM1, gi_si]
    have m19 : gi M1 B 9 = nI p' := by rw [← hM1, gi_si_n (Or.inr (by omega)), gi_si]
    have hC2 : CR P' ops' (hrow B N (k - 1)) (wc M1 u) := hC'.cells hD'.H6 hD'.L8 hD'.R60 (fun o j ho => by unfold wc; rw [← hu, m1r _ (by omega)])
    have hWu := hWr p' hp8
    rw [hu] at hWu
    obtain ⟨Q, c1, k1, k2⟩ := C_copyOf (N := M1) hW hWu (Or.inr (by omega)) hD' hC2 (wc M1 (B + 7))
    rw [sw_wc] at k1
    have gu : gp Y (B + 187) p' = u := (gr p' hp8).trans hu
    have f8 : gi (sw M1 (B + 7) c1) B 8 = nI (k - 1) := (gi_sw_ne 8 (by omega)).trans m18
    refine ⟨nI (k - 1), sw M1 (B + 7) c1, ?_, fun N' hN' => ?_⟩
    · have ne : (gi N B 8 = nI 0) = False := eq_false (fun z => by rw [a3] at z; have := (nI_eq (by omega) (by omega)).mp z; omega)
      have kk : nI k - nI 1 = nI (k - 1) := pk_sub (by omega)
      unfold f_X7_undo
      by_cases p0 : p = 0
      · have pp : p' = 7 := by omega
        have s87 : (nI 8 - nI 1 : Int32) = nI 7 := pk_sub (by omega)
        have e9 : (gi N B 9 ≤ nI 0) = True := eq_true (by rw [a4, p0]; exact nI_le (Nat.le_refl _) (by omega))
        have hx : si (si N B 9 (nI 7)) B 8 (nI (k - 1)) = M1 := by rw [← hM1, pp]
        have gx : gi (si N B 9 (nI 7)) B 8 = nI k := by rw [gi_si_n (Or.inr (by omega))]; exact a3
        simp (disch := omega) only [↓lt_eq, nI_lit, ne, e9, ↓reduceIte, s87, gx, kk, hx, m19, xb_nI, nI_clamp, if_true, g7, gu, h5, k1, bd_some, f8]
      · have pp : p' = p - 1 := by omega
        have s9 : nI p - nI 1 = nI p' := by rw [pk_sub (by omega), pp]
        have e9 : (nI p ≤ nI 0) = False := eq_false (nI_ge (by omega) (by omega))
        have gx : gi (si N B 9 (nI p')) B 8 = nI k := by rw [gi_si_n (Or.inr (by omega))]; exact a3
        simp (disch := omega) only [↓lt_eq, nI_lit, ne, e9, ↓reduceIte, a4, s9, gx, kk, hM1, m19, xb_nI, nI_clamp, if_true, g7, gu, h5, k1, bd_some, f8]
    · have n1 : ∀ a, a ≠ B → (a < B + 7 ∨ B + 97 ≤ a) → N'.1 a = N.1 a := fun a q1 q2 => by
        rw [hN', show (sw M1 (B + 7) c1).1 a = M1.1 a from funext (fun j => gi_sw_ne j (by omega)), m1r a q1]
      have nB : ∀ j, N'.1 B j = M1.1 B j := fun j => by rw [hN']; exact gi_sw_ne j (by omega)
      have e13 : gi (mm N' B (nI 0)) (B + 908) 13 = nI k := by
        rw [show gi (mm N' B (nI 0)) (B + 908) 13 = gi N' (B + 908) 13 from gi_si_n (Or.inr (by omega))]
        unfold gi
        rw [n1 _ (by omega) (by omega)]
        exact a6
      have ne : (nI k = nI 0) = False := eq_false (fun z => by have := (nI_eq (by omega) (by omega)).mp z; omega)
      have kk : nI k - nI 1 = nI (k - 1) := pk_sub (by omega)
      obtain ⟨M2, hM2⟩ : ∃ M2, si (mm N' B (nI 0)) (B + 908) 13 (nI (k - 1)) = M2 := ⟨_, rfl⟩
      have m2r : ∀ a j, ¬ (a = B + 908 ∧ (j = 0 ∨ j = 13)) → M2.1 a j = N'.1 a j := fun a j q => by
        rw [← hM2, si_cell (by omega)]
        exact si_cell (by omega)
      have e13b : gi M2 (B + 908) 13 = nI (k - 1) := by rw [← hM2, gi_si]
      have rowk : M2.1 (B + (915 + (k - 1))) = hrow B N (k - 1) := by
        funext j
        rw [m2r _ _ (by omega), n1 _ (by omega) (by omega)]
        rfl
      have row0 : M2.1 (B + 910) = d := by
        funext j
        rw [m2r _ _ (by omega), n1 _ (by omega) (by omega), hr]
      have hc := M_hcopy (N := M2) hM (a := B + (915 + (k - 1))) (b := B + 910) (by omega) (Or.inr (Or.inr (by omega))) (Or.inl rfl) (by rw [rowk]; exact hz') (by rw [row0]; exact hz)
      rw [rowk] at hc
      have gh : gp Y (B + 914) (k - 1) = B + (915 + (k - 1)) := by
        have := hM.2.1 (k - 1) (by omega)
        rw [show B + 908 + 6 = B + 914 by omega, show B + 908 + 7 + (k - 1) = B + (915 + (k - 1)) by omega] at this
        exact this
      have fin : gi (sd M2 (B + 910) (hrow B N (k - 1))) (B + 908) 13 = nI (k - 1) := by rw [gi_sd_ne (by omega)]; exact e13b
      refine ⟨sd M2 (B + 910) (hrow B N (k - 1)), ?_, ?_, fun a q => ?_⟩
      · unfold f_X8_undo
        simp (disch := omega) only [↓lt_eq, nI_lit, e0, e13, ne, ↓reduceIte, kk, hM2, e13b, xb_nI, nI_clamp, if_true, g12, gh, k8, hc, bd_some, fin]
      · have path : ∀ a j, a ≠ B + 910 → ¬ (a = B + 908 ∧ (j = 0 ∨ j = 13)) → (sd M2 (B + 910) (hrow B N (k - 1))).1 a j = N'.1 a j := fun a j q1 q2 => by rw [sd_ne q1, m2r a j q2]
        have pathN : ∀ a j, a ≠ B + 910 → ¬ (a = B + 908 ∧ (j = 0 ∨ j = 13)) → a ≠ B → (a < B + 7 ∨ B + 97 ≤ a) → (sd M2 (B + 910) (hrow B N (k - 1))).1 a j = N.1 a j := fun a j q1 q2 q3 q4 => by rw [path a j q1 q2, n1 a q3 q4]
        have pathB : ∀ j, j ≠ 8 → j ≠ 9 → gi (sd M2 (B + 910) (hrow B N (k - 1))) B j = gi N B j := fun j q1 q2 => by
          unfold gi
          rw [path _ _ (by omega) (by omega), nB]
          exact m1B j q1 q2
        have hrw : ∀ i, i < 8 → hrow B (sd M2 (B + 910) (hrow B N (k - 1))) i = hrow B N i := fun i hi => by
          funext j
          unfold hrow
          exact pathN _ _ (by omega) (by omega) (by omega) (by omega)
        refine ⟨⟨ops', hrow B N (k - 1), hD', hz', hT', sd_at _ _ _, Q, k2.cells hD'.H6 hD'.L8 hD'.R60 (fun o j ho => ?_)⟩, ⟨k - 1, p', ⟨by omega, hp8, ?_, ?_, fun i hi => ?_⟩, fin, fun i hi => by rw [hrw i hi]; exact a7 i hi⟩, n, ?_⟩
        · unfold wc
          rw [path _ _ (by omega) (by omega), hN']
          exact gi_sw M1 (B + 7) c1 j ho
        · unfold gi
          rw [path _ _ (by omega) (by omega), nB]
          exact m18
        · unfold gi
          rw [path _ _ (by omega) (by omega), nB]
          exact m19
        · obtain ⟨ops9, x1, x2, P9, x3⟩ := a5 i (by omega)
          rw [hrw i (by omega)]
          refine ⟨ops9, x1, x2, P9, ?_⟩
          rw [show slot B p' (k - 1) i = slot B p k i by unfold slot; omega]
          refine x3.cells x1.H6 x1.L8 x1.R60 (fun o j ho => ?_)
          unfold wc slot
          exact pathN _ _ (by omega) (by omega) (by omega) (by omega)
        · refine ht.same (pathB 1 (by omega) (by omega)) ?_ (fun i => ?_) (fun i => ?_) (pathB 2 (by omega) (by omega)) ?_
          · exact pathN _ _ (by omega) (by omega) (by omega) (by omega)
          · exact pathN _ _ (by omega) (by omega) (by omega) (by omega)
          · exact pathN _ _ (by omega) (by omega) (by omega) (by omega)
          · exact pathN _ _ (by omega) (by omega) (by omega) (by omega)
      · rw [show (sd M2 (B + 910) (hrow B N (k - 1))).2 a = M2.2 a from rfl, ← hM2]
        rfl
end UN
