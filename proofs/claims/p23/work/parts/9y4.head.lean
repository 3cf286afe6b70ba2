/-! THE LAW'S HEAD: a round -/
theorem bkb {kk nn : Nat} (hk : kk ≤ 226000 ∧ nn ≤ 1010000) {a b : Nat} (ha : a ≤ 370000) (hb : b ≤ 6000000) : kk + a ≤ 600086 ∧ nn + b ≤ 7301442 := ⟨Nat.le_trans (Nat.add_le_add hk.1 ha) (by decide), Nat.le_trans (Nat.add_le_add hk.2 hb) (by decide)⟩
section LH
variable {G : XG} {Y0 Y : XY} {N0 N : XN} {B q v D8 kk nn : Nat}
/-- the object, the buffer, the random numbers, a desk with nothing in it -/
theorem H_made (hC : ∀ B, (∀ a, 40 ≤ kc Y0 a → kc Y0 a ≤ 42 → a < B) → CZ (xS G) (xSv G) Y0 N0 B) (hF : FR Y0 N0 Y N) (g : ∀ a, vk (kc Y a) → a < B) (sd : Int32) :
    (kc (yF Y B) B = 9 ∧ kc (yF Y B) (B + 1) = 0) ∧ kc (yK (yF Y B) B 17 0) (B + 1) = 9 ∧ (kc (yL (yK (yF Y B) B 17 0) B) (B + 908) = 9 ∧ kc (yL (yK (yF Y B) B 17 0) B) (B + 908 + 1) = 0) ∧ (kc (yK (yL (yK (yF Y B) B 17 0) B) (B + 908) 1 8) (B + 909) = 9 ∧ kc (yK (yL (yK (yF Y B) B 17 0) B) (B + 908) 1 8) (B + 909 + 1) = 0) ∧ (kc (yK (yK (yL (yK (yF Y B) B 17 0) B) (B + 908) 1 8) (B + 909) 20 0) (B + 910) = 9 ∧ kc (yK (yK (yL (yK (yF Y B) B 17 0) B) (B + 908) 1 8) (B + 909) 20 0) (B + 910 + 1) = 0) ∧ f_X10_init (yK (yK (yL (yK (yF Y B) B 17 0) B) (B + 908) 1 8) (B + 909) 20 0) (B + 909) sd (n0 (n0 (mL (n0 N B) B) (B + 908)) (B + 909)) = some (si (n0 (n0 (mL (n0 N B) B) (B + 908)) (B + 909)) (B + 909) 0 sd) ∧
    ∃ Y37 N39, f_X8_init (yK (yK (yK (yL (yK (yF Y B) B 17 0) B) (B + 908) 1 8) (B + 909) 20 0) (B + 910) 18 0) (B + 911) (B + 910) (n0 (si (n0 (n0 (mL (n0 N B) B) (B + 908)) (B + 909)) (B + 909) 0 sd) (B + 910)) = some (Y37, B + 916, N39) ∧ EV9 (xS G) (xSv G) Y0 N0 Y37 N39 B (B + 908) (B + 909) (B + 910) ∧ DQ Y37 N39 (plU (B + 910)) 0 0 0 (fun _ => 0) [] eU ∧ (∀ hd, IK B N39 [] eU 0 0 hd) ∧ gi N39 B 1 = nI 0 ∧ gi N39 B 2 = -nI 1 ∧ ∀ j, gi N39 (B + 908) j = nI 0 := by
  obtain ⟨f0, f1⟩ := hF.yF g
  have m5 : MK (yF Y B) B := yF_MK
  obtain ⟨o1, o2, o3, o4, o5, o6, o7⟩ := F_obj m5 (fun a ha => yF_low a ha)
  obtain ⟨Y15, hY15⟩ : ∃ M, M = yL (yK (yF Y B) B 17 0) B := ⟨_, rfl⟩
  rw [← hY15] at o2 o3 o4 o5 o6 o7 ⊢
  have m19 : MK (yK Y15 (B + 908) 1 8) (B + 909) := o6.nx
  have m24 : MK (yK (yK Y15 (B + 908) 1 8) (B + 909) 20 0) (B + 910) := m19.nx
  obtain ⟨Y24, hY24⟩ : ∃ M, M = yK (yK Y15 (B + 908) 1 8) (B + 909) 20 0 := ⟨_, rfl⟩
  have k24 : kc Y24 (B + 909) = 20 := by rw [hY24]; exact kcq rfl
  have b24 : kc Y24 (B + 908) = 1 ∧ kn Y24 (B + 908) = 8 := by
    have y := yK_ne (Y := yK Y15 (B + 908) 1 8) (q := B + 909) (c := 20) (m := 0) (b := B + 908) (by omega) (by omega)
    rw [hY24]
    exact ⟨y.1.trans (kcq rfl), y.2.trans (knq rfl)⟩
  have s24 : ∀ a, a < B + 908 → (kc Y24 a = kc Y15 a ∧ kn Y24 a = kn Y15 a) ∧ ∀ j, gr Y24 a j = gr Y15 a j := fun a ha => by
    have y := yK_ne (Y := yK Y15 (B + 908) 1 8) (q := B + 909) (c := 20) (m := 0) (b := a) (by omega) (by omega)
    have y' := yK_ne (Y := Y15) (q := B + 908) (c := 1) (m := 8) (b := a) (by omega) (by omega)
    rw [hY24]
    exact ⟨⟨y.1.trans y'.1, y.2.trans y'.2⟩, fun j => (yK_gr (by omega) j).trans (yK_gr (by omega) j)⟩
  have w24 : WT Y24 := by
    rw [hY24]
    exact (o5.nx o6 (by omega)).nx m19 (by omega)
  rw [← hY24] at m24 ⊢
  obtain ⟨N16, hN16⟩ : ∃ M, M = mL (n0 N B) B := ⟨_, rfl⟩
  have i16 : ∀ hd, IK B N16 [] eU 0 0 hd := fun hd => by rw [hN16]; exact mL_IK
  obtain ⟨l1, l2, -, -⟩ := mL_B (N := n0 N B) (B := B)
  have out16 : ∀ a j, a < B → gi N16 a j = gi N a j := fun a j ha => by
    rw [hN16]
    unfold gi
    rw [mL_out (Or.inl ha), n0_row (by omega)]
  rw [← hN16] at l1 l2 ⊢
  obtain ⟨N29, hN29⟩ : ∃ M, M = si (n0 (n0 N16 (B + 908)) (B + 909)) (B + 909) 0 sd := ⟨_, rfl⟩
  have e29 : ∀ a j, a < B + 908 → gi N29 a j = gi N16 a j := fun a j ha => by
    rw [hN29, gi_si_n (Or.inl (by omega)), n0_ne (by omega), n0_ne (by omega)]
  have b29 : ∀ j, gi N29 (B + 908) j = nI 0 := fun j => by
    rw [hN29, gi_si_n (Or.inl (by omega)), n0_ne (by omega)]
    exact (n0_q j).trans (nI_lit 0)
  have eI : f_X10_init Y24 (B + 909) sd (n0 (n0 N16 (B + 908)) (B + 909)) = some N29 := by
    unfold f_X10_init
    simp only [↓ck, ↓lt_eq, eq_true k24, ↓reduceIte]
    rw [hN29]
  rw [← hN29]
  obtain ⟨Y37, N39, x1, x2, x3, -, x5⟩ := D_usual (N := N29) m24
  have hE24 : EV9 (xS G) (xSv G) Y0 N0 Y24 N29 B (B + 908) (B + 909) (B + 910) := by
    refine ⟨⟨(s24 B (by omega)).1.1.trans o2, o3.same (fun c j h1 h2 => gp_gr ((s24 c (by omega)).2 j)) (s24 (B + 1) (by omega)).1.2, fun b h1 h2 => ?_, w24⟩, ⟨b24.1, b24.2, Nat.le_refl _, by omega⟩, ⟨k24, by omega, by omega⟩, ⟨fun a h1 h2 => ?_, fun a h1 h2 => by have := f1 a h1 h2; omega⟩, hC B f1⟩
    · rw [(s24 b (by omega)).1.1]
      exact o4 b h1 h2
    · obtain ⟨⟨k1, k2⟩, k3, k4⟩ := f0 a h1 h2
      have la := f1 a h1 h2
      obtain ⟨p1, p2, p3⟩ := o7 a la
      obtain ⟨⟨t1, t2⟩, t3⟩ := s24 a (by omega)
      exact ⟨⟨t1.trans (p1.trans k1), t2.trans (p2.trans k2)⟩, fun j => (t3 j).trans ((p3 j).trans (k3 j)), fun j => (e29 a j (by omega)).trans ((out16 a j la).trans (k4 j))⟩
  have rf : RF (B + 909) (B + 910) Y24 N29 Y37 N39 := RF.of_tf x3 (Nat.le_refl _)
  refine ⟨⟨m5.1, m5.2 _ (Nat.lt_succ_self _)⟩, o1, ⟨o6.1, o6.2 _ (Nat.lt_succ_self _)⟩, ⟨m19.1, m19.2 _ (Nat.lt_succ_self _)⟩, ⟨m24.1, m24.2 _ (Nat.lt_succ_self _)⟩, eI, Y37, N39, x1, hE24.rf rf x5, x2.q, fun hd => (i16 hd).same (fun a h1 h2 => funext (fun j => ((x3 a (by omega)).2.2 j).trans (e29 a j h2))), ((x3 B (by omega)).2.2 1).trans ((e29 B 1 (by omega)).trans l1), ((x3 B (by omega)).2.2 2).trans ((e29 B 2 (by omega)).trans l2), fun j => ((x3 (B + 908) (by omega)).2.2 j).trans (b29 j)⟩
end LH
