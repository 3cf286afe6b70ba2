/-! THE LAW'S HEAD: what is carried -/
section EV2
variable {SS SV : Nat → Nat} {Y0 Y Y' : XY} {N0 N N' : XN} {B bf rnd q q0 q1 p : Nat} {ops : List Int32}
theorem EV9.le (h : EV9 SS SV Y0 N0 Y N B bf rnd q0) (hq : q0 ≤ q1) : EV9 SS SV Y0 N0 Y N B bf rnd q1 := by
  obtain ⟨c, ⟨b1, b2, b3, b4⟩, ⟨r1, r2, r3⟩, ⟨f1, f2⟩, z⟩ := h
  exact ⟨c, ⟨b1, b2, b3, by omega⟩, ⟨r1, r2, by omega⟩, ⟨f1, fun a h1 h2 => by have := f2 a h1 h2; omega⟩, z⟩
theorem EV9.vk9 (h : EV9 SS SV Y0 N0 Y N B bf rnd q0) (hk : ∀ c, vk (kc Y c) → kc Y' c = kc Y c ∧ kn Y' c = kn Y c) (hr : ∀ c j, gr Y' c j = gr Y c j) (hw : WT Y → WT Y') (hNB : ∀ b, kc Y' b = kc Y b ∨ kc Y' b ≤ 17) : EV9 SS SV Y0 N0 Y' N B bf rnd q0 := by
  obtain ⟨⟨c1, c2, c3, c4⟩, ⟨b1, b2, b3, b4⟩, ⟨r1, r2, r3⟩, ⟨f1, f2⟩, z⟩ := h
  have kb := hk bf (vk_of (by omega))
  refine ⟨⟨(hk _ (vk_of (by omega))).1.trans c1, c2.same (fun c j _ _ => gp_gr (hr c j)) (hk _ (vk_of (by have := (bytes_k c4 c1 c2).1; omega))).2, fun b h1 h2 => ?_, hw c4⟩, ⟨kb.1.trans b1, kb.2.trans b2, b3, b4⟩, ⟨(hk _ (vk_of (by omega))).1.trans r1, r2, r3⟩, ⟨fun c h1 h2 => ?_, f2⟩, z⟩
  · rcases hNB b with e | e
    · rw [e]; exact c3 b h1 h2
    · exact e
  · obtain ⟨⟨k1, k2⟩, k3, k4⟩ := f1 c h1 h2
    obtain ⟨e1, e2⟩ := hk c (vk_of (by omega))
    exact ⟨⟨e1.trans k1, e2.trans k2⟩, fun j => (hr c j).trans (k3 j), k4⟩
theorem EV9.fb (h : EV9 SS SV Y0 N0 Y N B bf rnd q0) (hf : FB B N N') : EV9 SS SV Y0 N0 Y N' B bf rnd q0 := by
  obtain ⟨⟨c1, c2, c3, c4⟩, b, r, ⟨f1, f2⟩, z⟩ := h
  refine ⟨⟨c1, c2, c3, c4⟩, b, r, ⟨fun c h1 h2 => ?_, f2⟩, z⟩
  obtain ⟨⟨k1, k2⟩, k3, k4⟩ := f1 c h1 h2
  have ho : c < B ∨ B + 908 ≤ c := by
    rcases Nat.lt_or_ge c B with z | z
    · exact Or.inl z
    · rcases Nat.lt_or_ge c (B + 908) with z2 | z2
      · have := c3 c z z2; omega
      · exact Or.inr z2
  refine ⟨⟨k1, k2⟩, k3, fun j => ?_⟩
  unfold gi
  rw [hf c ho]
  exact k4 j
theorem y9_NB (b : Nat) : kc (y9 Y) b = kc Y b ∨ kc (y9 Y) b ≤ 17 := by
  by_cases e : kc Y b = 9
  · have e' : (Y.2 b).1 = 9 := e
    refine Or.inr ?_
    show (if (Y.2 b).1 = 9 then ((0, 0) : Nat × Nat) else Y.2 b).1 ≤ 17
    rw [if_pos e']
    omega
  · exact Or.inl (y9_in e).1
theorem yM_NB (b : Nat) : kc (yM Y q) b = kc Y b ∨ kc (yM Y q) b ≤ 17 := by
  by_cases e : b = q
  · rw [e, kc_yMq]; exact Or.inr (by omega)
  · rcases kc_yMv (Y := Y) e with z | z
    · exact Or.inr (by omega)
    · exact Or.inl z.1
theorem EV9.y9 (h : EV9 SS SV Y0 N0 Y N B bf rnd q0) : EV9 SS SV Y0 N0 (y9 Y) N B bf rnd q0 :=
  h.vk9 (fun _ hc => y9_in (vk_9 hc)) (fun _ _ => rfl) (fun w => w.y9w) y9_NB
theorem EV9.yM (h : EV9 SS SV Y0 N0 Y N B bf rnd q0) (g : ∀ a, vk (kc Y a) → a < q) : EV9 SS SV Y0 N0 (yM Y q) N B bf rnd q0 :=
  h.vk9 (fun _ hc => yM_in g hc) (fun _ _ => rfl) (fun w => w.yMw g) yM_NB
theorem MK.yM : MK (yM Y q) q := ⟨kc_yMq, fun _ ha => kc_yMu ha⟩
theorem TM.vk9 (h : TM Y N p ops) (g7 : gr Y' p 7 = gr Y p 7) (hk : ∀ c, kc Y c = 19 → kc Y' c = 19 ∧ (∀ j, gr Y' c j = gr Y c j) ∧ ∀ j, gi N' c j = gi N c j) : TM Y' N' p ops := by
  rcases h with ⟨h1, h2⟩ | ⟨x, tx, vl, h1, h2⟩
  · exact Or.inl ⟨g7.trans h1, h2⟩
  · exact Or.inr ⟨x, tx, vl, g7.trans h1, h2.keep 3 hk⟩
/-- the frozen cells and the new mark, before the object is made -/
theorem yF_MK : MK (yF Y q) q := by
  refine ⟨kc_yFq, fun a ha => ?_⟩
  rcases kc_yFv (Y := Y) (q := q) (b := a) (by omega) with h | h
  · exact h
  · omega
theorem yF_low (a : Nat) (ha : a < q) : kc (yF Y q) a = 0 ∨ 40 ≤ kc (yF Y q) a := by
  rcases kc_yFv (Y := Y) (q := q) (b := a) (by omega) with h | h
  · exact Or.inl h
  · exact Or.inr (by omega)
theorem FR.yF (h : FR Y0 N0 Y N) (g : ∀ a, vk (kc Y a) → a < q) : FR Y0 N0 (yF Y q) N ∧ ∀ a, 40 ≤ kc Y0 a → kc Y0 a ≤ 42 → a < q := by
  refine ⟨fun a h1 h2 => ?_, fun a h1 h2 => ?_⟩
  · obtain ⟨⟨k1, k2⟩, k3, k4⟩ := h a h1 h2
    obtain ⟨e1, e2⟩ := kc_yF (Y := Y) (q := q) (b := a) g ⟨h1, h2⟩ k1
    exact ⟨⟨e1, e2.trans k2⟩, k3, k4⟩
  · obtain ⟨⟨k1, -⟩, -⟩ := h a h1 h2
    exact g a (vk_of (by omega))
theorem TXT.nil (h0 : gi N bf 0 = nI 0) (h1 : gi N B 1 = nI 0) (h2 : ∀ w, w < 5 → gi N bf (1 + w) = nI 0) : TXT N B bf [] := by
  have g0 : ∀ j, gd [] j = 0 := fun j => rfl
  refine ⟨Nat.zero_le _, fun j => by rw [g0]; omega, h0, h1, fun j hj => absurd hj (Nat.not_lt_zero j), fun w hw => ?_⟩
  rw [h2 w hw]
  unfold PK
  rw [g0, g0, g0, g0]
theorem sCount_0 {d : XD} {s : Int32} (h : nR d = 0) : sCount d s = 0 := by
  unfold sCount
  rw [h]
  rfl
theorem eU_n : nH eU = 0 ∧ nL eU = 0 ∧ nR eU = 0 ∧ tM eU = 0 := by
  obtain ⟨u0, -⟩ := eUsual_at (e := fun _ => nI 0)
  have z0 : eU 0 = nI 0 := u0 0 (by omega) (by omega)
  have z1 : eU 1 = nI 0 := u0 1 (by omega) (by omega)
  have z2 : eU 2 = nI 0 := u0 2 (by omega) (by omega)
  have z3 : eU 3 = nI 0 := u0 3 (by omega) (by omega)
  refine ⟨?_, ?_, ?_, ?_⟩
  · unfold nH; rw [z1]; exact nI_clamp (by omega)
  · unfold nL; rw [z2]; exact nI_clamp (by omega)
  · unfold nR; rw [z3]; exact nI_clamp (by omega)
  · unfold tM; rw [z0]; exact nI_clamp (by omega)
end EV2
