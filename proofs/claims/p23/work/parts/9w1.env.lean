/-! WHAT THE MAKING OF A RANDOM DESK KEEPS -/
theorem nums_app : ∀ (a b : List Nat), nums (a ++ b) = nums a ++ nums b := by
  intro a
  induction a with
  | nil => intro b; rfl
  | cons x t ih =>
    intro b
    show 32 :: (NT x ++ nums (t ++ b)) = 32 :: (NT x ++ nums t) ++ nums b
    rw [ih b]
    show _ = 32 :: (NT x ++ nums t ++ nums b)
    rw [List.append_assoc]
theorem LX_nums : ∀ (xs : List Nat), (∀ x, x ∈ xs → x ≤ 9999) → ∃ d ds, nums xs ++ [59] = d :: ds ∧ isL d = false ∧ isD d = false ∧ LXR (d :: ds) (xs.map (fun x => (2, x)) ++ [(3, 0)]) := by
  intro xs
  induction xs with
  | nil => intro _; exact ⟨59, [], rfl, rfl, rfl, LXR.sg 59 (by decide) LXR.nil⟩
  | cons x t ih =>
    intro hx
    obtain ⟨d, ds, e1, e2, e3, e4⟩ := ih (fun y hy => hx y (List.mem_cons_of_mem _ hy))
    refine ⟨32, NT x ++ d :: ds, ?_, rfl, rfl, LXR.sp (LXR.nm x (hx x (List.mem_cons_self ..)) d e3 e4)⟩
    show 32 :: (NT x ++ nums t ++ [59]) = _
    rw [List.append_assoc, e1]
theorem LX_stmt {i : Nat} (hi : i < 13) {xs : List Nat} (hx : ∀ x, x ∈ xs → x ≤ 9999) : LXR (wB i ++ (nums xs ++ [59])) ((10 + i, 0) :: (xs.map (fun x => (2, x)) ++ [(3, 0)])) := by
  obtain ⟨d, ds, e1, e2, e3, e4⟩ := LX_nums xs hx
  rw [e1]
  exact LXR.wd i hi d e2 e4
/-- the strings of the program, all -/
def CZ (SS SV : Nat → Nat) (Y : XY) (N : XN) (B : Nat) : Prop := CX SS SV Y N B ∧ (CT Y N B (SS 13) [32] ∧ CT Y N B (SS 14) (wB 0 ++ [59]) ∧ CT Y N B (SS 15) (wB 1) ∧ CT Y N B (SS 16) [59] ∧ CT Y N B (SS 17) (wB 2) ∧ CT Y N B (SS 18) [] ∧ CT Y N B (SS 19) (wB 3) ∧ CT Y N B (SS 20) (wB 9 ++ [32]) ∧ CT Y N B (SS 21) [32, 59]) ∧ (kc Y (SV 103) = 42 ∧ kn Y (SV 103) = 5 ∧ ∀ j, j < 5 → ∃ s, gr Y (SV 103) j = some s ∧ CT Y N B s (wB (4 + j)))
section CZS
variable {SS SV : Nat → Nat} {Y0 Y Y' : XY} {N0 N N' : XN} {B bf rnd q q0 s : Nat} {ws : List Nat}
theorem CT.fr (h : CT Y0 N0 B s ws) (hf : FR Y0 N0 Y N) : CT Y N B s ws := by
  obtain ⟨⟨⟨h1, h2⟩, v, ⟨h3, h4, h5, h6⟩, h7, h8, h9, h10⟩, k1, k2⟩ := h
  rw [gp_of h3] at k2
  have x := hf s (by omega) (by omega)
  have y := hf v (by omega) (by omega)
  have g3 : gr Y s 0 = some v := (x.2.1 0).trans h3
  refine ⟨⟨⟨by rw [x.1.1]; exact h1, h2⟩, v, ⟨g3, by rw [y.1.1]; exact h4, y.1.2.trans h5, h6⟩, (x.2.2 1).trans h7, fun j hj => (y.2.2 j).trans (h8 j hj), h9, h10⟩, x.1.1.trans k1, ?_⟩
  rw [gp_of g3]
  exact y.1.1.trans k2
theorem CX.fr (h : CX SS SV Y0 N0 B) (hf : FR Y0 N0 Y N) : CX SS SV Y N B := by
  obtain ⟨⟨a1, a2, a3, a4, a5, a6, a7⟩, ⟨⟨t1, t2, t3⟩, t4, t5, t6⟩, c1, c2, c3⟩ := h
  have x := hf (SV 100) (by omega) (by omega)
  have y := hf (SV 101) (by omega) (by omega)
  have z := hf (SV 102) (by omega) (by omega)
  refine ⟨⟨a1.fr hf, a2.fr hf, a3.fr hf, a4.fr hf, a5.fr hf, a6.fr hf, a7.fr hf⟩, ⟨⟨x.1.1.trans t1, x.1.2.trans t2, fun j hj => (x.2.2 j).trans (t3 j hj)⟩, y.1.1.trans t4, y.1.2.trans t5, fun j hj => (y.2.2 j).trans (t6 j hj)⟩, z.1.1.trans c1, z.1.2.trans c2, fun j hj => ?_⟩
  obtain ⟨s, s1, s2⟩ := c3 j hj
  exact ⟨s, (z.2.1 j).trans s1, s2.fr hf⟩
theorem CZ.fr (h : CZ SS SV Y0 N0 B) (hf : FR Y0 N0 Y N) : CZ SS SV Y N B := by
  obtain ⟨h1, ⟨a1, a2, a3, a4, a5, a6, a7, a8, a9⟩, c1, c2, c3⟩ := h
  have z := hf (SV 103) (by omega) (by omega)
  refine ⟨h1.fr hf, ⟨a1.fr hf, a2.fr hf, a3.fr hf, a4.fr hf, a5.fr hf, a6.fr hf, a7.fr hf, a8.fr hf, a9.fr hf⟩, z.1.1.trans c1, z.1.2.trans c2, fun j hj => ?_⟩
  obtain ⟨s, s1, s2⟩ := c3 j hj
  exact ⟨s, (z.2.1 j).trans s1, s2.fr hf⟩
/-- the object, the buffer, the random numbers, the strings; all below q0 -/
def EV9 (SS SV : Nat → Nat) (Y0 : XY) (N0 : XN) (Y : XY) (N : XN) (B bf rnd q0 : Nat) : Prop := (kc Y B = 17 ∧ YO Y B ∧ NB Y B ∧ WT Y) ∧ (kc Y bf = 1 ∧ kn Y bf = 8 ∧ B + 908 ≤ bf ∧ bf < q0) ∧ (kc Y rnd = 20 ∧ B + 908 ≤ rnd ∧ rnd < q0) ∧ (FR Y0 N0 Y N ∧ ∀ a, 40 ≤ kc Y0 a → kc Y0 a ≤ 42 → a < q0) ∧ CZ SS SV Y0 N0 B
theorem EV9.cz (h : EV9 SS SV Y0 N0 Y N B bf rnd q0) : CZ SS SV Y N B := h.2.2.2.2.fr h.2.2.2.1.1
theorem EV9.rf (h : EV9 SS SV Y0 N0 Y N B bf rnd q0) (hf : RF rnd q0 Y N Y' N') (hw : WT Y → WT Y') : EV9 SS SV Y0 N0 Y' N' B bf rnd q0 := by
  obtain ⟨⟨c1, c2, c3, c4⟩, ⟨b1, b2, b3, b4⟩, ⟨r1, r2, r3⟩, ⟨f1, f2⟩, z⟩ := h
  refine ⟨⟨(hf B (by omega)).1.1.trans c1, c2.same (fun c j h1 h2 => gp_gr ((hf c (by omega)).2.1 j)) (hf (B + 1) (by omega)).1.2, fun b h1 h2 => ?_, hw c4⟩, ⟨(hf bf b4).1.1.trans b1, (hf bf b4).1.2.trans b2, b3, b4⟩, ⟨(hf rnd r3).1.1.trans r1, r2, r3⟩, ⟨fun a h1 h2 => ?_, f2⟩, z⟩
  · rw [(hf b (by omega)).1.1]; exact c3 b h1 h2
  · have x := hf a (f2 a h1 h2)
    obtain ⟨⟨k1, k2⟩, k3, k4⟩ := f1 a h1 h2
    have ne : a ≠ rnd := fun e => by rw [e, r1] at k1; rw [e] at h1; omega
    exact ⟨⟨x.1.1.trans k1, x.1.2.trans k2⟩, fun j => (x.2.1 j).trans (k3 j), fun j => (x.2.2 j (Or.inl ne)).trans (k4 j)⟩
theorem EV9.ft (h : EV9 SS SV Y0 N0 Y N B bf rnd q0) (hf : FT B bf N N') : EV9 SS SV Y0 N0 Y N' B bf rnd q0 := by
  obtain ⟨⟨c1, c2, c3, c4⟩, ⟨b1, b2, b3, b4⟩, r, ⟨f1, f2⟩, z⟩ := h
  have k2 := (bytes_k c4 c1 c2).1
  refine ⟨⟨c1, c2, c3, c4⟩, ⟨b1, b2, b3, b4⟩, r, ⟨fun a h1 h2 => ?_, f2⟩, z⟩
  obtain ⟨⟨e1, e2⟩, e3, e4⟩ := f1 a h1 h2
  refine ⟨⟨e1, e2⟩, e3, fun j => ?_⟩
  unfold gi
  rw [hf.1 a (fun e => by rw [← e] at b1; omega) (fun e => by rw [← e] at c1; omega) (fun e => by rw [← e] at k2; omega)]
  exact e4 j
section EBI
variable {ops : List Int32} {d : XD} {k p : Nat} {hd : Nat → XD} {bs : List Nat}
theorem IK.rf (h : IK B N ops d k p hd) (hf : RF rnd q0 Y N Y' N') (hq : B + 908 ≤ q0) (hr : B + 908 ≤ rnd) : IK B N' ops d k p hd :=
  h.same (fun a h1 h2 => funext (fun j => (hf a (by omega)).2.2 j (Or.inl (by omega))))
theorem IK.ft (h : IK B N ops d k p hd) (hf : FT B bf N N') (hb : B + 908 ≤ bf) : IK B N' ops d k p hd :=
  h.same2 (fun a ha => hf.1 a (by omega) (by omega) (by omega)) (hf.2 8 (by omega)) (hf.2 9 (by omega))
theorem TXT.rf (h : TXT N B bf bs) (hf : RF rnd q0 Y N Y' N') (hb : B + 908 ≤ bf ∧ bf < q0 ∧ bf ≠ rnd) (hr : B + 908 ≤ rnd) : TXT N' B bf bs := by
  obtain ⟨t1, t2, t3, t4, t5, t6⟩ := h
  exact ⟨t1, t2, ((hf bf (by omega)).2.2 0 (Or.inl hb.2.2)).trans t3, ((hf B (by omega)).2.2 1 (Or.inl (by omega))).trans t4, fun j hj => ((hf (B + 1) (by omega)).2.2 j (Or.inl (by omega))).trans (t5 j hj), fun w hw => ((hf bf (by omega)).2.2 (1 + w) (Or.inl hb.2.2)).trans (t6 w hw)⟩
end EBI
end CZS
section GR2
variable {Y Y' : XY} {pl : Nat → Nat} {H L M R H' L' M' R' : Nat} {T T' : Nat → Nat} {gn G b A : Nat} {d d' : XD} {c c' : Nat → Nat → Int32}
theorem DY.grow2 (hY : DY Y pl H L M R T) (hb' : H' ≤ 6 ∧ L' ≤ 8 ∧ M' ≤ 8 ∧ R' ≤ 60) (hu : ∀ g, us H' L' M' R' g ↔ us H L M R g ∨ g = gn) (hn : ¬ us H L M R gn) (hG : pg gn = G ∧ 84 ≤ G ∧ G < 88 ∧ gn ≠ 0 ∧ kg gn = 1) (hng : ∀ g, us H L M R g → g ≠ G → ng H' L' M' R' T' g = ng H L M R T g) (fb : ∀ g, us H L M R g → pl g ≠ b ∧ pl g ≠ A) (hAb : A ≠ b)
    (hk : ∀ g, us H L M R g → g ≠ G → kc Y' (pl g) = kc Y (pl g) ∧ kn Y' (pl g) = kn Y (pl g)) (hr : ∀ g j, us H L M R g → g ≠ G → (g ≠ 0 ∨ j ≠ og G) → gr Y' (pl g) j = gr Y (pl g) j)
    (kb : kc Y' b = 1 ∧ kn Y' b = ng H' L' M' R' T' gn) (kA : kc Y' A = 8 ∧ kn Y' A = ng H' L' M' R' T' G) (g0 : gr Y' (pl 0) (og G) = some A) (gA : ∀ g, us H L M R g → g ≠ 0 → pg g = G → gr Y' A (og g) = some (pl g)) (gb : gr Y' A (og gn) = some b) :
    DY Y' (plG pl gn G b A) H' L' M' R' T' := by
  obtain ⟨G1, G2, G3, G4, G5⟩ := hG
  have hbb := hY.1
  have u0 : us H L M R 0 := by unfold us; omega
  have uG : us H L M R G := by unfold us; omega
  have n0 : gn ≠ G := fun e => hn (by rw [e]; exact uG)
  have p0 : plG pl gn G b A 0 = pl 0 := by unfold plG; rw [if_neg (Ne.symm G4), if_neg (by omega)]
  have pG : plG pl gn G b A G = A := by unfold plG; rw [if_neg (Ne.symm n0), if_pos rfl]
  have po : ∀ g, g ≠ gn → g ≠ G → plG pl gn G b A g = pl g := fun g h1 h2 => by unfold plG; rw [if_neg h1, if_neg h2]
  have pn : plG pl gn G b A gn = b := by unfold plG; rw [if_pos rfl]
  refine ⟨hb', fun g g' hg hg' e => ?_, fun g hg => ?_⟩
  · by_cases e1 : g = gn
    · by_cases e2 : g' = gn
      · omega
      · exfalso
        have ug' := ((hu g').mp hg').resolve_right e2
        rw [e1, pn] at e
        by_cases e3 : g' = G
        · rw [e3, pG] at e; exact hAb e.symm
        · rw [po g' e2 e3] at e; exact (fb g' ug').1 e.symm
    · have ug := ((hu g).mp hg).resolve_right e1
      by_cases e2 : g' = gn
      · exfalso
        rw [e2, pn] at e
        by_cases e3 : g = G
        · rw [e3, pG] at e; exact hAb e
        · rw [po g e1 e3] at e; exact (fb g ug).1 e
      · have ug' := ((hu g').mp hg').resolve_right e2
        by_cases e3 : g = G
        · by_cases e4 : g' = G
          · omega
          · rw [e3, pG, po g' e2 e4] at e; exact absurd e.symm (fb g' ug').2
        · by_cases e4 : g' = G
          · rw [e4, pG, po g e1 e3] at e; exact absurd e (fb g ug).2
          · rw [po g e1 e3, po g' e2 e4] at e; exact hY.P g g' ug ug' e
  · by_cases e1 : g = gn
    · rw [e1, pn, G1, pG, G5]
      exact ⟨kb.1, fun _ => ⟨kb.2, gb⟩⟩
    · have ug := ((hu g).mp hg).resolve_right e1
      by_cases e3 : g = G
      · have k8 : kg G = 8 := by unfold kg; rw [if_neg (by omega), if_pos G2]
        have pg0 : pg G = 0 := by unfold pg; (repeat' split) <;> omega
        rw [e3, pG, k8, pg0, p0]
        exact ⟨kA.1, fun _ => ⟨kA.2, g0⟩⟩
      · obtain ⟨c1, c2⟩ := hY.2.2 g ug
        obtain ⟨k1, k2⟩ := hk g ug e3
        rw [po g e1 e3]
        refine ⟨k1.trans c1, fun h0 => ?_⟩
        obtain ⟨c3, c4⟩ := c2 h0
        refine ⟨k2.trans (c3.trans (hng g ug e3).symm), ?_⟩
        obtain ⟨u1, u2⟩ := us_pg hbb ug h0
        have pne : pg g ≠ gn := fun e => hn (e ▸ u1)
        by_cases e4 : pg g = G
        · rw [e4, pG]
          exact gA g ug h0 e4
        · rw [po _ pne e4]
          refine (hr (pg g) (og g) u1 e4 ?_).trans c4
          by_cases e5 : pg g = 0
          · refine Or.inr ?_
            unfold us at ug
            unfold pg at e5
            unfold og
            (repeat' split at e5) <;> (repeat' split) <;> omega
          · exact Or.inl e5
end GR2
section DKB
variable {Y Y' : XY} {q q' : Nat} {N N' : XN} {pl : Nat → Nat} {H L R : Nat} {T : Nat → Nat} {ops : List Int32} {d : XD}
/-- the numbers of the desk's cells alone count -/
theorem DK.sameN (h : DK Y q N pl H L R T ops d) (e : ∀ g, us H L L R g → ∀ j, gi N' (pl g) j = gi N (pl g) j) : DK Y q N' pl H L R T ops d := by
  refine ⟨h.m, h.y, ⟨h.n.1, fun g k hv => ?_⟩, h.s, h.j, h.h4, h.l3⟩
  have := h.n.2 g k hv
  exact (e g (vd_us hv) k).trans this
theorem eHd_at (e : XD) (x y : Int32) : eHd e x y 1 = nI (nH e + 1) ∧ (nH e ≤ 6 → eHd e x y (12 + 6 * nH e) = x ∧ eHd e x y (13 + 6 * nH e) = y) ∧ ∀ j, j ≠ 1 → j ≠ 12 + 6 * nH e → j ≠ 13 + 6 * nH e → eHd e x y j = e j := by
  unfold eHd
  refine ⟨upd_s _ _ _, fun _ => ⟨?_, ?_⟩, fun j h1 h2 h3 => ?_⟩
  · rw [upd_n (by omega), upd_n (by omega), upd_s]
  · rw [upd_n (by omega), upd_s]
  · rw [upd_n h1, upd_n h3, upd_n h2]
/-- a handler more -/
theorem DK.addH (h : DK Y q N pl H L R T ops d) {b A : Nat} {x y : Int32} (hm : MK Y' q') (hb : q ≤ b ∧ b < q') (hA : q ≤ A ∧ A < q') (hAb : A ≠ b) (hH : H < 4)
    (low : ∀ c, c < q → (kc Y' c = kc Y c ∧ kn Y' c = kn Y c) ∧ (∀ j, (c ≠ pl 0 ∨ j ≠ 3) → gr Y' c j = gr Y c j))
    (lowN : ∀ g, us H L L R g → ∀ j, gi N' (pl g) j = gi N (pl g) j)
    (kb : kc Y' b = 1 ∧ kn Y' b = 6) (kA : kc Y' A = 8 ∧ kn Y' A = H + 1) (g0 : gr Y' (pl 0) 3 = some A) (gA : ∀ i, i < H → gr Y' A i = some (pl (2 + i))) (gb : gr Y' A H = some b)
    (v : gi N' b 0 = x ∧ gi N' b 1 = y ∧ gi N' b 2 = nI 0 ∧ gi N' b 3 = nI 0 ∧ gi N' b 4 = nI 0 ∧ gi N' b 5 = nI 0) (hz : ∀ j, 12 + 6 * nH d ≤ j → j < 48 → d j = nI 0) (hj : DJ ops (eHd d x y)) :
    DK Y' q' N' (plG pl (2 + H) 84 b A) (H + 1) L R T ops (eHd d x y) := by
  have hY := h.y
  have h6 := hY.H6
  have h8 := hY.L8
  have h60 := hY.R60
  have lt := fun g (hg : us H L L R g) => us_lt h.m hY hg
  have eH := h.s.1
  obtain ⟨p1, p2, pf⟩ := eHd_at d x y
  rw [eH] at p1 p2 pf hz
  obtain ⟨p2, p3⟩ := p2 (by omega)
  refine ⟨hm, ?_, ?_, ⟨?_, (nL_same (pf 2 (by omega) (by omega) (by omega))).trans h.s.2.1, (nR_same (pf 3 (by omega) (by omega) (by omega))).trans h.s.2.2.1, fun j hj => (nT_same (pf _ (by omega) (by omega) (by omega))).trans (h.s.2.2.2 j hj)⟩, hj, by omega, h.l3⟩
  · refine hY.grow2 (b := b) (A := A) (gn := 2 + H) (G := 84) ⟨by omega, h8, h8, h60⟩ (fun g => by unfold us; omega) (by unfold us; omega) ⟨by unfold pg; (repeat' split) <;> omega, by omega, by omega, by omega, by unfold kg; (repeat' split) <;> omega⟩ (fun g hg hne => ?_) (fun g hg => ⟨by have := lt g hg; omega, by have := lt g hg; omega⟩) hAb (fun g hg _ => (low _ (lt g hg)).1) (fun g j hg hne hj => (low _ (lt g hg)).2 j ?_) ⟨kb.1, kb.2.trans ?_⟩ ⟨kA.1, kA.2.trans ?_⟩ g0 (fun g hg h0 e => ?_) ?_
    · unfold ng
      unfold us at hg
      (repeat' split) <;> first | rfl | omega
    · rcases hj with hj | hj
      · exact Or.inl (fun e => hj (hY.P _ _ hg (by unfold us; omega) e))
      · exact Or.inr hj
    · unfold ng
      (repeat' split) <;> omega
    · unfold ng
      (repeat' split) <;> omega
    · have e2 : 2 ≤ g ∧ g < 8 := by
        unfold us at hg
        unfold pg at e
        (repeat' split at e) <;> omega
      have e3 : og g = g - 2 := by unfold og; (repeat' split) <;> omega
      rw [e3, gA _ (by unfold us at hg; omega), show 2 + (g - 2) = g by omega]
    · have e3 : og (2 + H) = H := by unfold og; (repeat' split) <;> omega
      rw [e3]
      exact gb
  · refine h.n.grow (gn := 2 + H) ⟨by omega, h8, h8, h60, h.n.1.2.2.2.2⟩ (fun g j hv => ?_) (fun g j hv hne => ⟨?_, ?_⟩) (fun j hv => ?_)
    · unfold vd at hv ⊢
      omega
    · have hg := vd_us hv
      have e : plG pl (2 + H) 84 b A g = pl g := by
        unfold plG
        rw [if_neg hne, if_neg (by unfold vd at hv; omega)]
      show gi N' (plG pl (2 + H) 84 b A g) j = gi N (pl g) j
      rw [e]
      exact lowN g hg j
    · have hv' := hv
      unfold vd at hv'
      refine pf _ ?_ ?_ ?_ <;> (unfold ixg; (repeat' split) <;> omega)
    · have e : plG pl (2 + H) 84 b A (2 + H) = b := if_pos rfl
      have hj6 : j < 6 := by unfold vd at hv; omega
      have ei : ixg (2 + H) j = 12 + 6 * H + j := by unfold ixg; (repeat' split) <;> omega
      show gi N' (plG pl (2 + H) 84 b A (2 + H)) j = _
      rw [e, ei]
      obtain ⟨v0, v1, v2, v3, v4, v5⟩ := v
      have zz : ∀ j, 2 ≤ j → j < 6 → eHd d x y (12 + 6 * H + j) = nI 0 := fun j q1 q2 => (pf _ (by omega) (by omega) (by omega)).trans (hz _ (by omega) (by omega))
      rcases (by omega : j = 0 ∨ j = 1 ∨ j = 2 ∨ j = 3 ∨ j = 4 ∨ j = 5) with rfl | rfl | rfl | rfl | rfl | rfl
      · exact v0.trans p2.symm
      · rw [show 12 + 6 * H + 1 = 13 + 6 * H by omega]; exact v1.trans p3.symm
      · exact v2.trans (zz 2 (by omega) (by omega)).symm
      · exact v3.trans (zz 3 (by omega) (by omega)).symm
      · exact v4.trans (zz 4 (by omega) (by omega)).symm
      · exact v5.trans (zz 5 (by omega) (by omega)).symm
  · unfold nH
    rw [p1]
    exact nI_clamp (by omega)
end DKB
