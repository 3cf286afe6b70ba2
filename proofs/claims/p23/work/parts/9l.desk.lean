/-! A COPY OF THE DESK -/
def plC (pl : Nat → Nat) (q H L : Nat) : Nat → Nat := fun g => if g = 0 then q else if g = 1 then pl 1 else if g < 8 then q + 5 + g else if g < 16 then q + H + g else if g < 24 then q + H + L + (g - 7) else if g < 84 then q + H + L + L + (g - 14) else if g = 84 then q + 6 else if g = 85 then q + 7 + H else if g = 86 then q + 8 + H + L else q + 9 + H + L + L
section CPY
variable {Y : XY} {q : Nat} {N : XN} {pl : Nat → Nat} {H L R : Nat} {T : Nat → Nat} {ops : List Int32} {d : XD}
theorem plC_at {g : Nat} : (g = 0 → plC pl q H L g = q) ∧ (g = 1 → plC pl q H L g = pl 1) ∧ (2 ≤ g ∧ g < 8 → plC pl q H L g = q + 5 + g) ∧ (8 ≤ g ∧ g < 16 → plC pl q H L g = q + H + g) ∧ (16 ≤ g ∧ g < 24 → plC pl q H L g = q + H + L + (g - 7)) ∧ (24 ≤ g ∧ g < 84 → plC pl q H L g = q + H + L + L + (g - 14)) ∧ (g = 84 → plC pl q H L g = q + 6) ∧ (g = 85 → plC pl q H L g = q + 7 + H) ∧ (g = 86 → plC pl q H L g = q + 8 + H + L) ∧ (g = 87 → plC pl q H L g = q + 9 + H + L + L) := by
  unfold plC
  refine ⟨?_, ?_, ?_, ?_, ?_, ?_, ?_, ?_, ?_, ?_⟩ <;> (intro hg; (repeat' split) <;> first | omega | rfl)
def inC (q H L : Nat) (a : Nat) : Nat := if a = q then 0 else if a < q then 1 else if a = q + 6 then 84 else if a < q + 7 + H then a - (q + 5) else if a = q + 7 + H then 85 else if a < q + 8 + H + L then a - (q + H) else if a = q + 8 + H + L then 86 else if a < q + 9 + H + L + L then a - (q + H + L) + 7 else if a = q + 9 + H + L + L then 87 else a - (q + H + L + L) + 14
theorem inC_at (hb : H ≤ 6 ∧ L ≤ 8 ∧ R ≤ 60) (h1 : pl 1 < q) {g : Nat} (hg : us H L L R g) : inC q H L (plC pl q H L g) = g := by
  obtain ⟨a0, a1, a2, a3, a4, a5, a6, a7, a8, a9⟩ := plC_at (pl := pl) (q := q) (H := H) (L := L) (g := g)
  unfold us at hg
  rcases hg with hg | hg | hg | hg | hg | hg
  · rcases (by omega : g = 0 ∨ g = 1) with c | c
    · rw [a0 c]; unfold inC; (repeat' split) <;> omega
    · rw [a1 c]; unfold inC; (repeat' split) <;> omega
  · rw [a2 (by omega)]; unfold inC; (repeat' split) <;> omega
  · rw [a3 (by omega)]; unfold inC; (repeat' split) <;> omega
  · rw [a4 (by omega)]; unfold inC; (repeat' split) <;> omega
  · rw [a5 (by omega)]; unfold inC; (repeat' split) <;> omega
  · rcases (by omega : g = 84 ∨ g = 85 ∨ g = 86 ∨ g = 87) with c | c | c | c
    · rw [a6 c]; unfold inC; (repeat' split) <;> omega
    · rw [a7 c]; unfold inC; (repeat' split) <;> omega
    · rw [a8 c]; unfold inC; (repeat' split) <;> omega
    · rw [a9 c]; unfold inC; (repeat' split) <;> omega
theorem plC_PI (hb : H ≤ 6 ∧ L ≤ 8 ∧ R ≤ 60) (h1 : pl 1 < q) : PI (plC pl q H L) H L L R := by
  intro g g' hg hg' e
  rw [← inC_at hb h1 hg, ← inC_at hb h1 hg', e]
theorem K_dcopy (h : DK Y q N pl H L R T ops d) : ∃ Y' q' N' pl', f_X8_copy Y q (pl 0) N = some (q, Y', q', N') ∧ pl' 0 = q ∧ DK Y' q' N' pl' H L R T ops d ∧ q ≤ q' ∧ (∀ c, c < q → (kc Y' c = kc Y c ∧ kn Y' c = kn Y c) ∧ (∀ j, gr Y' c j = gr Y c j) ∧ ∀ j, gi N' c j = gi N c j) ∧ (∀ g, us H L L R g → g ≠ 1 → q ≤ pl' g) ∧ pl' 1 = pl 1 ∧ gr Y' q 7 = gr Y (pl 0) 7 ∧ (WT Y → WT Y') := by
  have hY := h.y
  have h6 := hY.H6
  have h60 := hY.R60
  have h8 := hY.L8
  have lt := fun g (hg : us H L L R g) => us_lt h.m hY hg
  have lt0 := lt 0 (by unfold us; omega)
  have lt1 := lt 1 (by unfold us; omega)
  -- the desk's own cells
  have m2 := h.m.nx (c := 18) (m := 0)
  obtain ⟨Y6, N8, i1, i2, i3, i4, i5, -, -, i8⟩ := K_init (N := n0 N q) m2 (kcq rfl)
  have le6 : q + 1 + 5 = q + 6 := by omega
  rw [le6] at i1 i2
  -- below q all is as it was
  have bl6 : ∀ c, c < q → (kc Y6 c = kc Y c ∧ kn Y6 c = kn Y c) ∧ (∀ j, gr Y6 c j = gr Y c j) ∧ ∀ j, gi N8 c j = gi N c j := fun c hc => by
    have a := i3 c (by omega)
    have b := yK_ne (Y := Y) (q := q) (c := 18) (m := 0) (b := c) (by omega) (by omega)
    exact ⟨⟨a.1.1.trans b.1, a.1.2.trans b.2⟩, fun j => (a.2.1 (by omega) j).trans (yK_gr (by omega) j), fun j => (a.2.2 j).trans (n0_ne (by omega) j)⟩
  have k6 : kc Y6 q = 18 := (i3 q (by omega)).1.1.trans (kcq rfl)
  have w0 : gi N (pl 0) 0 = d 0 := h.n.w0
  have w1 : gi N (pl 0) 1 = d 4 := h.n.w1
  have g2 : gr Y6 (pl 0) 2 = some (pl 1) := ((bl6 _ lt0).2.1 2).trans hY.g2
  obtain ⟨N12, eN12⟩ : ∃ N12, N12 = si (si N8 q 0 (d 0)) q 1 (d 4) := ⟨_, rfl⟩
  obtain ⟨Y13, eY13⟩ : ∃ Y13, Y13 = sr Y6 q 2 (some (pl 1)) := ⟨_, rfl⟩
  have m13 : MK Y13 (q + 6) := by rw [eY13]; exact i2
  have bl13 : ∀ c, c < q → (kc Y13 c = kc Y c ∧ kn Y13 c = kn Y c) ∧ (∀ j, gr Y13 c j = gr Y c j) ∧ ∀ j, gi N12 c j = gi N c j := fun c hc => by
    have a := bl6 c hc
    rw [eY13, eN12]
    exact ⟨a.1, fun j => (gr_sr_ne (by omega) j).trans (a.2.1 j), fun j => (gi_si_n (Or.inl (by omega))).trans ((gi_si_n (Or.inl (by omega))).trans (a.2.2 j))⟩
  have k13 : kc Y13 q = 18 := by rw [eY13]; exact k6
  have blK : ∀ {Y1 Y2 : XY} {N1 N2 : XN} {Q : Nat}, q ≤ Q → (∀ c, c < q → (kc Y1 c = kc Y c ∧ kn Y1 c = kn Y c) ∧ (∀ j, gr Y1 c j = gr Y c j) ∧ ∀ j, gi N1 c j = gi N c j) → KE q Y1 N1 Y2 N2 Q → ∀ c, c < q → (kc Y2 c = kc Y c ∧ kn Y2 c = kn Y c) ∧ (∀ j, gr Y2 c j = gr Y c j) ∧ ∀ j, gi N2 c j = gi N c j := fun hQ b k c hc => by
    have a := b c hc
    have e := k c (by omega)
    exact ⟨⟨e.1.1.trans a.1.1, e.1.2.trans a.1.2⟩, fun j => (e.2.1 (by omega) j).trans (a.2.1 j), fun j => (e.2.2 j).trans (a.2.2 j)⟩
  have src : ∀ {Y1 : XY} {N1 : XN} {Q : Nat}, q ≤ Q → (∀ c, c < q → (kc Y1 c = kc Y c ∧ kn Y1 c = kn Y c) ∧ (∀ j, gr Y1 c j = gr Y c j) ∧ ∀ j, gi N1 c j = gi N c j) → ∀ (G g0 n : Nat), us H L L R G → (∀ i, i < n → us H L L R (g0 + i) ∧ pg (g0 + i) = G ∧ og (g0 + i) = i ∧ kg (g0 + i) = 1 ∧ g0 + i ≠ 0 ∧ ng H L L R T (g0 + i) ≤ 8) → ∀ i, i < n → gr Y1 (pl G) i = some (pl (g0 + i)) ∧ kc Y1 (pl (g0 + i)) = 1 ∧ pl (g0 + i) < Q ∧ kn Y1 (pl (g0 + i)) ≤ 8 := fun hQ b G g0 n hG hg i hi => by
    obtain ⟨u1, u2, u3, u4, u5, u6⟩ := hg i hi
    obtain ⟨c1, c2⟩ := hY.2.2 _ u1
    obtain ⟨c3, c4⟩ := c2 u5
    have l1 := lt _ u1
    have l2 := lt _ hG
    rw [u2, u3] at c4
    exact ⟨((b _ l2).2.1 i).trans c4, (b _ l1).1.1.trans (c1.trans u4), by omega, by rw [(b _ l1).1.2, c3]; exact u6⟩
  have h3T := h.n.1.2.2.2.2
  -- the four arrays
  obtain ⟨Ya, Na, a1, a2, a3, a4, a5, a6, a7, a8⟩ := K_cstep (N := N12) (f := 3) (a := pl 84) (n := H) (r := fun i => pl (2 + i)) m13 (by have := lt 84 (by unfold us; omega); omega) ((bl13 _ (lt 84 (by unfold us; omega))).1.1.trans hY.k84) ((bl13 _ (lt 84 (by unfold us; omega))).1.2.trans hY.n84) (by omega) (src (by omega) bl13 84 2 H (by unfold us; omega) (fun i hi => ⟨by unfold us; omega, by unfold pg; (repeat' split) <;> omega, by unfold og; (repeat' split) <;> omega, by unfold kg; (repeat' split) <;> omega, by omega, by unfold ng; (repeat' split) <;> omega⟩)) (by omega) k13
  have bla := blK (by omega) bl13 a4
  have ka : kc (sr Ya q 3 (some (q + 6))) q = 18 := a2
  obtain ⟨Yb, Nb, b1, b2, b3, b4, b5, b6, b7, b8⟩ := K_cstep (N := Na) (f := 4) (a := pl 85) (n := L) (r := fun i => pl (8 + i)) a3 (by have := lt 85 (by unfold us; omega); omega) ((bla _ (lt 85 (by unfold us; omega))).1.1.trans hY.k85) ((bla _ (lt 85 (by unfold us; omega))).1.2.trans hY.n85) (by omega) (src (by omega) bla 85 8 L (by unfold us; omega) (fun i hi => ⟨by unfold us; omega, by unfold pg; (repeat' split) <;> omega, by unfold og; (repeat' split) <;> omega, by unfold kg; (repeat' split) <;> omega, by omega, by unfold ng; (repeat' split) <;> omega⟩)) (by omega) ka
  have blb := blK (by omega) bla b4
  have kb : kc (sr Yb q 4 (some (q + 6 + 1 + H))) q = 18 := b2
  obtain ⟨Yc, Nc, c1, c2, c3, c4, c5, c6, c7, c8⟩ := K_cstep (N := Nb) (f := 5) (a := pl 86) (n := L) (r := fun i => pl (16 + i)) b3 (by have := lt 86 (by unfold us; omega); omega) ((blb _ (lt 86 (by unfold us; omega))).1.1.trans hY.k86) ((blb _ (lt 86 (by unfold us; omega))).1.2.trans hY.n86) (by omega) (src (by omega) blb 86 16 L (by unfold us; omega) (fun i hi => ⟨by unfold us; omega, by unfold pg; (repeat' split) <;> omega, by unfold og; (repeat' split) <;> omega, by unfold kg; (repeat' split) <;> omega, by omega, by
    have := h3T i hi
    have e : ng H L L R T (16 + i) = T (16 + i - 16) := by
      unfold ng
      rw [if_neg (by omega), if_neg (by omega), if_neg (by omega), if_pos (by omega)]
    rw [e, show 16 + i - 16 = i by omega]
    omega⟩)) (by omega) kb
  have blc := blK (by omega) blb c4
  have kcc : kc (sr Yc q 5 (some (q + 6 + 1 + H + 1 + L))) q = 18 := c2
  obtain ⟨Yd, Nd, d1, d2, d3, d4, d5, d6, d7, d8⟩ := K_cstep (N := Nc) (f := 6) (a := pl 87) (n := R) (r := fun i => pl (24 + i)) c3 (by have := lt 87 (by unfold us; omega); omega) ((blc _ (lt 87 (by unfold us; omega))).1.1.trans hY.k87) ((blc _ (lt 87 (by unfold us; omega))).1.2.trans hY.n87) (by omega) (src (by omega) blc 87 24 R (by unfold us; omega) (fun i hi => ⟨by unfold us; omega, by unfold pg; (repeat' split) <;> omega, by unfold og; (repeat' split) <;> omega, by unfold kg; (repeat' split) <;> omega, by omega, by unfold ng; (repeat' split) <;> omega⟩)) (by omega) kcc
  have bld := blK (by omega) blc d4
  have kd : kc (sr Yd q 6 (some (q + 6 + 1 + H + 1 + L + 1 + L))) q = 18 := d2
  -- what stays
  have A1 := ((a7.keep b4 (by omega) (by omega)).keep c4 (by omega) (by omega)).keep d4 (by omega) (by omega)
  have A2 := (b7.keep c4 (by omega) (by omega)).keep d4 (by omega) (by omega)
  have A3 := c7.keep d4 (by omega) (by omega)
  have A4 := d7
  obtain ⟨Yf, eYf⟩ : ∃ Yf, Yf = sr (sr Yd q 6 (some (q + 6 + 1 + H + 1 + L + 1 + L))) q 7 (gr Y (pl 0) 7) := ⟨_, rfl⟩
  have fk : ∀ c, kc Yf c = kc (sr Yd q 6 (some (q + 6 + 1 + H + 1 + L + 1 + L))) c ∧ kn Yf c = kn (sr Yd q 6 (some (q + 6 + 1 + H + 1 + L + 1 + L))) c := fun c => by rw [eYf]; exact ⟨rfl, rfl⟩
  have fg : ∀ c j, c ≠ q → gr Yf c j = gr (sr Yd q 6 (some (q + 6 + 1 + H + 1 + L + 1 + L))) c j := fun c j hc => by rw [eYf]; exact gr_sr_ne hc j
  have fq : ∀ j, j ≠ 7 → gr Yf q j = gr (sr Yd q 6 (some (q + 6 + 1 + H + 1 + L + 1 + L))) q j := fun j hj => by rw [eYf]; exact gr_sr_nf hj
  have f7 : gr Yf q 7 = gr Y (pl 0) 7 := by rw [eYf]; exact gr_sr_s
  have blf : ∀ c, c < q → (kc Yf c = kc Y c ∧ kn Yf c = kn Y c) ∧ (∀ j, gr Yf c j = gr Y c j) ∧ ∀ j, gi Nd c j = gi N c j := fun c hc => by
    have a := bld c hc
    exact ⟨⟨(fk c).1.trans a.1.1, (fk c).2.trans a.1.2⟩, fun j => (fg c j (by omega)).trans (a.2.1 j), a.2.2⟩
  have q2 : gr Yf q 2 = some (pl 1) := by
    rw [fq 2 (by decide), d6 2 (by decide), c6 2 (by decide), b6 2 (by decide), a6 2 (by decide), eY13]
    exact gr_sr_s
  have q3 : gr Yf q 3 = some (q + 6) := by
    rw [fq 3 (by decide), d6 3 (by decide), c6 3 (by decide), b6 3 (by decide)]
    exact a5
  have q4 : gr Yf q 4 = some (q + 6 + 1 + H) := by
    rw [fq 4 (by decide), d6 4 (by decide), c6 4 (by decide)]
    exact b5
  have q5 : gr Yf q 5 = some (q + 6 + 1 + H + 1 + L) := by
    rw [fq 5 (by decide), d6 5 (by decide)]
    exact c5
  have q6 : gr Yf q 6 = some (q + 6 + 1 + H + 1 + L + 1 + L) := by
    rw [fq 6 (by decide)]
    exact d5
  have v12 : ∀ j, gi Nd q j = gi N12 q j := fun j => (((d4 q (by omega)).2.2 j).trans ((c4 q (by omega)).2.2 j)).trans (((b4 q (by omega)).2.2 j).trans ((a4 q (by omega)).2.2 j))
  have fin : f_X8_copy Y q (pl 0) N = some (q, Yf, q + 6 + 1 + H + 1 + L + 1 + L + 1 + R, Nd) := by
    have b0 : kc Y q = 9 ∧ kc Y (q + 1) = 0 := ⟨h.m.1, h.m.2 _ (Nat.lt_succ_self _)⟩
    have s0 := (bl6 _ lt0).1.1.trans hY.k0
    have s1 : gi N8 (pl 0) 0 = d 0 := ((bl6 _ lt0).2.2 0).trans w0
    have s2 : ∀ v, gi (si N8 q 0 v) (pl 0) 1 = d 4 := fun v => (gi_si_n (Or.inl (by omega))).trans (((bl6 _ lt0).2.2 1).trans w1)
    have s3 : gr Y13 (pl 0) 3 = some (pl 84) := ((bl13 _ lt0).2.1 3).trans hY.g3
    have s4 := (bla _ lt0).1.1.trans hY.k0
    have s5 := ((bla _ lt0).2.1 4).trans hY.g4
    have s6 := (blb _ lt0).1.1.trans hY.k0
    have s7 := ((blb _ lt0).2.1 5).trans hY.g5
    have s8 := (blc _ lt0).1.1.trans hY.k0
    have s9 := ((blc _ lt0).2.1 6).trans hY.g6
    have s10 := (bld _ lt0).1.1.trans hY.k0
    have s11 := (bld _ lt0).2.1 7
    unfold f_X8_copy
    rw [ck_t b0, lt_eq, lt_eq, bd3_of i1, ck_t s0, ck_t k6, lt_eq, s1, lt_eq, s2, lt_eq, g2, ← eN12, ← eY13, gp_of s3, ck_t s3, lt_eq, bd4_of a1, ck_t a2, lt_eq, ck_t s4, gp_of s5, ck_t s5, lt_eq, bd4_of b1, ck_t b2, lt_eq, ck_t s6, gp_of s7, ck_t s7, lt_eq, bd4_of c1, ck_t c2, lt_eq, ck_t s8, gp_of s9, ck_t s9, lt_eq, bd4_of d1, ck_t d2, lt_eq, ck_t s10, s11, lt_eq, ← eYf]
  have hpl := fun g => plC_at (pl := pl) (q := q) (H := H) (L := L) (g := g)
  refine ⟨Yf, _, Nd, plC pl q H L, fin, (hpl 0).1 rfl, ⟨?_, ⟨hY.1, plC_PI ⟨h6, h8, h60⟩ lt1, fun g hg => ?_⟩, ⟨h.n.1, fun g k hv => ?_⟩, h.s, h.j, h.h4, h.l3⟩, by omega, blf, fun g hg g1 => ?_, (hpl 1).2.1 rfl, f7, fun w => ?_⟩
  · rw [eYf]; exact d3
  · obtain ⟨e0, e1, e2, e3, e4, e5, e6, e7, e8, e9⟩ := hpl g
    have z0 := (hpl 0).1 rfl
    have z84 := (hpl 84).2.2.2.2.2.2.1 rfl
    have z85 := (hpl 85).2.2.2.2.2.2.2.1 rfl
    have z86 := (hpl 86).2.2.2.2.2.2.2.2.1 rfl
    have z87 := (hpl 87).2.2.2.2.2.2.2.2.2 rfl
    unfold us at hg
    rcases hg with hg | hg | hg | hg | hg | hg
    · rcases (by omega : g = 0 ∨ g = 1) with rfl | rfl
      · rw [e0 rfl]
        exact ⟨((fk q).1.trans kd).trans (by rfl), fun hn => absurd rfl hn⟩
      · rw [e1 rfl]
        have z := hY.2.2 1 (by unfold us; omega)
        refine ⟨(blf _ lt1).1.1.trans z.1, fun _ => ⟨(blf _ lt1).1.2.trans (z.2 (by decide)).1, ?_⟩⟩
        show gr Yf (plC pl q H L 0) 2 = some (pl 1)
        rw [z0]; exact q2
    · obtain ⟨i, rfl⟩ : ∃ i, g = 2 + i := ⟨g - 2, by omega⟩
      obtain ⟨x1, x2, x3⟩ := A1
      obtain ⟨y1, y2, y3, -⟩ := x3 i (by omega)
      have zp : pg (2 + i) = 84 := by unfold pg; (repeat' split) <;> omega
      have zo : og (2 + i) = i := by unfold og; (repeat' split) <;> omega
      have zk : kg (2 + i) = 1 := by unfold kg; (repeat' split) <;> omega
      have zn := ((hY.2.2 (2 + i) (by unfold us; omega)).2 (by omega)).1
      have l := lt (2 + i) (by unfold us; omega)
      rw [e2 (by omega), zp, zo, zk, z84, show q + 5 + (2 + i) = q + 6 + 1 + i by omega]
      exact ⟨(fk _).1.trans y2, fun _ => ⟨((fk _).2.trans y3).trans ((bl13 _ l).1.2.trans zn), (fg _ i (by omega)).trans y1⟩⟩
    · obtain ⟨i, rfl⟩ : ∃ i, g = 8 + i := ⟨g - 8, by omega⟩
      obtain ⟨x1, x2, x3⟩ := A2
      obtain ⟨y1, y2, y3, -⟩ := x3 i (by omega)
      have zp : pg (8 + i) = 85 := by unfold pg; (repeat' split) <;> omega
      have zo : og (8 + i) = i := by unfold og; (repeat' split) <;> omega
      have zk : kg (8 + i) = 1 := by unfold kg; (repeat' split) <;> omega
      have zn := ((hY.2.2 (8 + i) (by unfold us; omega)).2 (by omega)).1
      have l := lt (8 + i) (by unfold us; omega)
      rw [e3 (by omega), zp, zo, zk, z85, show q + H + (8 + i) = q + 6 + 1 + H + 1 + i by omega, show q + 7 + H = q + 6 + 1 + H by omega]
      exact ⟨(fk _).1.trans y2, fun _ => ⟨((fk _).2.trans y3).trans ((bla _ l).1.2.trans zn), (fg _ i (by omega)).trans y1⟩⟩
    · obtain ⟨i, rfl⟩ : ∃ i, g = 16 + i := ⟨g - 16, by omega⟩
      obtain ⟨x1, x2, x3⟩ := A3
      obtain ⟨y1, y2, y3, -⟩ := x3 i (by omega)
      have zp : pg (16 + i) = 86 := by unfold pg; (repeat' split) <;> omega
      have zo : og (16 + i) = i := by unfold og; (repeat' split) <;> omega
      have zk : kg (16 + i) = 1 := by unfold kg; (repeat' split) <;> omega
      have zn := ((hY.2.2 (16 + i) (by unfold us; omega)).2 (by omega)).1
      have l := lt (16 + i) (by unfold us; omega)
      rw [e4 (by omega), zp, zo, zk, z86, show q + H + L + (16 + i - 7) = q + 6 + 1 + H + 1 + L + 1 + i by omega, show q + 8 + H + L = q + 6 + 1 + H + 1 + L by omega]
      exact ⟨(fk _).1.trans y2, fun _ => ⟨((fk _).2.trans y3).trans ((blb _ l).1.2.trans zn), (fg _ i (by omega)).trans y1⟩⟩
    · obtain ⟨i, rfl⟩ : ∃ i, g = 24 + i := ⟨g - 24, by omega⟩
      obtain ⟨x1, x2, x3⟩ := A4
      obtain ⟨y1, y2, y3, -⟩ := x3 i (by omega)
      have zp : pg (24 + i) = 87 := by unfold pg; (repeat' split) <;> omega
      have zo : og (24 + i) = i := by unfold og; (repeat' split) <;> omega
      have zk : kg (24 + i) = 1 := by unfold kg; (repeat' split) <;> omega
      have zn := ((hY.2.2 (24 + i) (by unfold us; omega)).2 (by omega)).1
      have l := lt (24 + i) (by unfold us; omega)
      rw [e5 (by omega), zp, zo, zk, z87, show q + H + L + L + (24 + i - 14) = q + 6 + 1 + H + 1 + L + 1 + L + 1 + i by omega, show q + 9 + H + L + L = q + 6 + 1 + H + 1 + L + 1 + L by omega]
      exact ⟨(fk _).1.trans y2, fun _ => ⟨((fk _).2.trans y3).trans ((blc _ l).1.2.trans zn), (fg _ i (by omega)).trans y1⟩⟩
    · rcases (by omega : g = 84 ∨ g = 85 ∨ g = 86 ∨ g = 87) with rfl | rfl | rfl | rfl
      · rw [z84]
        refine ⟨(fk _).1.trans A1.1, fun _ => ⟨(fk _).2.trans A1.2.1, ?_⟩⟩
        show gr Yf (plC pl q H L 0) 3 = _
        rw [z0]; exact q3
      · rw [z85, show q + 7 + H = q + 6 + 1 + H by omega]
        refine ⟨(fk _).1.trans A2.1, fun _ => ⟨(fk _).2.trans A2.2.1, ?_⟩⟩
        show gr Yf (plC pl q H L 0) 4 = _
        rw [z0]; exact q4
      · rw [z86, show q + 8 + H + L = q + 6 + 1 + H + 1 + L by omega]
        refine ⟨(fk _).1.trans A3.1, fun _ => ⟨(fk _).2.trans A3.2.1, ?_⟩⟩
        show gr Yf (plC pl q H L 0) 5 = _
        rw [z0]; exact q5
      · rw [z87, show q + 9 + H + L + L = q + 6 + 1 + H + 1 + L + 1 + L by omega]
        refine ⟨(fk _).1.trans A4.1, fun _ => ⟨(fk _).2.trans A4.2.1, ?_⟩⟩
        show gr Yf (plC pl q H L 0) 6 = _
        rw [z0]; exact q6
  · have old : gi N (pl g) k = d (ixg g k) := h.n.2 g k hv
    have lg := lt g (vd_us hv)
    show gi Nd (plC pl q H L g) k = d (ixg g k)
    obtain ⟨e0, e1, e2, e3, e4, e5, e6, e7, e8, e9⟩ := hpl g
    have u := vd_us hv
    unfold us at u
    rcases u with u | u | u | u | u | u
    · rcases (by omega : g = 0 ∨ g = 1) with rfl | rfl
      · rw [e0 rfl, v12 k, eN12]
        have hk2 : k = 0 ∨ k = 1 := by unfold vd at hv; omega
        rcases hk2 with rfl | rfl
        · rw [gi_si_n (Or.inr (by decide)), gi_si]; rfl
        · rw [gi_si]; rfl
      · rw [e1 rfl, (blf _ lt1).2.2 k]; exact old
    · obtain ⟨i, rfl⟩ : ∃ i, g = 2 + i := ⟨g - 2, by omega⟩
      obtain ⟨-, -, -, y4⟩ := A1.2.2 i (by omega)
      rw [e2 (by omega), show q + 5 + (2 + i) = q + 6 + 1 + i by omega, y4 k, ← old]
      exact (bl13 _ lg).2.2 k
    · obtain ⟨i, rfl⟩ : ∃ i, g = 8 + i := ⟨g - 8, by omega⟩
      obtain ⟨-, -, -, y4⟩ := A2.2.2 i (by omega)
      rw [e3 (by omega), show q + H + (8 + i) = q + 6 + 1 + H + 1 + i by omega, y4 k, ← old]
      exact (bla _ lg).2.2 k
    · obtain ⟨i, rfl⟩ : ∃ i, g = 16 + i := ⟨g - 16, by omega⟩
      obtain ⟨-, -, -, y4⟩ := A3.2.2 i (by omega)
      rw [e4 (by omega), show q + H + L + (16 + i - 7) = q + 6 + 1 + H + 1 + L + 1 + i by omega, y4 k, ← old]
      exact (blb _ lg).2.2 k
    · obtain ⟨i, rfl⟩ : ∃ i, g = 24 + i := ⟨g - 24, by omega⟩
      obtain ⟨-, -, -, y4⟩ := A4.2.2 i (by omega)
      rw [e5 (by omega), show q + H + L + L + (24 + i - 14) = q + 6 + 1 + H + 1 + L + 1 + L + 1 + i by omega, y4 k, ← old]
      exact (blc _ lg).2.2 k
    · exfalso
      unfold vd at hv
      omega
  · obtain ⟨e0, e1, e2, e3, e4, e5, e6, e7, e8, e9⟩ := hpl g
    unfold us at hg
    rcases hg with hg | hg | hg | hg | hg | hg
    · rw [e0 (by omega)]; exact Nat.le_refl _
    · rw [e2 (by omega)]; omega
    · rw [e3 (by omega)]; omega
    · rw [e4 (by omega)]; omega
    · rw [e5 (by omega)]; omega
    · rcases (by omega : g = 84 ∨ g = 85 ∨ g = 86 ∨ g = 87) with c | c | c | c
      · rw [e6 c]; omega
      · rw [e7 c]; omega
      · rw [e8 c]; omega
      · rw [e9 c]; omega
  · rw [eYf]
    refine (d8 (c8 (b8 (a8 ?_)))).sr8 (Or.inr (by rw [kd]; omega))
    rw [eY13]
    exact (i8 (w.nx h.m (Or.inr (Or.inr (Or.inr (by omega)))))).sr8 (Or.inr (by rw [k6]; omega))
end CPY
