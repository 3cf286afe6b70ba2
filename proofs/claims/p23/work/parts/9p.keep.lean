/-! WHAT THE LAW'S LOOP KEEPS -/
def NB (Y : XY) (B : Nat) : Prop := ∀ b, B ≤ b → b < B + 908 → kc Y b ≤ 17
def FR (Y0 : XY) (N0 : XN) (Y : XY) (N : XN) : Prop := ∀ a, 40 ≤ kc Y0 a → kc Y0 a ≤ 42 → (kc Y a = kc Y0 a ∧ kn Y a = kn Y0 a) ∧ (∀ j, gr Y a j = gr Y0 a j) ∧ ∀ j, gi N a j = gi N0 a j
/-- a desk set aside at a: it shows d' -/
def FZ (Y : XY) (N : XN) (B : Nat) (pl : Nat → Nat) (H L R : Nat) (ops : List Int32) (a : Nat) (d' : XD) : Prop := ∃ (pj : Nat → Nat) (Rj : Nat) (Tj : Nat → Nat), pj 0 = a ∧ DQ Y N pj H L Rj Tj ops d' ∧ Rj ≤ 44 ∧ ∀ g, us H L L Rj g → B + 908 ≤ pj g ∧ ¬ ow pl H L L R (pj g)
/-- the desk at pl shows d; its copies at a7 show what can be undone -/
def LE (Y0 : XY) (N0 : XN) (Y : XY) (N : XN) (B rnd a7 : Nat) (pl : Nat → Nat) (H L R : Nat) (T : Nat → Nat) (ops : List Int32) (d : XD) (m k : Nat) (hd : Nat → XD) : Prop :=
  (kc Y B = 17 ∧ YO Y B ∧ NB Y B ∧ WT Y) ∧ (kc Y rnd = 20 ∧ B + 908 ≤ rnd) ∧ (kc Y a7 = 43 ∧ kn Y a7 = 9 ∧ ∀ j b, gr Y a7 j = some b → kc Y b = 18) ∧ gi N B 1 = nI 0 ∧ (DQ Y N pl H L R T ops d ∧ BK d ∧ TM Y N (pl 0) ops) ∧ (∀ g, us H L L R g → B + 908 ≤ pl g) ∧ FR Y0 N0 Y N ∧ ∀ j, j < min m 8 → ∃ a, gr Y a7 j = some a ∧ FZ Y N B pl H L R ops a (hd (k - 1 - j))
section TR
variable {Y0 Y Y' : XY} {N0 N N' : XN} {B rnd a7 q q' : Nat} {pl pl' : Nat → Nat} {H L R R' : Nat} {T T' : Nat → Nat} {ops : List Int32} {d d' : XD} {m k : Nat} {hd : Nat → XD} {a : Nat}
theorem gp_gr {c j : Nat} (h : gr Y' c j = gr Y c j) : gp Y' c j = gp Y c j := by
  unfold gr at h
  unfold gp
  rw [h]
theorem WY.same {w : Nat} (h : WY Y w) (hg : ∀ c j, w ≤ c → c < w + 90 → gp Y' c j = gp Y c j) : WY Y' w := by
  obtain ⟨⟨a0, a1, a2, a3, a4⟩, ⟨b0, b1⟩, c, e, f, g⟩ := h
  exact ⟨⟨(hg _ _ (by omega) (by omega)).trans a0, (hg _ _ (by omega) (by omega)).trans a1, (hg _ _ (by omega) (by omega)).trans a2, (hg _ _ (by omega) (by omega)).trans a3, (hg _ _ (by omega) (by omega)).trans a4⟩, ⟨(hg _ _ (by omega) (by omega)).trans b0, (hg _ _ (by omega) (by omega)).trans b1⟩, fun i hi => (hg _ _ (by omega) (by omega)).trans (c i hi), fun i hi => (hg _ _ (by omega) (by omega)).trans (e i hi), fun i hi => (hg _ _ (by omega) (by omega)).trans (f i hi), fun i hi => (hg _ _ (by omega) (by omega)).trans (g i hi)⟩
theorem YO.same (h : YO Y B) (hg : ∀ c j, B ≤ c → c < B + 908 → gp Y' c j = gp Y c j) (hn : kn Y' (B + 1) = kn Y (B + 1)) : YO Y' B := by
  obtain ⟨⟨a0, a1, a2, a3, a4, a5⟩, b, ⟨c0, c1, c2⟩, e, f, g, i, j⟩ := h
  exact ⟨⟨(hg _ _ (by omega) (by omega)).trans a0, (hg _ _ (by omega) (by omega)).trans a1, (hg _ _ (by omega) (by omega)).trans a2, (hg _ _ (by omega) (by omega)).trans a3, (hg _ _ (by omega) (by omega)).trans a4, (hg _ _ (by omega) (by omega)).trans a5⟩, fun x hx => (hg _ _ (by omega) (by omega)).trans (b x hx), ⟨(hg _ _ (by omega) (by omega)).trans c0, (hg _ _ (by omega) (by omega)).trans c1, (hg _ _ (by omega) (by omega)).trans c2⟩, e.same (fun x y h1 h2 => hg x y (by omega) (by omega)), f.same (fun x y h1 h2 => hg x y (by omega) (by omega)), fun x hx => (g x hx).same (fun z y h1 h2 => hg z y (by omega) (by omega)), i, hn.trans j⟩
theorem bytes_k (hw : WT Y) (hB : kc Y B = 17) (hO : YO Y B) : kc Y (B + 1) = 2 ∧ kn Y (B + 1) = 700 := by
  obtain ⟨-, h2, h3⟩ := wt_X7_0 hw hB
  rw [hO.1.1] at h2 h3
  exact ⟨h2, h3⟩
theorem vk_of {K : Nat} (h : K = 18 ∨ K = 8 ∨ K = 1 ∨ K = 2 ∨ K = 17 ∨ K = 20 ∨ K = 43 ∨ K = 19 ∨ (40 ≤ K ∧ K ≤ 42)) : vk K := by
  unfold vk
  omega
theorem FZ.same (h : FZ Y N B pl H L R ops a d') (hk : ∀ c, vk (kc Y c) → kc Y' c = kc Y c ∧ kn Y' c = kn Y c) (hr : ∀ c j, c ≠ a7 → gr Y' c j = gr Y c j) (h7 : kc Y a7 = 43) (hn : ∀ c j, (c < B ∨ B + 908 ≤ c) → kc Y c ≠ 20 → gi N' c j = gi N c j) : FZ Y' N' B pl H L R ops a d' := by
  obtain ⟨pj, Rj, Tj, e, hq, h44, ho⟩ := h
  refine ⟨pj, Rj, Tj, e, hq.same (fun g hg => ?_), h44, ho⟩
  have kk := hq.kgs hg
  exact ⟨hk _ (vk_of (by omega)), fun j => hr _ j (fun e => by rw [e, h7] at kk; omega), fun j => hn _ j (Or.inr (ho g hg).1) (by omega)⟩
theorem FR.same (h : FR Y0 N0 Y N) (hB : NB Y B) (hk : ∀ c, vk (kc Y c) → kc Y' c = kc Y c ∧ kn Y' c = kn Y c) (hr : ∀ c j, c ≠ a7 → gr Y' c j = gr Y c j) (h7 : kc Y a7 = 43) (hn : ∀ c j, (c < B ∨ B + 908 ≤ c) → kc Y c ≠ 20 → gi N' c j = gi N c j) : FR Y0 N0 Y' N' := by
  intro c h1 h2
  obtain ⟨⟨k1, k2⟩, k3, k4⟩ := h c h1 h2
  obtain ⟨e1, e2⟩ := hk c (vk_of (by omega))
  have hb : c < B ∨ B + 908 ≤ c := by
    rcases Nat.lt_or_ge c B with z | z
    · exact Or.inl z
    · rcases Nat.lt_or_ge c (B + 908) with z2 | z2
      · have := hB c z z2; omega
      · exact Or.inr z2
  have ne : c ≠ a7 := fun e => by
    have : kc Y c = 43 := by rw [e]; exact h7
    omega
  exact ⟨⟨e1.trans k1, e2.trans k2⟩, fun j => (hr c j ne).trans (k3 j), fun j => (hn c j hb (by omega)).trans (k4 j)⟩
theorem TM.same {p : Nat} (h : TM Y N p ops) (hp : kc Y p = 18) (hB : NB Y B) (hk : ∀ c, vk (kc Y c) → kc Y' c = kc Y c ∧ kn Y' c = kn Y c) (hr : ∀ c j, c ≠ a7 → gr Y' c j = gr Y c j) (h7 : kc Y a7 = 43) (hn : ∀ c j, (c < B ∨ B + 908 ≤ c) → kc Y c ≠ 20 → gi N' c j = gi N c j) : TM Y' N' p ops := by
  have g7 : gr Y' p 7 = gr Y p 7 := hr p 7 (fun e => by rw [e, h7] at hp; omega)
  rcases h with ⟨h1, h2⟩ | ⟨x, tx, vl, h1, h2⟩
  · exact Or.inl ⟨g7.trans h1, h2⟩
  · refine Or.inr ⟨x, tx, vl, g7.trans h1, h2.keep 3 (fun c hc => ?_)⟩
    have hb : c < B ∨ B + 908 ≤ c := by
      rcases Nat.lt_or_ge c B with z | z
      · exact Or.inl z
      · rcases Nat.lt_or_ge c (B + 908) with z2 | z2
        · have := hB c z z2; omega
        · exact Or.inr z2
    exact ⟨(hk c (vk_of (by omega))).1.trans hc, fun j => hr c j (fun e => by rw [e] at hc; omega), fun j => hn c j hb (by omega)⟩
theorem LE.same (h : LE Y0 N0 Y N B rnd a7 pl H L R T ops d m k hd) (hk : ∀ c, vk (kc Y c) → kc Y' c = kc Y c ∧ kn Y' c = kn Y c) (hr : ∀ c j, gr Y' c j = gr Y c j) (hn : ∀ c j, (c < B ∨ B + 908 ≤ c) → kc Y c ≠ 20 → gi N' c j = gi N c j) (hw : WT Y → WT Y') (h1 : gi N' B 1 = gi N B 1) (hNB : ∀ b, kc Y' b = kc Y b ∨ kc Y' b ≤ 17) : LE Y0 N0 Y' N' B rnd a7 pl H L R T ops d m k hd := by
  obtain ⟨⟨c1, c2, c3, c4⟩, ⟨r1, r2⟩, ⟨s1, s2, s3⟩, t1, ⟨u1, u2, u3⟩, v, w, x⟩ := h
  refine ⟨⟨(hk _ (vk_of (by omega))).1.trans c1, c2.same (fun c j _ _ => gp_gr (hr c j)) (hk _ (vk_of (by have := (bytes_k c4 c1 c2).1; omega))).2, fun b h1 h2 => ?_, hw c4⟩, ⟨(hk _ (vk_of (by omega))).1.trans r1, r2⟩, ⟨(hk _ (vk_of (by omega))).1.trans s1, (hk _ (vk_of (by omega))).2.trans s2, fun j b hb => ?_⟩, h1.trans t1, ⟨u1.same (fun g hg => ?_), u2, u3.same u1.y.k0 c3 hk (fun c j _ => hr c j) s1 hn⟩, v, w.same c3 hk (fun c j _ => hr c j) s1 hn, fun j hj => ?_⟩
  · rcases hNB b with e | e
    · rw [e]; exact c3 b h1 h2
    · exact e
  · rw [hr] at hb
    have kb := s3 j b hb
    exact (hk _ (vk_of (by omega))).1.trans kb
  · have kk := u1.kgs hg
    exact ⟨hk _ (vk_of (by omega)), fun j => hr _ j, fun j => hn _ j (Or.inr (v g hg)) (by omega)⟩
  · obtain ⟨y, y1, y2⟩ := x j hj
    exact ⟨y, (hr _ _).trans y1, y2.same hk (fun c j _ => hr c j) s1 hn⟩
theorem LE.yM (h : LE Y0 N0 Y N B rnd a7 pl H L R T ops d m k hd) (g : ∀ a, vk (kc Y a) → a < q) : LE Y0 N0 (yM Y q) N B rnd a7 pl H L R T ops d m k hd := by
  refine h.same (fun c hc => yM_in g hc) (fun _ _ => rfl) (fun _ _ _ _ => rfl) (fun w => w.yMw g) rfl (fun b => ?_)
  by_cases e : b = q
  · rw [e, kc_yMq]; exact Or.inr (by omega)
  · rcases kc_yMv (Y := Y) e with z | z
    · exact Or.inr (by omega)
    · exact Or.inl z.1
theorem LE.y9 (h : LE Y0 N0 Y N B rnd a7 pl H L R T ops d m k hd) : LE Y0 N0 (y9 Y) N B rnd a7 pl H L R T ops d m k hd := by
  refine h.same (fun c hc => y9_in (vk_9 hc)) (fun _ _ => rfl) (fun _ _ _ _ => rfl) (fun w => w.y9w) rfl (fun b => ?_)
  by_cases e : kc Y b = 9
  · have e' : (Y.2 b).1 = 9 := e
    refine Or.inr ?_
    show (if (Y.2 b).1 = 9 then ((0, 0) : Nat × Nat) else Y.2 b).1 ≤ 17
    rw [if_pos e']
    omega
  · exact Or.inl (y9_in e).1
theorem LE.fb (h : LE Y0 N0 Y N B rnd a7 pl H L R T ops d m k hd) (hf : FB B N N') (h1 : gi N' B 1 = gi N B 1) : LE Y0 N0 Y N' B rnd a7 pl H L R T ops d m k hd :=
  h.same (fun _ _ => ⟨rfl, rfl⟩) (fun _ _ => rfl) (fun c j hc _ => by unfold gi; rw [hf c hc]) (fun w => w) h1 (fun _ => Or.inl rfl)
theorem LE.rn (h : LE Y0 N0 Y N B rnd a7 pl H L R T ops d m k hd) {w : Int32} : LE Y0 N0 Y (si N rnd 0 w) B rnd a7 pl H L R T ops d m k hd := by
  have r := h.2.1
  exact h.same (fun _ _ => ⟨rfl, rfl⟩) (fun _ _ => rfl) (fun c j hc h20 => gi_si_n (Or.inl (fun e => h20 (e ▸ r.1)))) (fun w => w) (gi_si_n (Or.inl (by omega))) (fun _ => Or.inl rfl)
theorem FZ.fb (h : FZ Y N B pl H L R ops a d') (hf : FB B N N') : FZ Y N' B pl H L R ops a d' := by
  obtain ⟨pj, Rj, Tj, e, hq, h44, ho⟩ := h
  exact ⟨pj, Rj, Tj, e, hq.same (fun g hg => ⟨⟨rfl, rfl⟩, fun _ => rfl, fun j => by unfold gi; rw [hf _ (Or.inr (ho g hg).1)]⟩), h44, ho⟩
theorem FZ.rn (h : FZ Y N B pl H L R ops a d') {w : Int32} (hr : kc Y rnd = 20) : FZ Y (si N rnd 0 w) B pl H L R ops a d' := by
  obtain ⟨pj, Rj, Tj, e, hq, h44, ho⟩ := h
  exact ⟨pj, Rj, Tj, e, hq.same (fun g hg => ⟨⟨rfl, rfl⟩, fun _ => rfl, fun j => gi_si_n (Or.inl (fun e => by have := hq.kgs hg; rw [e, hr] at this; omega))⟩), h44, ho⟩
theorem FZ.y9 (h : FZ Y N B pl H L R ops a d') : FZ (y9 Y) N B pl H L R ops a d' := by
  obtain ⟨pj, Rj, Tj, e, hq, h44, ho⟩ := h
  exact ⟨pj, Rj, Tj, e, hq.same (fun g hg => ⟨y9_in (by have := hq.kgs hg; omega), fun _ => rfl, fun j => rfl⟩), h44, ho⟩
theorem IK.rn {p : Nat} (h : IK B N ops d k p hd) {w : Int32} (hr : B + 908 ≤ rnd) : IK B (si N rnd 0 w) ops d k p hd := h.same (fun a h1 h2 => si_row (by omega))
/-- the main desk moves -/
theorem FZ.go (h : FZ Y N B pl H L R ops a d') (hm : MK Y q) (hg : GO Y q N pl H L R Y' q' N' pl' R') : FZ Y' N' B pl' H L R' ops a d' := by
  obtain ⟨pj, Rj, Tj, e, hq, h44, ho⟩ := h
  have lo : ∀ g, us H L L Rj g → pj g < q := fun g hg2 => by
    have kk := hq.kgs hg2
    exact hm.inn (by omega) (by omega)
  refine ⟨pj, Rj, Tj, e, hq.same (fun g hg2 => hg.2.2 _ ⟨lo g hg2, (ho g hg2).2⟩), h44, fun g hg2 => ⟨(ho g hg2).1, fun z => ?_⟩⟩
  rcases hg.2.1 _ z with z2 | z2
  · exact (ho g hg2).2 z2
  · have := lo g hg2; omega
theorem LE.go (h : LE Y0 N0 Y N B rnd a7 pl H L R T ops d m k hd) (hm : MK Y q) (hg : GO Y q N pl H L R Y' q' N' pl' R') (hq : DQ Y' N' pl' H L R' T' ops d') (hb : BK d') : LE Y0 N0 Y' N' B rnd a7 pl' H L R' T' ops d' m k hd := by
  obtain ⟨⟨c1, c2, c3, c4⟩, ⟨r1, r2⟩, ⟨s1, s2, s3⟩, t1, ⟨u1, u2, u3⟩, v, w, x⟩ := h
  have lr := hm.inn (a := rnd) (by omega) (by omega)
  have nb : ∀ c, c < B + 908 → ¬ ow pl H L L R c := fun c hc z => by
    obtain ⟨g, g1, -, g3⟩ := z
    have := v g g1
    omega
  have nk : ∀ c, kc Y c ≠ 18 → kc Y c ≠ 8 → kc Y c ≠ 1 → ¬ ow pl H L L R c := fun c k1 k2 k3 z => by
    rcases ow_kind u1.y z with e | e | e <;> omega
  have fr : ∀ c, B ≤ c → c < B + 908 → _ := fun c h1 h2 => hg.2.2 c ⟨by omega, nb c h2⟩
  have f7 := hg.2.2 a7 ⟨hm.inn (by omega) (by omega), nk a7 (by omega) (by omega) (by omega)⟩
  have fn := hg.2.2 rnd ⟨lr, nk rnd (by omega) (by omega) (by omega)⟩
  refine ⟨⟨(fr B (by omega) (by omega)).1.1.trans c1, c2.same (fun c j h1 h2 => gp_gr ((fr c h1 h2).2.1 j)) (fr (B + 1) (by omega) (by omega)).1.2, fun b h1 h2 => by rw [(fr b h1 h2).1.1]; exact c3 b h1 h2, hg.wt c4⟩, ⟨fn.1.1.trans r1, r2⟩, ⟨f7.1.1.trans s1, f7.1.2.trans s2, fun j b hb => ?_⟩, ((fr B (by omega) (by omega)).2.2 1).trans t1, ⟨hq, hb, u3.go hm u1.y hg⟩, fun g hg2 => ?_, fun c h1 h2 => ?_, fun j hj => ?_⟩
  · rw [f7.2.1 j] at hb
    have kb := s3 j b hb
    by_cases e : ow pl H L L R b
    · obtain ⟨g, g1, -, g3⟩ := e
      have kg1 := (u1.y.2.2 g g1).1
      rw [g3, kb] at kg1
      have g0 : g = 0 := by
        unfold kg at kg1
        (repeat' split at kg1) <;> omega
      rw [← g3, g0, ← hg.p0]
      exact hq.y.k0
    · exact (hg.2.2 b ⟨hm.inn (by omega) (by omega), e⟩).1.1.trans kb
  · rcases hg.1.2.2.2.2.2 _ ⟨g, hg2, rfl⟩ with ⟨g0, z1, z2⟩ | z
    · rw [← z2]; exact v g0 z1
    · omega
  · obtain ⟨⟨k1, k2⟩, k3, k4⟩ := w c h1 h2
    have f := hg.2.2 c ⟨hm.inn (by omega) (by omega), nk c (by omega) (by omega) (by omega)⟩
    exact ⟨⟨f.1.1.trans k1, f.1.2.trans k2⟩, fun j => (f.2.1 j).trans (k3 j), fun j => (f.2.2 j).trans (k4 j)⟩
  · obtain ⟨y, y1, y2⟩ := x j hj
    exact ⟨y, (f7.2.1 j).trans y1, y2.go hm hg⟩
/-- the copies move up a place, one more in front -/
theorem LE.arr (h : LE Y0 N0 Y N B rnd a7 pl H L R T ops d m k hd) {a10 : Nat} {d0 : XD} {Y5 : XY} (hz : FZ Y N B pl H L R ops a10 d0) (e2 : Y5.2 = Y.2) (eg : ∀ c j, c ≠ a7 → gr Y5 c j = gr Y c j) (e7 : ∀ j, gr Y5 a7 j = if j = 0 then some a10 else if j ≤ 8 then gr Y a7 (j - 1) else gr Y a7 j) (hk : k = min (m + 1) 8) : LE Y0 N0 Y5 N B rnd a7 pl H L R T ops d (m + 1) (min (k + 1) 8) (nhd k hd d0) := by
  obtain ⟨⟨c1, c2, c3, c4⟩, ⟨r1, r2⟩, ⟨s1, s2, s3⟩, t1, ⟨u1, u2, u3⟩, v, w, x⟩ := h
  have hkc := kc_2 e2
  have hkn := kn_2 e2
  have hk2 : ∀ c, vk (kc Y c) → kc Y5 c = kc Y c ∧ kn Y5 c = kn Y c := fun c _ => ⟨hkc c, hkn c⟩
  have a10k : kc Y a10 = 18 := by
    obtain ⟨pj, Rj, Tj, e, hq, -, -⟩ := hz
    rw [← e]; exact hq.y.k0
  refine ⟨⟨(hkc _).trans c1, c2.same (fun c j h1 h2 => gp_gr (eg c j (fun e => by have := c3 c h1 h2; rw [e, s1] at this; omega))) (hkn _), fun b h1 h2 => by rw [hkc]; exact c3 b h1 h2, ?_⟩, ⟨(hkc _).trans r1, r2⟩, ⟨(hkc _).trans s1, (hkn _).trans s2, fun j b hb => ?_⟩, t1, ⟨u1.same (fun g hg => ⟨⟨hkc _, hkn _⟩, fun j => eg _ j (fun e => by have := u1.kgs hg; rw [e, s1] at this; omega), fun _ => rfl⟩), u2, u3.same u1.y.k0 c3 hk2 eg s1 (fun _ _ _ _ => rfl)⟩, v, w.same c3 hk2 eg s1 (fun _ _ _ _ => rfl), fun j hj => ?_⟩
  · refine c4.keep (fun c hc => ⟨(hkc c).symm, (hkn c).symm, fun j => eg c j (fun e => ?_)⟩) (fun b _ => ⟨hkc b, hkn b⟩)
    rw [e, hkc, s1] at hc
    omega
  · rw [hkc]
    rw [e7] at hb
    by_cases j0 : j = 0
    · rw [if_pos j0] at hb
      cases hb
      exact a10k
    · rw [if_neg j0] at hb
      by_cases j8 : j ≤ 8
      · rw [if_pos j8] at hb; exact s3 _ b hb
      · rw [if_neg j8] at hb; exact s3 _ b hb
  · by_cases j0 : j = 0
    · refine ⟨a10, by rw [e7, if_pos j0], ?_⟩
      have en : nhd k hd d0 (min (k + 1) 8 - 1 - j) = d0 := by
        unfold nhd
        by_cases k8 : k = 8
        · rw [if_pos k8, if_neg (by omega)]
        · rw [if_neg k8, if_pos (by omega)]
      rw [en]
      exact hz.same hk2 eg s1 (fun _ _ _ _ => rfl)
    · obtain ⟨y, y1, y2⟩ := x (j - 1) (by omega)
      refine ⟨y, by rw [e7, if_neg j0, if_pos (by omega)]; exact y1, ?_⟩
      have en : nhd k hd d0 (min (k + 1) 8 - 1 - j) = hd (k - 1 - (j - 1)) := by
        unfold nhd
        by_cases k8 : k = 8
        · rw [if_pos k8, if_pos (by omega)]
          congr 1
          omega
        · rw [if_neg k8, if_neg (by omega)]
          congr 1
          omega
      rw [en]
      exact y2.same hk2 eg s1 (fun _ _ _ _ => rfl)
end TR
