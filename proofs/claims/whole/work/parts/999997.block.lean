/-! THE START: what the constructors have laid -/
def sm (Y Y' : XY) (b : Nat) : Prop := kc Y' b = kc Y b ∧ kn Y' b = kn Y b ∧ ∀ j, gr Y' b j = gr Y b j
theorem sm.trans {Y Y' Y2 : XY} {b : Nat} (h : sm Y Y' b) (h' : sm Y' Y2 b) : sm Y Y2 b := ⟨h'.1.trans h.1, h'.2.1.trans h.2.1, fun j => (h'.2.2 j).trans (h.2.2 j)⟩
theorem sm.refl' {Y : XY} {b : Nat} : sm Y Y b := ⟨rfl, rfl, fun _ => rfl⟩
theorem sm_k {Y : XY} {q c n b : Nat} (h : b < q) : sm Y (yK Y q c n) b := ⟨kck h, knk h, fun _ => grk (by omega)⟩
theorem sm_s {Y : XY} {a f b : Nat} {v : Option Nat} (h : b ≠ a) : sm Y (sr Y a f v) b := ⟨kcs, kns, fun _ => grs h⟩
theorem sm_w {Y : XY} {w b : Nat} (h : b < w) : sm Y (yW Y w) b := ⟨kcW h, knW h, fun _ => grW h⟩
theorem gp_of {Y : XY} {a f x : Nat} (h : gr Y a f = some x) : gp Y a f = x := by
  unfold gp
  rw [show Y.1 a f = some x from h]
  rfl
theorem wtF_of {Y : XY} {a f K n x : Nat} (h : gr Y a f = some x) (h1 : kc Y x = K) (h2 : kn Y x = n) : wtF Y a f K n := by
  unfold wtF
  rw [gp_of h]
  exact ⟨h, h1, h2⟩
theorem wtO_of {Y : XY} {a f K x : Nat} (h : gr Y a f = some x) (h1 : kc Y x = K) : wtO Y a f K := by
  unfold wtO
  rw [gp_of h]
  exact ⟨h, h1⟩
def WTa (Y : XY) (a : Nat) : Prop :=
  (kc Y a = 10 → wtF Y a 0 1 700 ∧ wtF Y a 2 1 16) ∧ (kc Y a = 12 → wtF Y a 3 1 3) ∧ (kc Y a = 15 → wtF Y a 0 1 701 ∧ wtF Y a 1 1 701 ∧ wtF Y a 2 1 701) ∧ (kc Y a = 16 → wtF Y a 0 4 6 ∧ wtF Y a 2 5 8 ∧ wtF Y a 4 6 60 ∧ wtO Y a 13 10 ∧ wtF Y a 14 1 3) ∧ (kc Y a = 17 → wtF Y a 0 2 700 ∧ wtO Y a 3 15 ∧ wtO Y a 4 14 ∧ wtO Y a 5 16 ∧ wtO Y a 6 16 ∧ wtF Y a 7 7 8) ∧ (kc Y a = 18 → wtF Y a 1 1 700 ∧ wtF Y a 8 1 1784 ∧ wtF Y a 9 1 1784 ∧ wtF Y a 10 1 584 ∧ wtF Y a 11 1 584 ∧ wtF Y a 12 8 8 ∧ wtF Y a 17 3 1200 ∧ wtF Y a 18 1 3) ∧ (kc Y a = 4 → ∀ k, k < kn Y a → wtO Y a k 11) ∧ (kc Y a = 5 → ∀ k, k < kn Y a → wtO Y a k 12) ∧ (kc Y a = 6 → ∀ k, k < kn Y a → wtO Y a k 13) ∧ (kc Y a = 7 → ∀ k, k < kn Y a → wtO Y a k 16) ∧ (kc Y a = 8 → ∀ k, k < kn Y a → wtF Y a k 1 1784) ∧ kc Y a ≠ 9
theorem wta_t {Y : XY} {a K : Nat} (h : kc Y a = K) (d : K ≠ 10 ∧ K ≠ 12 ∧ K ≠ 15 ∧ K ≠ 16 ∧ K ≠ 17 ∧ K ≠ 18 ∧ K ≠ 4 ∧ K ≠ 5 ∧ K ≠ 6 ∧ K ≠ 7 ∧ K ≠ 8 ∧ K ≠ 9) : WTa Y a := by
  unfold WTa
  rw [h]
  obtain ⟨d0, d1, d2, d3, d4, d5, d6, d7, d8, d9, d10, d99⟩ := d
  exact ⟨fun q => absurd q d0, fun q => absurd q d1, fun q => absurd q d2, fun q => absurd q d3, fun q => absurd q d4, fun q => absurd q d5, fun q => absurd q d6, fun q => absurd q d7, fun q => absurd q d8, fun q => absurd q d9, fun q => absurd q d10, d99⟩
theorem wta_10 {Y : XY} {a : Nat} (h : kc Y a = 10) (f : wtF Y a 0 1 700 ∧ wtF Y a 2 1 16) : WTa Y a := by
  unfold WTa
  rw [h]
  exact ⟨fun _ => f, fun q => absurd q (by decide), fun q => absurd q (by decide), fun q => absurd q (by decide), fun q => absurd q (by decide), fun q => absurd q (by decide), fun q => absurd q (by decide), fun q => absurd q (by decide), fun q => absurd q (by decide), fun q => absurd q (by decide), fun q => absurd q (by decide), by decide⟩
theorem wta_12 {Y : XY} {a : Nat} (h : kc Y a = 12) (f : wtF Y a 3 1 3) : WTa Y a := by
  unfold WTa
  rw [h]
  exact ⟨fun q => absurd q (by decide), fun _ => f, fun q => absurd q (by decide), fun q => absurd q (by decide), fun q => absurd q (by decide), fun q => absurd q (by decide), fun q => absurd q (by decide), fun q => absurd q (by decide), fun q => absurd q (by decide), fun q => absurd q (by decide), fun q => absurd q (by decide), by decide⟩
theorem wta_15 {Y : XY} {a : Nat} (h : kc Y a = 15) (f : wtF Y a 0 1 701 ∧ wtF Y a 1 1 701 ∧ wtF Y a 2 1 701) : WTa Y a := by
  unfold WTa
  rw [h]
  exact ⟨fun q => absurd q (by decide), fun q => absurd q (by decide), fun _ => f, fun q => absurd q (by decide), fun q => absurd q (by decide), fun q => absurd q (by decide), fun q => absurd q (by decide), fun q => absurd q (by decide), fun q => absurd q (by decide), fun q => absurd q (by decide), fun q => absurd q (by decide), by decide⟩
theorem wta_16 {Y : XY} {a : Nat} (h : kc Y a = 16) (f : wtF Y a 0 4 6 ∧ wtF Y a 2 5 8 ∧ wtF Y a 4 6 60 ∧ wtO Y a 13 10 ∧ wtF Y a 14 1 3) : WTa Y a := by
  unfold WTa
  rw [h]
  exact ⟨fun q => absurd q (by decide), fun q => absurd q (by decide), fun q => absurd q (by decide), fun _ => f, fun q => absurd q (by decide), fun q => absurd q (by decide), fun q => absurd q (by decide), fun q => absurd q (by decide), fun q => absurd q (by decide), fun q => absurd q (by decide), fun q => absurd q (by decide), by decide⟩
theorem wta_17 {Y : XY} {a : Nat} (h : kc Y a = 17) (f : wtF Y a 0 2 700 ∧ wtO Y a 3 15 ∧ wtO Y a 4 14 ∧ wtO Y a 5 16 ∧ wtO Y a 6 16 ∧ wtF Y a 7 7 8) : WTa Y a := by
  unfold WTa
  rw [h]
  exact ⟨fun q => absurd q (by decide), fun q => absurd q (by decide), fun q => absurd q (by decide), fun q => absurd q (by decide), fun _ => f, fun q => absurd q (by decide), fun q => absurd q (by decide), fun q => absurd q (by decide), fun q => absurd q (by decide), fun q => absurd q (by decide), fun q => absurd q (by decide), by decide⟩
theorem wta_18 {Y : XY} {a : Nat} (h : kc Y a = 18) (f : wtF Y a 1 1 700 ∧ wtF Y a 8 1 1784 ∧ wtF Y a 9 1 1784 ∧ wtF Y a 10 1 584 ∧ wtF Y a 11 1 584 ∧ wtF Y a 12 8 8 ∧ wtF Y a 17 3 1200 ∧ wtF Y a 18 1 3) : WTa Y a := by
  unfold WTa
  rw [h]
  exact ⟨fun q => absurd q (by decide), fun q => absurd q (by decide), fun q => absurd q (by decide), fun q => absurd q (by decide), fun q => absurd q (by decide), fun _ => f, fun q => absurd q (by decide), fun q => absurd q (by decide), fun q => absurd q (by decide), fun q => absurd q (by decide), fun q => absurd q (by decide), by decide⟩
theorem wta_4 {Y : XY} {a : Nat} (h : kc Y a = 4) (f : ∀ k, k < kn Y a → wtO Y a k 11) : WTa Y a := by
  unfold WTa
  rw [h]
  exact ⟨fun q => absurd q (by decide), fun q => absurd q (by decide), fun q => absurd q (by decide), fun q => absurd q (by decide), fun q => absurd q (by decide), fun q => absurd q (by decide), fun _ => f, fun q => absurd q (by decide), fun q => absurd q (by decide), fun q => absurd q (by decide), fun q => absurd q (by decide), by decide⟩
theorem wta_5 {Y : XY} {a : Nat} (h : kc Y a = 5) (f : ∀ k, k < kn Y a → wtO Y a k 12) : WTa Y a := by
  unfold WTa
  rw [h]
  exact ⟨fun q => absurd q (by decide), fun q => absurd q (by decide), fun q => absurd q (by decide), fun q => absurd q (by decide), fun q => absurd q (by decide), fun q => absurd q (by decide), fun q => absurd q (by decide), fun _ => f, fun q => absurd q (by decide), fun q => absurd q (by decide), fun q => absurd q (by decide), by decide⟩
theorem wta_6 {Y : XY} {a : Nat} (h : kc Y a = 6) (f : ∀ k, k < kn Y a → wtO Y a k 13) : WTa Y a := by
  unfold WTa
  rw [h]
  exact ⟨fun q => absurd q (by decide), fun q => absurd q (by decide), fun q => absurd q (by decide), fun q => absurd q (by decide), fun q => absurd q (by decide), fun q => absurd q (by decide), fun q => absurd q (by decide), fun q => absurd q (by decide), fun _ => f, fun q => absurd q (by decide), fun q => absurd q (by decide), by decide⟩
theorem wta_7 {Y : XY} {a : Nat} (h : kc Y a = 7) (f : ∀ k, k < kn Y a → wtO Y a k 16) : WTa Y a := by
  unfold WTa
  rw [h]
  exact ⟨fun q => absurd q (by decide), fun q => absurd q (by decide), fun q => absurd q (by decide), fun q => absurd q (by decide), fun q => absurd q (by decide), fun q => absurd q (by decide), fun q => absurd q (by decide), fun q => absurd q (by decide), fun q => absurd q (by decide), fun _ => f, fun q => absurd q (by decide), by decide⟩
theorem wta_8 {Y : XY} {a : Nat} (h : kc Y a = 8) (f : ∀ k, k < kn Y a → wtF Y a k 1 1784) : WTa Y a := by
  unfold WTa
  rw [h]
  exact ⟨fun q => absurd q (by decide), fun q => absurd q (by decide), fun q => absurd q (by decide), fun q => absurd q (by decide), fun q => absurd q (by decide), fun q => absurd q (by decide), fun q => absurd q (by decide), fun q => absurd q (by decide), fun q => absurd q (by decide), fun q => absurd q (by decide), fun _ => f, by decide⟩
/-- a world's block of 90 cells -/
def BF (Y : XY) (w : Nat) : Prop := kc Y w = 16 ∧ (gr Y w 0 = some (w + 1) ∧ gr Y w 2 = some (w + 2) ∧ gr Y w 4 = some (w + 3) ∧ gr Y w 13 = some (w + 4) ∧ gr Y w 14 = some (w + 7)) ∧ (kc Y (w + 1) = 4 ∧ kn Y (w + 1) = 6) ∧ (kc Y (w + 2) = 5 ∧ kn Y (w + 2) = 8) ∧ (kc Y (w + 3) = 6 ∧ kn Y (w + 3) = 60) ∧ (kc Y (w + 4) = 10 ∧ gr Y (w + 4) 0 = some (w + 4 + 1) ∧ gr Y (w + 4) 2 = some (w + 4 + 2)) ∧ (kc Y (w + 4 + 1) = 1 ∧ kn Y (w + 4 + 1) = 700) ∧ (kc Y (w + 4 + 2) = 1 ∧ kn Y (w + 4 + 2) = 16) ∧ (kc Y (w + 7) = 1 ∧ kn Y (w + 7) = 3) ∧
  (∀ i, i < 6 → kc Y (w + 8 + i) = 11 ∧ gr Y (w + 1) i = some (w + 8 + i)) ∧ (∀ i, i < 8 → kc Y (w + 14 + 2 * i) = 12 ∧ gr Y (w + 2) i = some (w + 14 + 2 * i) ∧ gr Y (w + 14 + 2 * i) 3 = some (w + 14 + 2 * i + 1) ∧ kc Y (w + 14 + 2 * i + 1) = 1 ∧ kn Y (w + 14 + 2 * i + 1) = 3) ∧ ∀ i, i < 60 → kc Y (w + 30 + i) = 13 ∧ gr Y (w + 3) i = some (w + 30 + i)
theorem BF.same {Y Y' : XY} {w : Nat} (h : BF Y w) (hs : ∀ b, w ≤ b → b < w + 90 → sm Y Y' b) : BF Y' w := by
  obtain ⟨h1, ⟨h2, h3, h4, h5, h6⟩, ⟨h7, h8⟩, ⟨h9, h10⟩, ⟨h11, h12⟩, ⟨h13, h14, h15⟩, ⟨h16, h17⟩, ⟨h18, h19⟩, ⟨h20, h21⟩, h22, h23, h24⟩ := h
  refine ⟨(hs w (by omega) (by omega)).1.trans h1, ⟨((hs w (by omega) (by omega)).2.2 _).trans h2, ((hs w (by omega) (by omega)).2.2 _).trans h3, ((hs w (by omega) (by omega)).2.2 _).trans h4, ((hs w (by omega) (by omega)).2.2 _).trans h5, ((hs w (by omega) (by omega)).2.2 _).trans h6⟩,
    ⟨(hs _ (by omega) (by omega)).1.trans h7, (hs _ (by omega) (by omega)).2.1.trans h8⟩, ⟨(hs _ (by omega) (by omega)).1.trans h9, (hs _ (by omega) (by omega)).2.1.trans h10⟩, ⟨(hs _ (by omega) (by omega)).1.trans h11, (hs _ (by omega) (by omega)).2.1.trans h12⟩,
    ⟨(hs _ (by omega) (by omega)).1.trans h13, ((hs _ (by omega) (by omega)).2.2 _).trans h14, ((hs _ (by omega) (by omega)).2.2 _).trans h15⟩, ⟨(hs _ (by omega) (by omega)).1.trans h16, (hs _ (by omega) (by omega)).2.1.trans h17⟩, ⟨(hs _ (by omega) (by omega)).1.trans h18, (hs _ (by omega) (by omega)).2.1.trans h19⟩, ⟨(hs _ (by omega) (by omega)).1.trans h20, (hs _ (by omega) (by omega)).2.1.trans h21⟩,
    fun i hi => ⟨(hs _ (by omega) (by omega)).1.trans (h22 i hi).1, ((hs _ (by omega) (by omega)).2.2 _).trans (h22 i hi).2⟩,
    fun i hi => ⟨(hs _ (by omega) (by omega)).1.trans (h23 i hi).1, ((hs _ (by omega) (by omega)).2.2 _).trans (h23 i hi).2.1, ((hs _ (by omega) (by omega)).2.2 _).trans (h23 i hi).2.2.1, (hs _ (by omega) (by omega)).1.trans (h23 i hi).2.2.2.1, (hs _ (by omega) (by omega)).2.1.trans (h23 i hi).2.2.2.2⟩,
    fun i hi => ⟨(hs _ (by omega) (by omega)).1.trans (h24 i hi).1, ((hs _ (by omega) (by omega)).2.2 _).trans (h24 i hi).2⟩⟩
theorem BF.WY {Y : XY} {w : Nat} (h : BF Y w) : WY Y w := by
  obtain ⟨h1, ⟨h2, h3, h4, h5, h6⟩, ⟨h7, h8⟩, ⟨h9, h10⟩, ⟨h11, h12⟩, ⟨h13, h14, h15⟩, ⟨h16, h17⟩, ⟨h18, h19⟩, ⟨h20, h21⟩, h22, h23, h24⟩ := h
  refine ⟨⟨gp_of h2, gp_of h3, gp_of h4, gp_of h5, gp_of h6⟩, ⟨gp_of h14, gp_of h15⟩, fun i hi => ?_, fun i hi => ?_, fun i hi => ?_, fun i hi => ?_⟩
  · rw [gp_of (h22 i hi).2]; omega
  · rw [gp_of (h23 i hi).2.1]; omega
  · rw [← Nat.add_assoc, gp_of (h23 i hi).2.2.1]; omega
  · rw [gp_of (h24 i hi).2]; omega
theorem BF.wt {Y : XY} {w : Nat} (h : BF Y w) (b : Nat) (hb1 : w ≤ b) (hb2 : b < w + 90) : WTa Y b := by
  obtain ⟨h1, ⟨h2, h3, h4, h5, h6⟩, ⟨h7, h8⟩, ⟨h9, h10⟩, ⟨h11, h12⟩, ⟨h13, h14, h15⟩, ⟨h16, h17⟩, ⟨h18, h19⟩, ⟨h20, h21⟩, h22, h23, h24⟩ := h
  have small : ∀ {K : Nat}, kc Y b = K → (K = 1 ∨ K = 11 ∨ K = 13) → WTa Y b := fun {K} hk hK => wta_t hk (by omega)
  by_cases q1 : b < w + 8
  · rcases (show b = w ∨ b = w + 1 ∨ b = w + 2 ∨ b = w + 3 ∨ b = w + 4 ∨ b = w + 4 + 1 ∨ b = w + 4 + 2 ∨ b = w + 7 by omega) with e | e | e | e | e | e | e | e
    · subst e
      exact wta_16 h1 ⟨wtF_of h2 h7 h8, wtF_of h3 h9 h10, wtF_of h4 h11 h12, wtO_of h5 h13, wtF_of h6 h20 h21⟩
    · subst e
      exact wta_4 h7 (fun k hk => wtO_of (h22 k (by omega)).2 (h22 k (by omega)).1)
    · subst e
      exact wta_5 h9 (fun k hk => wtO_of (h23 k (by omega)).2.1 (h23 k (by omega)).1)
    · subst e
      exact wta_6 h11 (fun k hk => wtO_of (h24 k (by omega)).2 (h24 k (by omega)).1)
    · subst e
      exact wta_10 h13 ⟨wtF_of h14 h16 h17, wtF_of h15 h18 h19⟩
    · subst e; exact small h16 (by omega)
    · subst e; exact small h18 (by omega)
    · subst e; exact small h20 (by omega)
  · by_cases q2 : b < w + 14
    · obtain ⟨i, hi, e⟩ : ∃ i, i < 6 ∧ b = w + 8 + i := ⟨b - (w + 8), by omega, by omega⟩
      subst e
      exact small (h22 i hi).1 (by omega)
    · by_cases q3 : b < w + 30
      · obtain ⟨i, hi, e⟩ : ∃ i, i < 8 ∧ (b = w + 14 + 2 * i ∨ b = w + 14 + 2 * i + 1) := ⟨(b - (w + 14)) / 2, by omega, by omega⟩
        rcases e with e | e
        · subst e
          exact wta_12 (h23 i hi).1 (wtF_of (h23 i hi).2.2.1 (h23 i hi).2.2.2.1 (h23 i hi).2.2.2.2)
        · subst e
          exact small (h23 i hi).2.2.2.1 (by omega)
      · obtain ⟨i, hi, e⟩ : ∃ i, i < 60 ∧ b = w + 30 + i := ⟨b - (w + 30), by omega, by omega⟩
        subst e
        exact small (h24 i hi).1 (by omega)
theorem st1 {Y : XY} {w : Nat} : ∀ i, (∀ b, b < w + 8 → b ≠ w + 1 → sm Y (yW1 Y w i) b) ∧ (kc (yW1 Y w i) (w + 1) = kc Y (w + 1) ∧ kn (yW1 Y w i) (w + 1) = kn Y (w + 1)) ∧ ∀ j, j < i → kc (yW1 Y w i) (w + 8 + j) = 11 ∧ gr (yW1 Y w i) (w + 1) j = some (w + 8 + j)
  | 0 => ⟨fun _ _ _ => sm.refl', ⟨rfl, rfl⟩, fun j h => absurd h (Nat.not_lt_zero j)⟩
  | i + 1 => by
    obtain ⟨h1, ⟨h2, h3⟩, h4⟩ := st1 (Y := Y) (w := w) i
    unfold yW1
    refine ⟨fun b hb hb1 => (h1 b hb hb1).trans ((sm_k (by omega)).trans (sm_s hb1)), ⟨?_, ?_⟩, fun j hj => ?_⟩
    · rw [kcs, kck (by omega)]; exact h2
    · rw [kns, knk (by omega)]; exact h3
    · by_cases e : j = i
      · subst e
        exact ⟨by rw [kcs, kcq rfl], grq⟩
      · obtain ⟨a1, a2⟩ := h4 j (by omega)
        exact ⟨by rw [kcs, kck (by omega)]; exact a1, by rw [grn e, grk (by omega)]; exact a2⟩
theorem st2 {Y : XY} {w : Nat} : ∀ i, (∀ b, b < w + 14 → b ≠ w + 2 → sm Y (yW2 Y w i) b) ∧ (kc (yW2 Y w i) (w + 2) = kc Y (w + 2) ∧ kn (yW2 Y w i) (w + 2) = kn Y (w + 2)) ∧ ∀ j, j < i → kc (yW2 Y w i) (w + 14 + 2 * j) = 12 ∧ gr (yW2 Y w i) (w + 2) j = some (w + 14 + 2 * j) ∧ gr (yW2 Y w i) (w + 14 + 2 * j) 3 = some (w + 14 + 2 * j + 1) ∧ kc (yW2 Y w i) (w + 14 + 2 * j + 1) = 1 ∧ kn (yW2 Y w i) (w + 14 + 2 * j + 1) = 3
  | 0 => ⟨fun _ _ _ => sm.refl', ⟨rfl, rfl⟩, fun j h => absurd h (Nat.not_lt_zero j)⟩
  | i + 1 => by
    obtain ⟨h1, ⟨h2, h3⟩, h4⟩ := st2 (Y := Y) (w := w) i
    unfold yW2 yI_X2
    refine ⟨fun b hb hb1 => (h1 b hb hb1).trans ((sm_k (by omega)).trans ((sm_k (by omega)).trans ((sm_s (by omega)).trans (sm_s hb1)))), ⟨?_, ?_⟩, fun j hj => ?_⟩
    · rw [kcs, kcs, kck (by omega), kck (by omega)]; exact h2
    · rw [kns, kns, knk (by omega), knk (by omega)]; exact h3
    · by_cases e : j = i
      · subst e
        exact ⟨by rw [kcs, kcs, kck (by omega), kcq rfl], grq, by rw [grs (by omega), grq], by rw [kcs, kcs, kcq rfl], by rw [kns, kns, knq rfl]⟩
      · obtain ⟨a1, a2, a3, a4, a5⟩ := h4 j (by omega)
        refine ⟨?_, ?_, ?_, ?_, ?_⟩
        · rw [kcs, kcs, kck (by omega), kck (by omega)]; exact a1
        · rw [grn e, grs (by omega), grk (by omega), grk (by omega)]; exact a2
        · rw [grs (by omega), grs (by omega), grk (by omega), grk (by omega)]; exact a3
        · rw [kcs, kcs, kck (by omega), kck (by omega)]; exact a4
        · rw [kns, kns, knk (by omega), knk (by omega)]; exact a5
theorem st3 {Y : XY} {w : Nat} : ∀ i, (∀ b, b < w + 30 → b ≠ w + 3 → sm Y (yW3 Y w i) b) ∧ (kc (yW3 Y w i) (w + 3) = kc Y (w + 3) ∧ kn (yW3 Y w i) (w + 3) = kn Y (w + 3)) ∧ ∀ j, j < i → kc (yW3 Y w i) (w + 30 + j) = 13 ∧ gr (yW3 Y w i) (w + 3) j = some (w + 30 + j)
  | 0 => ⟨fun _ _ _ => sm.refl', ⟨rfl, rfl⟩, fun j h => absurd h (Nat.not_lt_zero j)⟩
  | i + 1 => by
    obtain ⟨h1, ⟨h2, h3⟩, h4⟩ := st3 (Y := Y) (w := w) i
    unfold yW3
    refine ⟨fun b hb hb1 => (h1 b hb hb1).trans ((sm_k (by omega)).trans (sm_s hb1)), ⟨?_, ?_⟩, fun j hj => ?_⟩
    · rw [kcs, kck (by omega)]; exact h2
    · rw [kns, knk (by omega)]; exact h3
    · by_cases e : j = i
      · subst e
        exact ⟨by rw [kcs, kcq rfl], grq⟩
      · obtain ⟨a1, a2⟩ := h4 j (by omega)
        exact ⟨by rw [kcs, kck (by omega)]; exact a1, by rw [grn e, grk (by omega)]; exact a2⟩
theorem st0 {Y : XY} {w : Nat} (k0 : kc Y w = 16) : kc (yW0 Y w) w = 16 ∧ (gr (yW0 Y w) w 0 = some (w + 1) ∧ gr (yW0 Y w) w 2 = some (w + 2) ∧ gr (yW0 Y w) w 4 = some (w + 3) ∧ gr (yW0 Y w) w 13 = some (w + 4) ∧ gr (yW0 Y w) w 14 = some (w + 7)) ∧ (kc (yW0 Y w) (w + 1) = 4 ∧ kn (yW0 Y w) (w + 1) = 6) ∧ (kc (yW0 Y w) (w + 2) = 5 ∧ kn (yW0 Y w) (w + 2) = 8) ∧ (kc (yW0 Y w) (w + 3) = 6 ∧ kn (yW0 Y w) (w + 3) = 60) ∧ (kc (yW0 Y w) (w + 4) = 10 ∧ gr (yW0 Y w) (w + 4) 0 = some (w + 4 + 1) ∧ gr (yW0 Y w) (w + 4) 2 = some (w + 4 + 2)) ∧ (kc (yW0 Y w) (w + 4 + 1) = 1 ∧ kn (yW0 Y w) (w + 4 + 1) = 700) ∧ (kc (yW0 Y w) (w + 4 + 2) = 1 ∧ kn (yW0 Y w) (w + 4 + 2) = 16) ∧ (kc (yW0 Y w) (w + 7) = 1 ∧ kn (yW0 Y w) (w + 7) = 3) := by
  unfold yW0 yI_X0
  refine ⟨?_, ⟨?_, ?_, ?_, ?_, ?_⟩, ⟨?_, ?_⟩, ⟨?_, ?_⟩, ⟨?_, ?_⟩, ⟨?_, ?_, ?_⟩, ⟨?_, ?_⟩, ⟨?_, ?_⟩, ⟨?_, ?_⟩⟩ <;> simp (disch := omega) only [kcs, kns, kck, knk, kcq, knq, kce, grk, grq, grn, grs, k0]
theorem BF.mk {Y : XY} {w : Nat} (k0 : kc Y w = 16) : BF (yW Y w) w := by
  obtain ⟨h1, ⟨h2, h3, h4, h5, h6⟩, ⟨h7, h8⟩, ⟨h9, h10⟩, ⟨h11, h12⟩, ⟨h13, h14, h15⟩, ⟨h16, h17⟩, ⟨h18, h19⟩, ⟨h20, h21⟩⟩ := st0 k0
  have e : yW Y w = yW3 (yW2 (yW1 (yW0 Y w) w 6) w 8) w 60 := rfl
  rw [e]
  obtain ⟨a1, ⟨a2, a3⟩, a4⟩ := st1 (Y := yW0 Y w) (w := w) 6
  obtain ⟨b1, ⟨b2, b3⟩, b4⟩ := st2 (Y := yW1 (yW0 Y w) w 6) (w := w) 8
  obtain ⟨c1, ⟨c2, c3⟩, c4⟩ := st3 (Y := yW2 (yW1 (yW0 Y w) w 6) w 8) (w := w) 60
  have A : ∀ b, b < w + 8 → b ≠ w + 1 → b ≠ w + 2 → b ≠ w + 3 → sm (yW0 Y w) (yW3 (yW2 (yW1 (yW0 Y w) w 6) w 8) w 60) b := fun b q1 q2 q3 q4 => (a1 b q1 q2).trans ((b1 b (by omega) q3).trans (c1 b (by omega) q4))
  have A0 := A w (by omega) (by omega) (by omega) (by omega)
  have A4 := A (w + 4) (by omega) (by omega) (by omega) (by omega)
  have A5 := A (w + 4 + 1) (by omega) (by omega) (by omega) (by omega)
  have A6 := A (w + 4 + 2) (by omega) (by omega) (by omega) (by omega)
  have A7 := A (w + 7) (by omega) (by omega) (by omega) (by omega)
  have B1 := (b1 (w + 1) (by omega) (by omega)).trans (c1 (w + 1) (by omega) (by omega))
  have B2 := c1 (w + 2) (by omega) (by omega)
  have B2' := a1 (w + 2) (by omega) (by omega)
  have B3 := (a1 (w + 3) (by omega) (by omega)).trans (b1 (w + 3) (by omega) (by omega))
  refine ⟨A0.1.trans h1, ⟨(A0.2.2 _).trans h2, (A0.2.2 _).trans h3, (A0.2.2 _).trans h4, (A0.2.2 _).trans h5, (A0.2.2 _).trans h6⟩, ⟨B1.1.trans (a2.trans h7), B1.2.1.trans (a3.trans h8)⟩, ⟨B2.1.trans (b2.trans (B2'.1.trans h9)), B2.2.1.trans (b3.trans (B2'.2.1.trans h10))⟩, ⟨c2.trans (B3.1.trans h11), c3.trans (B3.2.1.trans h12)⟩, ⟨A4.1.trans h13, (A4.2.2 _).trans h14, (A4.2.2 _).trans h15⟩, ⟨A5.1.trans h16, A5.2.1.trans h17⟩, ⟨A6.1.trans h18, A6.2.1.trans h19⟩, ⟨A7.1.trans h20, A7.2.1.trans h21⟩, fun i hi => ?_, fun i hi => ?_, fun i hi => c4 i hi⟩
  · have q := (b1 (w + 8 + i) (by omega) (by omega)).trans (c1 (w + 8 + i) (by omega) (by omega))
    exact ⟨q.1.trans (a4 i hi).1, (B1.2.2 _).trans (a4 i hi).2⟩
  · have q := c1 (w + 14 + 2 * i) (by omega) (by omega)
    have q2 := c1 (w + 14 + 2 * i + 1) (by omega) (by omega)
    obtain ⟨d1, d2, d3, d4, d5⟩ := b4 i hi
    exact ⟨q.1.trans d1, (B2.2.2 _).trans d2, (q.2.2 _).trans d3, q2.1.trans d4, q2.2.1.trans d5⟩
theorem stP {Y : XY} {B : Nat} : ∀ i, (∀ b, b < B + 188 → b ≠ B + 187 → sm Y (yP Y B i) b) ∧ (kc (yP Y B i) (B + 187) = kc Y (B + 187) ∧ kn (yP Y B i) (B + 187) = kn Y (B + 187)) ∧ ∀ j, j < i → gr (yP Y B i) (B + 187) j = some (B + 188 + 90 * j) ∧ BF (yP Y B i) (B + 188 + 90 * j)
  | 0 => ⟨fun _ _ _ => sm.refl', ⟨rfl, rfl⟩, fun j h => absurd h (Nat.not_lt_zero j)⟩
  | i + 1 => by
    obtain ⟨h1, ⟨h2, h3⟩, h4⟩ := stP (Y := Y) (B := B) i
    unfold yP
    refine ⟨fun b hb hb1 => (h1 b hb hb1).trans ((sm_k (by omega)).trans ((sm_w (by omega)).trans (sm_s hb1))), ⟨?_, ?_⟩, fun j hj => ?_⟩
    · rw [kcs, kcW (by omega), kck (by omega)]; exact h2
    · rw [kns, knW (by omega), knk (by omega)]; exact h3
    · by_cases e : j = i
      · subst e
        exact ⟨grq, (BF.mk (kcq rfl)).same (fun b q1 q2 => sm_s (by omega))⟩
      · obtain ⟨a1, a2⟩ := h4 j (by omega)
        exact ⟨by rw [grn e, grW (by omega), grk (by omega)]; exact a1, a2.same (fun b q1 q2 => (sm_k (by omega)).trans ((sm_w (by omega)).trans (sm_s (by omega))))⟩
/-- the object's own cells -/
def OB (Y : XY) (B : Nat) : Prop := kc Y B = 17 ∧ (gr Y B 0 = some (B + 1) ∧ gr Y B 3 = some (B + 2) ∧ gr Y B 4 = some (B + 6) ∧ gr Y B 5 = some (B + 7) ∧ gr Y B 6 = some (B + 97) ∧ gr Y B 7 = some (B + 187)) ∧ (kc Y (B + 1) = 2 ∧ kn Y (B + 1) = 700) ∧ (kc Y (B + 2) = 15 ∧ gr Y (B + 2) 0 = some (B + 2 + 1) ∧ gr Y (B + 2) 1 = some (B + 2 + 2) ∧ gr Y (B + 2) 2 = some (B + 2 + 3)) ∧ (kc Y (B + 2 + 1) = 1 ∧ kn Y (B + 2 + 1) = 701) ∧ (kc Y (B + 2 + 2) = 1 ∧ kn Y (B + 2 + 2) = 701) ∧ (kc Y (B + 2 + 3) = 1 ∧ kn Y (B + 2 + 3) = 701) ∧ kc Y (B + 6) = 14 ∧ (kc Y (B + 187) = 7 ∧ kn Y (B + 187) = 8)
theorem OB.same {Y Y' : XY} {B : Nat} (h : OB Y B) (hs : ∀ b, B ≤ b → b < B + 188 → b ≠ B + 187 → sm Y Y' b) (h7 : kc Y' (B + 187) = kc Y (B + 187) ∧ kn Y' (B + 187) = kn Y (B + 187)) : OB Y' B := by
  obtain ⟨a0, ⟨a1, a2, a3, a4, a5, a6⟩, ⟨b1, b2⟩, ⟨c1, c2, c3, c4⟩, ⟨d1, d2⟩, ⟨e1, e2⟩, ⟨f1, f2⟩, g1, i1, i2⟩ := h
  have s0 := hs B (by omega) (by omega) (by omega)
  have s1 := hs (B + 1) (by omega) (by omega) (by omega)
  have s2 := hs (B + 2) (by omega) (by omega) (by omega)
  have s3 := hs (B + 2 + 1) (by omega) (by omega) (by omega)
  have s4 := hs (B + 2 + 2) (by omega) (by omega) (by omega)
  have s5 := hs (B + 2 + 3) (by omega) (by omega) (by omega)
  have s6 := hs (B + 6) (by omega) (by omega) (by omega)
  exact ⟨s0.1.trans a0, ⟨(s0.2.2 _).trans a1, (s0.2.2 _).trans a2, (s0.2.2 _).trans a3, (s0.2.2 _).trans a4, (s0.2.2 _).trans a5, (s0.2.2 _).trans a6⟩, ⟨s1.1.trans b1, s1.2.1.trans b2⟩, ⟨s2.1.trans c1, (s2.2.2 _).trans c2, (s2.2.2 _).trans c3, (s2.2.2 _).trans c4⟩, ⟨s3.1.trans d1, s3.2.1.trans d2⟩, ⟨s4.1.trans e1, s4.2.1.trans e2⟩, ⟨s5.1.trans f1, s5.2.1.trans f2⟩, s6.1.trans g1, h7.1.trans i1, h7.2.trans i2⟩
theorem stL {Y : XY} {B : Nat} (k0 : kc Y B = 17) : OB (yL0 Y B) B ∧ BF (yL0 Y B) (B + 7) ∧ BF (yL0 Y B) (B + 97) := by
  refine ⟨?_, ?_, ?_⟩
  · unfold yL0
    refine ⟨?_, ⟨?_, ?_, ?_, ?_, ?_, ?_⟩, ⟨?_, ?_⟩, ⟨?_, ?_, ?_, ?_⟩, ⟨?_, ?_⟩, ⟨?_, ?_⟩, ⟨?_, ?_⟩, ?_, ⟨?_, ?_⟩⟩ <;> simp (disch := omega) only [yI_X4, yI_X5, kcs, kck, kcW, kns, knk, knW, kcq, knq, kce, grk, grq, grn, grs, grW, k0]
  · unfold yL0
    exact (BF.mk (kcq rfl)).same (fun b q1 q2 => (sm_s (by omega)).trans ((sm_k (by omega)).trans ((sm_w (by omega)).trans ((sm_s (by omega)).trans ((sm_k (by omega)).trans (sm_s (by omega)))))))
  · unfold yL0
    exact (BF.mk (kcq rfl)).same (fun b q1 q2 => (sm_s (by omega)).trans ((sm_k (by omega)).trans (sm_s (by omega))))
/-- the object with its ten worlds -/
def OC (Y : XY) (B : Nat) : Prop := OB Y B ∧ BF Y (B + 7) ∧ BF Y (B + 97) ∧ ∀ i, i < 8 → gr Y (B + 187) i = some (B + 188 + 90 * i) ∧ BF Y (B + 188 + 90 * i)
theorem OC.same {Y Y' : XY} {B : Nat} (h : OC Y B) (hs : ∀ b, B ≤ b → b < B + 908 → sm Y Y' b) : OC Y' B := by
  obtain ⟨h1, h2, h3, h4⟩ := h
  have s7 := hs (B + 187) (by omega) (by omega)
  exact ⟨h1.same (fun b q1 q2 _ => hs b q1 (by omega)) ⟨s7.1, s7.2.1⟩, h2.same (fun b q1 q2 => hs b (by omega) (by omega)), h3.same (fun b q1 q2 => hs b (by omega) (by omega)), fun i hi => ⟨(s7.2.2 _).trans (h4 i hi).1, (h4 i hi).2.same (fun b q1 q2 => hs b (by omega) (by omega))⟩⟩
theorem stO {Y : XY} {B : Nat} (k0 : kc Y B = 17) : OC (yL Y B) B := by
  obtain ⟨h1, h2, h3⟩ := stL k0
  obtain ⟨a1, a2, a3⟩ := stP (Y := yL0 Y B) (B := B) 8
  exact ⟨h1.same (fun b q1 q2 q3 => a1 b q2 q3) a2, h2.same (fun b q1 q2 => a1 b (by omega) (by omega)), h3.same (fun b q1 q2 => a1 b (by omega) (by omega)), fun i hi => a3 i hi⟩
/-- the model's cells -/
def OM (Y : XY) (m : Nat) : Prop := kc Y m = 18 ∧ (gr Y m 1 = some (m + 1) ∧ kc Y (m + 1) = 1 ∧ kn Y (m + 1) = 700) ∧ (gr Y m 8 = some (m + 2) ∧ kc Y (m + 2) = 1 ∧ kn Y (m + 2) = 1784) ∧ (gr Y m 9 = some (m + 3) ∧ kc Y (m + 3) = 1 ∧ kn Y (m + 3) = 1784) ∧ (gr Y m 10 = some (m + 4) ∧ kc Y (m + 4) = 1 ∧ kn Y (m + 4) = 584) ∧ (gr Y m 11 = some (m + 5) ∧ kc Y (m + 5) = 1 ∧ kn Y (m + 5) = 584) ∧ (gr Y m 12 = some (m + 6) ∧ kc Y (m + 6) = 8 ∧ kn Y (m + 6) = 8) ∧ (gr Y m 17 = some (m + 15) ∧ kc Y (m + 15) = 3 ∧ kn Y (m + 15) = 1200) ∧ (gr Y m 18 = some (m + 16) ∧ kc Y (m + 16) = 1 ∧ kn Y (m + 16) = 3) ∧ ∀ i, i < 8 → gr Y (m + 6) i = some (m + 7 + i) ∧ kc Y (m + 7 + i) = 1 ∧ kn Y (m + 7 + i) = 1784
theorem OM.same {Y Y' : XY} {m : Nat} (h : OM Y m) (hs : ∀ b, m ≤ b → b < m + 17 → sm Y Y' b) : OM Y' m := by
  obtain ⟨a0, ⟨a1, a2, a3⟩, ⟨b1, b2, b3⟩, ⟨c1, c2, c3⟩, ⟨d1, d2, d3⟩, ⟨e1, e2, e3⟩, ⟨f1, f2, f3⟩, ⟨g1, g2, g3⟩, ⟨i1, i2, i3⟩, j⟩ := h
  have s0 := hs m (by omega) (by omega)
  have t : ∀ {x k n : Nat}, m ≤ x → x < m + 17 → kc Y x = k → kn Y x = n → kc Y' x = k ∧ kn Y' x = n := fun {x k n} q1 q2 q3 q4 => ⟨(hs x q1 q2).1.trans q3, (hs x q1 q2).2.1.trans q4⟩
  exact ⟨s0.1.trans a0, ⟨(s0.2.2 _).trans a1, t (by omega) (by omega) a2 a3⟩, ⟨(s0.2.2 _).trans b1, t (by omega) (by omega) b2 b3⟩, ⟨(s0.2.2 _).trans c1, t (by omega) (by omega) c2 c3⟩, ⟨(s0.2.2 _).trans d1, t (by omega) (by omega) d2 d3⟩, ⟨(s0.2.2 _).trans e1, t (by omega) (by omega) e2 e3⟩, ⟨(s0.2.2 _).trans f1, t (by omega) (by omega) f2 f3⟩, ⟨(s0.2.2 _).trans g1, t (by omega) (by omega) g2 g3⟩, ⟨(s0.2.2 _).trans i1, t (by omega) (by omega) i2 i3⟩, fun i hi => ⟨((hs (m + 6) (by omega) (by omega)).2.2 _).trans (j i hi).1, t (by omega) (by omega) (j i hi).2.1 (j i hi).2.2⟩⟩
/-- all that stands as the law's loop begins -/
def yF (Y : XY) (B : Nat) : XY := yR (yK (yX8 (yK (yL (yK Y B 17 0) B) (B + 908) 18 0) (B + 908)) (B + 925) 3 1) B (B + 926)
theorem sm_r {Y : XY} {a b q : Nat} (h1 : a ≤ q) (h2 : q < b) : sm Y (yR Y a b) q := by
  refine ⟨?_, ?_, fun _ => rfl⟩
  · unfold kc yR
    simp only [if_pos (show a ≤ q ∧ q < b from ⟨h1, h2⟩)]
  · unfold kn yR
    simp only [if_pos (show a ≤ q ∧ q < b from ⟨h1, h2⟩)]
theorem stF {Y : XY} {B : Nat} : OC (yF Y B) B ∧ OM (yF Y B) (B + 908) ∧ kc (yF Y B) (B + 925) = 3 ∧ kn (yF Y B) (B + 925) = 1 ∧ ∀ a, ¬ (B ≤ a ∧ a < B + 926) → kc (yF Y B) a = 0 := by
  have hO : OC (yL (yK Y B 17 0) B) B := stO (kcq rfl)
  have k8 : kc (yK (yL (yK Y B 17 0) B) (B + 908) 18 0) (B + 908) = 18 := kcq rfl
  obtain ⟨m0, m1, m2, m3, m4, m5, m6, m7, m8, m9, m10, m11⟩ := yX8_at k8
  have hM : OM (yX8 (yK (yL (yK Y B 17 0) B) (B + 908) 18 0) (B + 908)) (B + 908) := ⟨m0, m1, m2, m3, m4, m5, m6, m7, m8, m9⟩
  unfold yF
  refine ⟨hO.same (fun b q1 q2 => (sm_k (by omega)).trans ((show sm _ _ b from m11 b (by omega)).trans ((sm_k (by omega)).trans (sm_r q1 (by omega))))), hM.same (fun b q1 q2 => (sm_k (by omega)).trans (sm_r (by omega) (by omega))), ?_, ?_, fun a ha => ?_⟩
  · exact (sm_r (by omega) (by omega)).1.trans (kcq rfl)
  · exact (sm_r (by omega) (by omega)).2.1.trans (knq rfl)
  · unfold kc yR
    simp only [if_neg ha]
theorem stW {Y : XY} {B : Nat} (h1 : OC Y B) (h2 : OM Y (B + 908)) (h3 : kc Y (B + 925) = 3) (h5 : ∀ a, ¬ (B ≤ a ∧ a < B + 926) → kc Y a = 0) : WT Y := by
  have key : ∀ a, WTa Y a := by
    intro a
    have tr : ∀ {K : Nat}, kc Y a = K → (K = 0 ∨ K = 1 ∨ K = 2 ∨ K = 3 ∨ K = 14) → WTa Y a := fun {K} hk hK => wta_t hk (by omega)
    by_cases o : B ≤ a ∧ a < B + 926
    · obtain ⟨⟨a0, ⟨a1, a2, a3, a4, a5, a6⟩, ⟨b1, b2⟩, ⟨c1, c2, c3, c4⟩, ⟨d1, d2⟩, ⟨e1, e2⟩, ⟨f1, f2⟩, g1, i1, i2⟩, w1, w2, w3⟩ := h1
      by_cases q1 : a < B + 7
      · rcases (show a = B ∨ a = B + 1 ∨ a = B + 2 ∨ a = B + 2 + 1 ∨ a = B + 2 + 2 ∨ a = B + 2 + 3 ∨ a = B + 6 by omega) with e | e | e | e | e | e | e
        · subst e
          exact wta_17 a0 ⟨wtF_of a1 b1 b2, wtO_of a2 c1, wtO_of a3 g1, wtO_of a4 w1.1, wtO_of a5 w2.1, wtF_of a6 i1 i2⟩
        · subst e; exact tr b1 (by omega)
        · subst e
          exact wta_15 c1 ⟨wtF_of c2 d1 d2, wtF_of c3 e1 e2, wtF_of c4 f1 f2⟩
        · subst e; exact tr d1 (by omega)
        · subst e; exact tr e1 (by omega)
        · subst e; exact tr f1 (by omega)
        · subst e; exact tr g1 (by omega)
      · by_cases q2 : a < B + 97
        · exact w1.wt a (by omega) (by omega)
        · by_cases q3 : a < B + 187
          · exact w2.wt a (by omega) (by omega)
          · by_cases q4 : a = B + 187
            · subst q4
              exact wta_7 i1 (fun k hk => wtO_of (w3 k (by omega)).1 (w3 k (by omega)).2.1)
            · by_cases q5 : a < B + 908
              · exact (w3 ((a - (B + 188)) / 90) (by omega)).2.wt a (by omega) (by omega)
              · obtain ⟨m0, ⟨m1, m2, m3⟩, ⟨n1, n2, n3⟩, ⟨p1, p2, p3⟩, ⟨r1, r2, r3⟩, ⟨s1, s2, s3⟩, ⟨t1, t2, t3⟩, ⟨u1, u2, u3⟩, ⟨v1, v2, v3⟩, x⟩ := h2
                by_cases q6 : a < B + 908 + 7
                · rcases (show a = B + 908 ∨ a = B + 908 + 1 ∨ a = B + 908 + 2 ∨ a = B + 908 + 3 ∨ a = B + 908 + 4 ∨ a = B + 908 + 5 ∨ a = B + 908 + 6 by omega) with e | e | e | e | e | e | e
                  · subst e
                    exact wta_18 m0 ⟨wtF_of m1 m2 m3, wtF_of n1 n2 n3, wtF_of p1 p2 p3, wtF_of r1 r2 r3, wtF_of s1 s2 s3, wtF_of t1 t2 t3, wtF_of u1 u2 u3, wtF_of v1 v2 v3⟩
                  · subst e; exact tr m2 (by omega)
                  · subst e; exact tr n2 (by omega)
                  · subst e; exact tr p2 (by omega)
                  · subst e; exact tr r2 (by omega)
                  · subst e; exact tr s2 (by omega)
                  · subst e
                    exact wta_8 t2 (fun k hk => wtF_of (x k (by omega)).1 (x k (by omega)).2.1 (x k (by omega)).2.2)
                · by_cases q7 : a < B + 908 + 15
                  · obtain ⟨i, hi, e⟩ : ∃ i, i < 8 ∧ a = B + 908 + 7 + i := ⟨a - (B + 908 + 7), by omega, by omega⟩
                    subst e
                    exact tr (x i hi).2.1 (by omega)
                  · rcases (show a = B + 908 + 15 ∨ a = B + 908 + 16 ∨ a = B + 925 by omega) with e | e | e
                    · subst e; exact tr u2 (by omega)
                    · subst e; exact tr v2 (by omega)
                    · subst e; exact tr h3 (by omega)
    · exact tr (h5 a o) (by omega)
  exact key
theorem stY {Y : XY} {B : Nat} (h1 : OC Y B) (h2 : OM Y (B + 908)) : YO Y B := by
  obtain ⟨⟨a0, ⟨a1, a2, a3, a4, a5, a6⟩, ⟨b1, b2⟩, ⟨c1, c2, c3, c4⟩, -⟩, w1, w2, w3⟩ := h1
  obtain ⟨m0, ⟨m1, m2, m3⟩, ⟨n1, n2, n3⟩, ⟨p1, p2, p3⟩, ⟨r1, r2, r3⟩, ⟨s1, s2, s3⟩, ⟨t1, t2, t3⟩, ⟨u1, u2, u3⟩, ⟨v1, v2, v3⟩, x⟩ := h2
  refine ⟨⟨gp_of a1, gp_of a2, gp_of a3, gp_of a4, gp_of a5, gp_of a6⟩, fun i hi => ?_, ⟨gp_of c2, gp_of c3, gp_of c4⟩, w1.WY, w2.WY, fun i hi => ?_, ⟨⟨gp_of m1, gp_of n1, gp_of p1, gp_of r1, gp_of s1, gp_of t1, gp_of u1, gp_of v1⟩, fun i hi => gp_of (x i hi).1, ⟨n3, p3, r3, s3⟩, fun i hi => (x i hi).2.2⟩, b2⟩
  · rw [gp_of (w3 i hi).1]; omega
  · rw [show B + (188 + 90 * i) = B + 188 + 90 * i by omega]
    exact (w3 i hi).2.WY
theorem stK {Y : XY} {B : Nat} : OK9 (yF Y B) B := by
  obtain ⟨h1, h2, h3, h4, h5⟩ := stF (Y := Y) (B := B)
  exact ⟨stW h1 h2 h3 h5, stY h1 h2, h1.1.1, h2.1, h3, h4, h1.1.2.2.2.2.2.2.2.1⟩
