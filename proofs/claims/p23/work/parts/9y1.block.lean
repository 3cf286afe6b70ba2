/-! THE START: what the constructor has laid -/
def sm (Y Y' : XY) (b : Nat) : Prop := kc Y' b = kc Y b ∧ kn Y' b = kn Y b ∧ ∀ j, gr Y' b j = gr Y b j
theorem sm.trans {Y Y' Y2 : XY} {b : Nat} (h : sm Y Y' b) (h' : sm Y' Y2 b) : sm Y Y2 b := ⟨h'.1.trans h.1, h'.2.1.trans h.2.1, fun j => (h'.2.2 j).trans (h.2.2 j)⟩
theorem sm.refl' {Y : XY} {b : Nat} : sm Y Y b := ⟨rfl, rfl, fun _ => rfl⟩
theorem sm_k {Y : XY} {q c n b : Nat} (h : b < q) : sm Y (yK Y q c n) b := ⟨kck h, knk h, fun _ => grk (by omega)⟩
theorem sm_s {Y : XY} {a f b : Nat} {v : Option Nat} (h : b ≠ a) : sm Y (sr Y a f v) b := ⟨kcs, kns, fun _ => grs h⟩
theorem sm_w {Y : XY} {w b : Nat} (h : b < w) : sm Y (yW Y w) b := ⟨kcW h, knW h, fun _ => grW h⟩
theorem wtF_of {Y : XY} {a f K n x : Nat} (h : gr Y a f = some x) (h1 : kc Y x = K) (h2 : kn Y x = n) : wtF Y a f K n := by
  unfold wtF
  rw [gp_of h]
  exact ⟨h, h1, h2⟩
theorem wtO_of {Y : XY} {a f K x : Nat} (h : gr Y a f = some x) (h1 : kc Y x = K) : wtO Y a f K := by
  unfold wtO
  rw [gp_of h]
  exact ⟨h, h1⟩
def WTa (Y : XY) (a : Nat) : Prop :=
  (kc Y a = 10 → wtF Y a 0 1 700 ∧ wtF Y a 2 1 16) ∧ (kc Y a = 12 → wtF Y a 3 1 3) ∧ (kc Y a = 15 → wtF Y a 0 1 701 ∧ wtF Y a 1 1 701 ∧ wtF Y a 2 1 701) ∧ (kc Y a = 16 → wtF Y a 0 4 6 ∧ wtF Y a 2 5 8 ∧ wtF Y a 4 6 60 ∧ wtO Y a 13 10 ∧ wtF Y a 14 1 3) ∧ (kc Y a = 17 → wtF Y a 0 2 700 ∧ wtO Y a 3 15 ∧ wtO Y a 4 14 ∧ wtO Y a 5 16 ∧ wtO Y a 6 16 ∧ wtF Y a 7 7 8) ∧ (kc Y a = 4 → ∀ k, k < kn Y a → wtO Y a k 11) ∧ (kc Y a = 5 → ∀ k, k < kn Y a → wtO Y a k 12) ∧ (kc Y a = 6 → ∀ k, k < kn Y a → wtO Y a k 13) ∧ (kc Y a = 7 → ∀ k, k < kn Y a → wtO Y a k 16) ∧ (kc Y a = 17 ∨ kc Y a < 17)
theorem wta_t {Y : XY} {a K : Nat} (h : kc Y a = K) (d : K ≠ 10 ∧ K ≠ 12 ∧ K ≠ 15 ∧ K ≠ 16 ∧ K ≠ 17 ∧ K ≠ 4 ∧ K ≠ 5 ∧ K ≠ 6 ∧ K ≠ 7 ∧ (K = 17 ∨ K < 17)) : WTa Y a := by
  unfold WTa
  rw [h]
  obtain ⟨d0, d1, d2, d3, d4, d5, d6, d7, d8, d99⟩ := d
  exact ⟨fun q => absurd q d0, fun q => absurd q d1, fun q => absurd q d2, fun q => absurd q d3, fun q => absurd q d4, fun q => absurd q d5, fun q => absurd q d6, fun q => absurd q d7, fun q => absurd q d8, d99⟩
theorem wta_10 {Y : XY} {a : Nat} (h : kc Y a = 10) (f : wtF Y a 0 1 700 ∧ wtF Y a 2 1 16) : WTa Y a := by
  unfold WTa
  rw [h]
  exact ⟨fun _ => f, fun q => absurd q (by decide), fun q => absurd q (by decide), fun q => absurd q (by decide), fun q => absurd q (by decide), fun q => absurd q (by decide), fun q => absurd q (by decide), fun q => absurd q (by decide), fun q => absurd q (by decide), by decide⟩
theorem wta_12 {Y : XY} {a : Nat} (h : kc Y a = 12) (f : wtF Y a 3 1 3) : WTa Y a := by
  unfold WTa
  rw [h]
  exact ⟨fun q => absurd q (by decide), fun _ => f, fun q => absurd q (by decide), fun q => absurd q (by decide), fun q => absurd q (by decide), fun q => absurd q (by decide), fun q => absurd q (by decide), fun q => absurd q (by decide), fun q => absurd q (by decide), by decide⟩
theorem wta_15 {Y : XY} {a : Nat} (h : kc Y a = 15) (f : wtF Y a 0 1 701 ∧ wtF Y a 1 1 701 ∧ wtF Y a 2 1 701) : WTa Y a := by
  unfold WTa
  rw [h]
  exact ⟨fun q => absurd q (by decide), fun q => absurd q (by decide), fun _ => f, fun q => absurd q (by decide), fun q => absurd q (by decide), fun q => absurd q (by decide), fun q => absurd q (by decide), fun q => absurd q (by decide), fun q => absurd q (by decide), by decide⟩
theorem wta_16 {Y : XY} {a : Nat} (h : kc Y a = 16) (f : wtF Y a 0 4 6 ∧ wtF Y a 2 5 8 ∧ wtF Y a 4 6 60 ∧ wtO Y a 13 10 ∧ wtF Y a 14 1 3) : WTa Y a := by
  unfold WTa
  rw [h]
  exact ⟨fun q => absurd q (by decide), fun q => absurd q (by decide), fun q => absurd q (by decide), fun _ => f, fun q => absurd q (by decide), fun q => absurd q (by decide), fun q => absurd q (by decide), fun q => absurd q (by decide), fun q => absurd q (by decide), by decide⟩
theorem wta_17 {Y : XY} {a : Nat} (h : kc Y a = 17) (f : wtF Y a 0 2 700 ∧ wtO Y a 3 15 ∧ wtO Y a 4 14 ∧ wtO Y a 5 16 ∧ wtO Y a 6 16 ∧ wtF Y a 7 7 8) : WTa Y a := by
  unfold WTa
  rw [h]
  exact ⟨fun q => absurd q (by decide), fun q => absurd q (by decide), fun q => absurd q (by decide), fun q => absurd q (by decide), fun _ => f, fun q => absurd q (by decide), fun q => absurd q (by decide), fun q => absurd q (by decide), fun q => absurd q (by decide), by decide⟩
theorem wta_4 {Y : XY} {a : Nat} (h : kc Y a = 4) (f : ∀ k, k < kn Y a → wtO Y a k 11) : WTa Y a := by
  unfold WTa
  rw [h]
  exact ⟨fun q => absurd q (by decide), fun q => absurd q (by decide), fun q => absurd q (by decide), fun q => absurd q (by decide), fun q => absurd q (by decide), fun _ => f, fun q => absurd q (by decide), fun q => absurd q (by decide), fun q => absurd q (by decide), by decide⟩
theorem wta_5 {Y : XY} {a : Nat} (h : kc Y a = 5) (f : ∀ k, k < kn Y a → wtO Y a k 12) : WTa Y a := by
  unfold WTa
  rw [h]
  exact ⟨fun q => absurd q (by decide), fun q => absurd q (by decide), fun q => absurd q (by decide), fun q => absurd q (by decide), fun q => absurd q (by decide), fun q => absurd q (by decide), fun _ => f, fun q => absurd q (by decide), fun q => absurd q (by decide), by decide⟩
theorem wta_6 {Y : XY} {a : Nat} (h : kc Y a = 6) (f : ∀ k, k < kn Y a → wtO Y a k 13) : WTa Y a := by
  unfold WTa
  rw [h]
  exact ⟨fun q => absurd q (by decide), fun q => absurd q (by decide), fun q => absurd q (by decide), fun q => absurd q (by decide), fun q => absurd q (by decide), fun q => absurd q (by decide), fun q => absurd q (by decide), fun _ => f, fun q => absurd q (by decide), by decide⟩
theorem wta_7 {Y : XY} {a : Nat} (h : kc Y a = 7) (f : ∀ k, k < kn Y a → wtO Y a k 16) : WTa Y a := by
  unfold WTa
  rw [h]
  exact ⟨fun q => absurd q (by decide), fun q => absurd q (by decide), fun q => absurd q (by decide), fun q => absurd q (by decide), fun q => absurd q (by decide), fun q => absurd q (by decide), fun q => absurd q (by decide), fun q => absurd q (by decide), fun _ => f, by decide⟩
/-- a world's block of 90 cells -/
def BF (Y : XY) (w : Nat) : Prop := kc Y w = 16 ∧ (gr Y w 0 = some (w + 1) ∧ gr Y w 2 = some (w + 2) ∧ gr Y w 4 = some (w + 3) ∧ gr Y w 13 = some (w + 4) ∧ gr Y w 14 = some (w + 7)) ∧ (kc Y (w + 1) = 4 ∧ kn Y (w + 1) = 6) ∧ (kc Y (w + 2) = 5 ∧ kn Y (w + 2) = 8) ∧ (kc Y (w + 3) = 6 ∧ kn Y (w + 3) = 60) ∧ (kc Y (w + 4) = 10 ∧ gr Y (w + 4) 0 = some (w + 4 + 1) ∧ gr Y (w + 4) 2 = some (w + 4 + 2)) ∧ (kc Y (w + 4 + 1) = 1 ∧ kn Y (w + 4 + 1) = 700) ∧ (kc Y (w + 4 + 2) = 1 ∧ kn Y (w + 4 + 2) = 16) ∧ (kc Y (w + 7) = 1 ∧ kn Y (w + 7) = 3) ∧
  (∀ i, i < 6 → kc Y (w + 8 + i) = 11 ∧ gr Y (w + 1) i = some (w + 8 + i)) ∧ (∀ i, i < 8 → kc Y (w + 14 + 2 * i) = 12 ∧ gr Y (w + 2) i = some (w + 14 + 2 * i) ∧ gr Y (w + 14 + 2 * i) 3 = some (w + 14 + 2 * i + 1) ∧ kc Y (w + 14 + 2 * i + 1) = 1 ∧ kn Y (w + 14 + 2 * i + 1) = 3) ∧ ∀ i, i < 60 → kc Y (w + 30 + i) = 13 ∧ gr Y (w + 3) i = some (w + 30 + i)
theorem BF.same {Y Y' : XY} {w : Nat} (h : BF Y w) (hs : ∀ b, w ≤ b → b < w + 90 → sm Y Y' b) : BF Y' w := by
  obtain ⟨h1, ⟨h2, h3, h4, h5, h6⟩, ⟨h7, h8⟩, ⟨h9, h10⟩, ⟨h11, h12⟩, ⟨h13, h14, h15⟩, ⟨h16, h17⟩, ⟨h18, h19⟩, ⟨h20, h21⟩, h22, h23, h24⟩ := h
  refine ⟨(hs w (by omega) (by omega)).1.trans h1, ⟨((hs w (by omega) (by omega)).2.2 _).trans h2, ((hs w (by omega) (by omega)).2.2 _).trans h3, ((hs w (by omega) (by omega)).2.2 _).trans h4, ((hs w (by omega) (by omega)).2.2 _).trans h5, ((hs w (by omega) (by omega)).2.2 _).trans h6⟩,
    ⟨(hs _ (by omega) (by omega)).1.trans h7, (hs _ (by omega) (by omega)).2.1.trans h8⟩, ⟨(hs _ (by omega) (by omega)).1.trans h9, (hs _ (by omega) (by omega)).2.1.trans h10⟩, ⟨(hs _ (by omega) (by omega)).1.trans h11, (hs _ (by omega) (by omega)).2.1.trans h12⟩,
    ⟨(hs _ (by omega) (by omega)).1.trans h13, ((hs _ (by omega) (by omega)).2.2 _).trans h14, ((hs _ (by omega) (by omega)).2.2 _).trans h15⟩, ⟨(hs _ (by omega) (by omega)).1.trans h16, (hs _ (by omega) (by omega)).2.1.trans h17⟩, ⟨(hs _ (by omega) (by omega)).1.trans h18, (hs _ (by omega) (by omega)).2.1.trans h19⟩, ⟨(hs _ (by omega) (by omega)).1.trans h20, (hs _ (by omega) (by omega)).2.1.trans h21⟩,
    fun i hi => ⟨(hs _ (by omega) (by omega)).1.trans (h22 i hi).1, ((hs _ (by omega) (by omega)).2.2 _).trans (h22 i hi).2⟩,
    fun i hi => ⟨(hs _ (by omega) (by omega)).1.trans (h23 i hi).1, ((hs _ (by omega) (by omega)).2.2 _).trans (h23 i hi).2.1, ((hs _ (by omega) (by omega)).2.2 _).trans (h23 i hi).2.2.1, (hs _ (by omega) (by omega)).1.trans (h23 i hi).2.2.2.1, (hs _ (by omega) (by omega)).2.1.trans (h23 i hi).2.2.2.2⟩,
    fun i hi => ⟨(hs _ (by omega) (by omega)).1.trans (h24 i hi).1, ((hs _ (by omega) (by omega)).2.2 _).trans (h24 i hi).2⟩⟩
theorem BF.WY {Y : XY} {w : Nat} (h : BF Y w) : WY Y w := by
  obtain ⟨h1, ⟨h2, h3, h4, h5, h6⟩, ⟨h7, h8⟩, ⟨h9, h10⟩, ⟨h11, h12⟩, ⟨h13, h14, h15⟩, ⟨h16, h17⟩, ⟨h18, h19⟩, ⟨h20, h21⟩, h22, h23, h24⟩ := h
  refine ⟨⟨gp_of h2, gp_of h3, gp_of h4, gp_of h5, gp_of h6⟩, ⟨gp_of h14, gp_of h15⟩, fun i hi => ?_, fun i hi => ?_, fun i hi => ?_, fun i hi => ?_⟩
  · rw [gp_of (h22 i hi).2]; omega
  · rw [gp_of (h23 i hi).2.1]; omega
  · rw [← Nat.add_assoc, gp_of (h23 i hi).2.2.1]; omega
  · rw [gp_of (h24 i hi).2]; omega
theorem BF.wt {Y : XY} {w : Nat} (h : BF Y w) (b : Nat) (hb1 : w ≤ b) (hb2 : b < w + 90) : WTa Y b := by
  obtain ⟨h1, ⟨h2, h3, h4, h5, h6⟩, ⟨h7, h8⟩, ⟨h9, h10⟩, ⟨h11, h12⟩, ⟨h13, h14, h15⟩, ⟨h16, h17⟩, ⟨h18, h19⟩, ⟨h20, h21⟩, h22, h23, h24⟩ := h
  have small : ∀ {K : Nat}, kc Y b = K → (K = 1 ∨ K = 11 ∨ K = 13) → WTa Y b := fun {K} hk hK => wta_t hk (by omega)
  by_cases q1 : b < w + 8
  · rcases (show b = w ∨ b = w + 1 ∨ b = w + 2 ∨ b = w + 3 ∨ b = w + 4 ∨ b = w + 4 + 1 ∨ b = w + 4 + 2 ∨ b = w + 7 by omega) with e | e | e | e | e | e | e | e
    · subst e
      exact wta_16 h1 ⟨wtF_of h2 h7 h8, wtF_of h3 h9 h10, wtF_of h4 h11 h12, wtO_of h5 h13, wtF_of h6 h20 h21⟩
    · subst e
      exact wta_4 h7 (fun k hk => wtO_of (h22 k (by omega)).2 (h22 k (by omega)).1)
    · subst e
      exact wta_5 h9 (fun k hk => wtO_of (h23 k (by omega)).2.1 (h23 k (by omega)).1)
    · subst e
      exact wta_6 h11 (fun k hk => wtO_of (h24 k (by omega)).2 (h24 k (by omega)).1)
    · subst e
      exact wta_10 h13 ⟨wtF_of h14 h16 h17, wtF_of h15 h18 h19⟩
    · subst e; exact small h16 (by omega)
    · subst e; exact small h18 (by omega)
    · subst e; exact small h20 (by omega)
  · by_cases q2 : b < w + 14
    · obtain ⟨i, hi, e⟩ : ∃ i, i < 6 ∧ b = w + 8 + i := ⟨b - (w + 8), by omega, by omega⟩
      subst e
      exact small (h22 i hi).1 (by omega)
    · by_cases q3 : b < w + 30
      · obtain ⟨i, hi, e⟩ : ∃ i, i < 8 ∧ (b = w + 14 + 2 * i ∨ b = w + 14 + 2 * i + 1) := ⟨(b - (w + 14)) / 2, by omega, by omega⟩
        rcases e with e | e
        · subst e
          exact wta_12 (h23 i hi).1 (wtF_of (h23 i hi).2.2.1 (h23 i hi).2.2.2.1 (h23 i hi).2.2.2.2)
        · subst e
          exact small (h23 i hi).2.2.2.1 (by omega)
      · obtain ⟨i, hi, e⟩ : ∃ i, i < 60 ∧ b = w + 30 + i := ⟨b - (w + 30), by omega, by omega⟩
        subst e
        exact small (h24 i hi).1 (by omega)
theorem st1 {Y : XY} {w : Nat} : ∀ i, (∀ b, b < w + 8 → b ≠ w + 1 → sm Y (yW1 Y w i) b) ∧ (kc (yW1 Y w i) (w + 1) = kc Y (w + 1) ∧ kn (yW1 Y w i) (w + 1) = kn Y (w + 1)) ∧ ∀ j, j < i → kc (yW1 Y w i) (w + 8 + j) = 11 ∧ gr (yW1 Y w i) (w + 1) j = some (w + 8 + j)
  | 0 => ⟨fun _ _ _ => sm.refl', ⟨rfl, rfl⟩, fun j h => absurd h (Nat.not_lt_zero j)⟩
  | i + 1 => by
    obtain ⟨h1, ⟨h2, h3⟩, h4⟩ := st1 (Y := Y) (w := w) i
    unfold yW1
    refine ⟨fun b hb hb1 => (h1 b hb hb1).trans ((sm_k (by omega)).trans (sm_s hb1)), ⟨?_, ?_⟩, fun j hj => ?_⟩
    · rw [kcs, kck (by omega)]; exact h2
    · rw [kns, knk (by omega)]; exact h3
    · by_cases e : j = i
      · subst e
        exact ⟨by rw [kcs, kcq rfl], grq⟩
      · obtain ⟨a1, a2⟩ := h4 j (by omega)
        exact ⟨by rw [kcs, kck (by omega)]; exact a1, by rw [grn e, grk (by omega)]; exact a2⟩
theorem st2 {Y : XY} {w : Nat} : ∀ i, (∀ b, b < w + 14 → b ≠ w + 2 → sm Y (yW2 Y w i) b) ∧ (kc (yW2 Y w i) (w + 2) = kc Y (w + 2) ∧ kn (yW2 Y w i) (w + 2) = kn Y (w + 2)) ∧ ∀ j, j < i → kc (yW2 Y w i) (w + 14 + 2 * j) = 12 ∧ gr (yW2 Y w i) (w + 2) j = some (w + 14 + 2 * j) ∧ gr (yW2 Y w i) (w + 14 + 2 * j) 3 = some (w + 14 + 2 * j + 1) ∧ kc (yW2 Y w i) (w + 14 + 2 * j + 1) = 1 ∧ kn (yW2 Y w i) (w + 14 + 2 * j + 1) = 3
  | 0 => ⟨fun _ _ _ => sm.refl', ⟨rfl, rfl⟩, fun j h => absurd h (Nat.not_lt_zero j)⟩
  | i + 1 => by
    obtain ⟨h1, ⟨h2, h3⟩, h4⟩ := st2 (Y := Y) (w := w) i
    unfold yW2 yI_X2
    refine ⟨fun b hb hb1 => (h1 b hb hb1).trans ((sm_k (by omega)).trans ((sm_k (by omega)).trans ((sm_s (by omega)).trans (sm_s hb1)))), ⟨?_, ?_⟩, fun j hj => ?_⟩
    · rw [kcs, kcs, kck (by omega), kck (by omega)]; exact h2
    · rw [kns, kns, knk (by omega), knk (by omega)]; exact h3
    · by_cases e : j = i
      · subst e
        exact ⟨by rw [kcs, kcs, kck (by omega), kcq rfl], grq, by rw [grs (by omega), grq], by rw [kcs, kcs, kcq rfl], by rw [kns, kns, knq rfl]⟩
      · obtain ⟨a1, a2, a3, a4, a5⟩ := h4 j (by omega)
        refine ⟨?_, ?_, ?_, ?_, ?_⟩
        · rw [kcs, kcs, kck (by omega), kck (by omega)]; exact a1
        · rw [grn e, grs (by omega), grk (by omega), grk (by omega)]; exact a2
        · rw [grs (by omega), grs (by omega), grk (by omega), grk (by omega)]; exact a3
        · rw [kcs, kcs, kck (by omega), kck (by omega)]; exact a4
        · rw [kns, kns, knk (by omega), knk (by omega)]; exact a5
theorem st3 {Y : XY} {w : Nat} : ∀ i, (∀ b, b < w + 30 → b ≠ w + 3 → sm Y (yW3 Y w i) b) ∧ (kc (yW3 Y w i) (w + 3) = kc Y (w + 3) ∧ kn (yW3 Y w i) (w + 3) = kn Y (w + 3)) ∧ ∀ j, j < i → kc (yW3 Y w i) (w + 30 + j) = 13 ∧ gr (yW3 Y w i) (w + 3) j = some (w + 30 + j)
  | 0 => ⟨fun _ _ _ => sm.refl', ⟨rfl, rfl⟩, fun j h => absurd h (Nat.not_lt_zero j)⟩
  | i + 1 => by
    obtain ⟨h1, ⟨h2, h3⟩, h4⟩ := st3 (Y := Y) (w := w) i
    unfold yW3
    refine ⟨fun b hb hb1 => (h1 b hb hb1).trans ((sm_k (by omega)).trans (sm_s hb1)), ⟨?_, ?_⟩, fun j hj => ?_⟩
    · rw [kcs, kck (by omega)]; exact h2
    · rw [kns, knk (by omega)]; exact h3
    · by_cases e : j = i
      · subst e
        exact ⟨by rw [kcs, kcq rfl], grq⟩
      · obtain ⟨a1, a2⟩ := h4 j (by omega)
        exact ⟨by rw [kcs, kck (by omega)]; exact a1, by rw [grn e, grk (by omega)]; exact a2⟩
theorem st0 {Y : XY} {w : Nat} (k0 : kc Y w = 16) : kc (yW0 Y w) w = 16 ∧ (gr (yW0 Y w) w 0 = some (w + 1) ∧ gr (yW0 Y w) w 2 = some (w + 2) ∧ gr (yW0 Y w) w 4 = some (w + 3) ∧ gr (yW0 Y w) w 13 = some (w + 4) ∧ gr (yW0 Y w) w 14 = some (w + 7)) ∧ (kc (yW0 Y w) (w + 1) = 4 ∧ kn (yW0 Y w) (w + 1) = 6) ∧ (kc (yW0 Y w) (w + 2) = 5 ∧ kn (yW0 Y w) (w + 2) = 8) ∧ (kc (yW0 Y w) (w + 3) = 6 ∧ kn (yW0 Y w) (w + 3) = 60) ∧ (kc (yW0 Y w) (w + 4) = 10 ∧ gr (yW0 Y w) (w + 4) 0 = some (w + 4 + 1) ∧ gr (yW0 Y w) (w + 4) 2 = some (w + 4 + 2)) ∧ (kc (yW0 Y w) (w + 4 + 1) = 1 ∧ kn (yW0 Y w) (w + 4 + 1) = 700) ∧ (kc (yW0 Y w) (w + 4 + 2) = 1 ∧ kn (yW0 Y w) (w + 4 + 2) = 16) ∧ (kc (yW0 Y w) (w + 7) = 1 ∧ kn (yW0 Y w) (w + 7) = 3) := by
  unfold yW0 yI_X0
  refine ⟨?_, ⟨?_, ?_, ?_, ?_, ?_⟩, ⟨?_, ?_⟩, ⟨?_, ?_⟩, ⟨?_, ?_⟩, ⟨?_, ?_, ?_⟩, ⟨?_, ?_⟩, ⟨?_, ?_⟩, ⟨?_, ?_⟩⟩ <;> simp (disch := omega) only [kcs, kns, kck, knk, kcq, knq, kce, grk, grq, grn, grs, k0]
theorem BF.mk {Y : XY} {w : Nat} (k0 : kc Y w = 16) : BF (yW Y w) w := by
  obtain ⟨h1, ⟨h2, h3, h4, h5, h6⟩, ⟨h7, h8⟩, ⟨h9, h10⟩, ⟨h11, h12⟩, ⟨h13, h14, h15⟩, ⟨h16, h17⟩, ⟨h18, h19⟩, ⟨h20, h21⟩⟩ := st0 k0
  have e : yW Y w = yW3 (yW2 (yW1 (yW0 Y w) w 6) w 8) w 60 := rfl
  rw [e]
  obtain ⟨a1, ⟨a2, a3⟩, a4⟩ := st1 (Y := yW0 Y w) (w := w) 6
  obtain ⟨b1, ⟨b2, b3⟩, b4⟩ := st2 (Y := yW1 (yW0 Y w) w 6) (w := w) 8
  obtain ⟨c1, ⟨c2, c3⟩, c4⟩ := st3 (Y := yW2 (yW1 (yW0 Y w) w 6) w 8) (w := w) 60
  have A : ∀ b, b < w + 8 → b ≠ w + 1 → b ≠ w + 2 → b ≠ w + 3 → sm (yW0 Y w) (yW3 (yW2 (yW1 (yW0 Y w) w 6) w 8) w 60) b := fun b q1 q2 q3 q4 => (a1 b q1 q2).trans ((b1 b (by omega) q3).trans (c1 b (by omega) q4))
  have A0 := A w (by omega) (by omega) (by omega) (by omega)
  have A4 := A (w + 4) (by omega) (by omega) (by omega) (by omega)
  have A5 := A (w + 4 + 1) (by omega) (by omega) (by omega) (by omega)
  have A6 := A (w + 4 + 2) (by omega) (by omega) (by omega) (by omega)
  have A7 := A (w + 7) (by omega) (by omega) (by omega) (by omega)
  have B1 := (b1 (w + 1) (by omega) (by omega)).trans (c1 (w + 1) (by omega) (by omega))
  have B2 := c1 (w + 2) (by omega) (by omega)
  have B2' := a1 (w + 2) (by omega) (by omega)
  have B3 := (a1 (w + 3) (by omega) (by omega)).trans (b1 (w + 3) (by omega) (by omega))
  refine ⟨A0.1.trans h1, ⟨(A0.2.2 _).trans h2, (A0.2.2 _).trans h3, (A0.2.2 _).trans h4, (A0.2.2 _).trans h5, (A0.2.2 _).trans h6⟩, ⟨B1.1.trans (a2.trans h7), B1.2.1.trans (a3.trans h8)⟩, ⟨B2.1.trans (b2.trans (B2'.1.trans h9)), B2.2.1.trans (b3.trans (B2'.2.1.trans h10))⟩, ⟨c2.trans (B3.1.trans h11), c3.trans (B3.2.1.trans h12)⟩, ⟨A4.1.trans h13, (A4.2.2 _).trans h14, (A4.2.2 _).trans h15⟩, ⟨A5.1.trans h16, A5.2.1.trans h17⟩, ⟨A6.1.trans h18, A6.2.1.trans h19⟩, ⟨A7.1.trans h20, A7.2.1.trans h21⟩, fun i hi => ?_, fun i hi => ?_, fun i hi => c4 i hi⟩
  · have q := (b1 (w + 8 + i) (by omega) (by omega)).trans (c1 (w + 8 + i) (by omega) (by omega))
    exact ⟨q.1.trans (a4 i hi).1, (B1.2.2 _).trans (a4 i hi).2⟩
  · have q := c1 (w + 14 + 2 * i) (by omega) (by omega)
    have q2 := c1 (w + 14 + 2 * i + 1) (by omega) (by omega)
    obtain ⟨d1, d2, d3, d4, d5⟩ := b4 i hi
    exact ⟨q.1.trans d1, (B2.2.2 _).trans d2, (q.2.2 _).trans d3, q2.1.trans d4, q2.2.1.trans d5⟩
theorem stP {Y : XY} {B : Nat} : ∀ i, (∀ b, b < B + 188 → b ≠ B + 187 → sm Y (yP Y B i) b) ∧ (kc (yP Y B i) (B + 187) = kc Y (B + 187) ∧ kn (yP Y B i) (B + 187) = kn Y (B + 187)) ∧ ∀ j, j < i → gr (yP Y B i) (B + 187) j = some (B + 188 + 90 * j) ∧ BF (yP Y B i) (B + 188 + 90 * j)
  | 0 => ⟨fun _ _ _ => sm.refl', ⟨rfl, rfl⟩, fun j h => absurd h (Nat.not_lt_zero j)⟩
  | i + 1 => by
    obtain ⟨h1, ⟨h2, h3⟩, h4⟩ := stP (Y := Y) (B := B) i
    unfold yP
    refine ⟨fun b hb hb1 => (h1 b hb hb1).trans ((sm_k (by omega)).trans ((sm_w (by omega)).trans (sm_s hb1))), ⟨?_, ?_⟩, fun j hj => ?_⟩
    · rw [kcs, kcW (by omega), kck (by omega)]; exact h2
    · rw [kns, knW (by omega), knk (by omega)]; exact h3
    · by_cases e : j = i
      · subst e
        exact ⟨grq, (BF.mk (kcq rfl)).same (fun b q1 q2 => sm_s (by omega))⟩
      · obtain ⟨a1, a2⟩ := h4 j (by omega)
        exact ⟨by rw [grn e, grW (by omega), grk (by omega)]; exact a1, a2.same (fun b q1 q2 => (sm_k (by omega)).trans ((sm_w (by omega)).trans (sm_s (by omega))))⟩
/-- the object's own cells -/
def OB (Y : XY) (B : Nat) : Prop := kc Y B = 17 ∧ (gr Y B 0 = some (B + 1) ∧ gr Y B 3 = some (B + 2) ∧ gr Y B 4 = some (B + 6) ∧ gr Y B 5 = some (B + 7) ∧ gr Y B 6 = some (B + 97) ∧ gr Y B 7 = some (B + 187)) ∧ (kc Y (B + 1) = 2 ∧ kn Y (B + 1) = 700) ∧ (kc Y (B + 2) = 15 ∧ gr Y (B + 2) 0 = some (B + 2 + 1) ∧ gr Y (B + 2) 1 = some (B + 2 + 2) ∧ gr Y (B + 2) 2 = some (B + 2 + 3)) ∧ (kc Y (B + 2 + 1) = 1 ∧ kn Y (B + 2 + 1) = 701) ∧ (kc Y (B + 2 + 2) = 1 ∧ kn Y (B + 2 + 2) = 701) ∧ (kc Y (B + 2 + 3) = 1 ∧ kn Y (B + 2 + 3) = 701) ∧ kc Y (B + 6) = 14 ∧ (kc Y (B + 187) = 7 ∧ kn Y (B + 187) = 8)
theorem OB.same {Y Y' : XY} {B : Nat} (h : OB Y B) (hs : ∀ b, B ≤ b → b < B + 188 → b ≠ B + 187 → sm Y Y' b) (h7 : kc Y' (B + 187) = kc Y (B + 187) ∧ kn Y' (B + 187) = kn Y (B + 187)) : OB Y' B := by
  obtain ⟨a0, ⟨a1, a2, a3, a4, a5, a6⟩, ⟨b1, b2⟩, ⟨c1, c2, c3, c4⟩, ⟨d1, d2⟩, ⟨e1, e2⟩, ⟨f1, f2⟩, g1, i1, i2⟩ := h
  have s0 := hs B (by omega) (by omega) (by omega)
  have s1 := hs (B + 1) (by omega) (by omega) (by omega)
  have s2 := hs (B + 2) (by omega) (by omega) (by omega)
  have s3 := hs (B + 2 + 1) (by omega) (by omega) (by omega)
  have s4 := hs (B + 2 + 2) (by omega) (by omega) (by omega)
  have s5 := hs (B + 2 + 3) (by omega) (by omega) (by omega)
  have s6 := hs (B + 6) (by omega) (by omega) (by omega)
  exact ⟨s0.1.trans a0, ⟨(s0.2.2 _).trans a1, (s0.2.2 _).trans a2, (s0.2.2 _).trans a3, (s0.2.2 _).trans a4, (s0.2.2 _).trans a5, (s0.2.2 _).trans a6⟩, ⟨s1.1.trans b1, s1.2.1.trans b2⟩, ⟨s2.1.trans c1, (s2.2.2 _).trans c2, (s2.2.2 _).trans c3, (s2.2.2 _).trans c4⟩, ⟨s3.1.trans d1, s3.2.1.trans d2⟩, ⟨s4.1.trans e1, s4.2.1.trans e2⟩, ⟨s5.1.trans f1, s5.2.1.trans f2⟩, s6.1.trans g1, h7.1.trans i1, h7.2.trans i2⟩
theorem stL {Y : XY} {B : Nat} (k0 : kc Y B = 17) : OB (yL0 Y B) B ∧ BF (yL0 Y B) (B + 7) ∧ BF (yL0 Y B) (B + 97) := by
  refine ⟨?_, ?_, ?_⟩
  · unfold yL0
    refine ⟨?_, ⟨?_, ?_, ?_, ?_, ?_, ?_⟩, ⟨?_, ?_⟩, ⟨?_, ?_, ?_, ?_⟩, ⟨?_, ?_⟩, ⟨?_, ?_⟩, ⟨?_, ?_⟩, ?_, ⟨?_, ?_⟩⟩ <;> simp (disch := omega) only [yI_X4, yI_X5, kcs, kck, kcW, kns, knk, knW, kcq, knq, kce, grk, grq, grn, grs, grW, k0]
  · unfold yL0
    exact (BF.mk (kcq rfl)).same (fun b q1 q2 => (sm_s (by omega)).trans ((sm_k (by omega)).trans ((sm_w (by omega)).trans ((sm_s (by omega)).trans ((sm_k (by omega)).trans (sm_s (by omega)))))))
  · unfold yL0
    exact (BF.mk (kcq rfl)).same (fun b q1 q2 => (sm_s (by omega)).trans ((sm_k (by omega)).trans (sm_s (by omega))))
/-- the object with its ten worlds -/
def OC (Y : XY) (B : Nat) : Prop := OB Y B ∧ BF Y (B + 7) ∧ BF Y (B + 97) ∧ ∀ i, i < 8 → gr Y (B + 187) i = some (B + 188 + 90 * i) ∧ BF Y (B + 188 + 90 * i)
theorem OC.same {Y Y' : XY} {B : Nat} (h : OC Y B) (hs : ∀ b, B ≤ b → b < B + 908 → sm Y Y' b) : OC Y' B := by
  obtain ⟨h1, h2, h3, h4⟩ := h
  have s7 := hs (B + 187) (by omega) (by omega)
  exact ⟨h1.same (fun b q1 q2 _ => hs b q1 (by omega)) ⟨s7.1, s7.2.1⟩, h2.same (fun b q1 q2 => hs b (by omega) (by omega)), h3.same (fun b q1 q2 => hs b (by omega) (by omega)), fun i hi => ⟨(s7.2.2 _).trans (h4 i hi).1, (h4 i hi).2.same (fun b q1 q2 => hs b (by omega) (by omega))⟩⟩
theorem stO {Y : XY} {B : Nat} (k0 : kc Y B = 17) : OC (yL Y B) B := by
  obtain ⟨h1, h2, h3⟩ := stL k0
  obtain ⟨a1, a2, a3⟩ := stP (Y := yL0 Y B) (B := B) 8
  exact ⟨h1.same (fun b q1 q2 q3 => a1 b q2 q3) a2, h2.same (fun b q1 q2 => a1 b (by omega) (by omega)), h3.same (fun b q1 q2 => a1 b (by omega) (by omega)), fun i hi => a3 i hi⟩
theorem kcH {Y : XY} {q c n b : Nat} (h : q + 1 < b) : kc (yK Y q c n) b = kc Y b := (yK_ne (by omega) (by omega)).1
theorem hW1 {Y : XY} {w b : Nat} : ∀ i, w + 8 + i < b → kc (yW1 Y w i) b = kc Y b
  | 0, _ => rfl
  | i + 1, h => by
    unfold yW1
    rw [kcs, kcH (by omega)]
    exact hW1 i (by omega)
theorem hW2 {Y : XY} {w b : Nat} : ∀ i, w + 14 + 2 * i < b → kc (yW2 Y w i) b = kc Y b
  | 0, _ => rfl
  | i + 1, h => by
    unfold yW2 yI_X2
    rw [kcs, kcs, kcH (by omega), kcH (by omega)]
    exact hW2 i (by omega)
theorem hW3 {Y : XY} {w b : Nat} : ∀ i, w + 30 + i < b → kc (yW3 Y w i) b = kc Y b
  | 0, _ => rfl
  | i + 1, h => by
    unfold yW3
    rw [kcs, kcH (by omega)]
    exact hW3 i (by omega)
theorem hW {Y : XY} {w b : Nat} (h : w + 90 < b) : kc (yW Y w) b = kc Y b := by
  unfold yW
  rw [hW3 60 (by omega), hW2 8 (by omega), hW1 6 (by omega)]
  unfold yW0 yI_X0
  simp (disch := omega) only [kcs, kcH]
theorem hP {Y : XY} {B b : Nat} : ∀ i, B + 188 + 90 * i < b → kc (yP Y B i) b = kc Y b
  | 0, _ => rfl
  | i + 1, h => by
    unfold yP
    rw [kcs, hW (by omega), kcH (by omega)]
    exact hP i (by omega)
theorem hL {Y : XY} {B b : Nat} (h : B + 908 < b) : kc (yL Y B) b = kc Y b := by
  unfold yL
  rw [hP 8 (by omega)]
  unfold yL0
  simp (disch := omega) only [yI_X4, yI_X5, kcs, kcH, hW]
theorem sm_L {Y : XY} {B b : Nat} (h : b < B) : sm Y (yL Y B) b := by
  have h0 : sm Y (yL0 Y B) b := by
    unfold yL0
    refine ⟨?_, ?_, fun j => ?_⟩ <;> simp (disch := omega) only [yI_X4, yI_X5, kcs, kck, kcW, kns, knk, knW, grk, grs, grW]
  exact h0.trans ((stP (Y := yL0 Y B) (B := B) 8).1 b (by omega) (by omega))
theorem WTa.wt {Y : XY} (h : ∀ a, WTa Y a ∨ (kc Y a = 9 ∨ 18 ≤ kc Y a)) : WT Y := by
  intro a
  rcases h a with h | h
  · obtain ⟨h1, h2, h3, h4, h5, h6, h7, h8, h9, -⟩ := h
    exact ⟨h1, h2, h3, h4, h5, h6, h7, h8, h9⟩
  · exact ⟨fun q => by omega, fun q => by omega, fun q => by omega, fun q => by omega, fun q => by omega, fun q => by omega, fun q => by omega, fun q => by omega, fun q => by omega⟩
theorem OC.cell {Y : XY} {B : Nat} (h : OC Y B) (a : Nat) (h1 : B ≤ a) (h2 : a < B + 908) : WTa Y a := by
  have tr : ∀ {K : Nat}, kc Y a = K → (K = 0 ∨ K = 1 ∨ K = 2 ∨ K = 3 ∨ K = 14) → WTa Y a := fun {K} hk hK => wta_t hk (by omega)
  obtain ⟨⟨a0, ⟨a1, a2, a3, a4, a5, a6⟩, ⟨b1, b2⟩, ⟨c1, c2, c3, c4⟩, ⟨d1, d2⟩, ⟨e1, e2⟩, ⟨f1, f2⟩, g1, i1, i2⟩, w1, w2, w3⟩ := h
  by_cases q1 : a < B + 7
  · rcases (show a = B ∨ a = B + 1 ∨ a = B + 2 ∨ a = B + 2 + 1 ∨ a = B + 2 + 2 ∨ a = B + 2 + 3 ∨ a = B + 6 by omega) with e | e | e | e | e | e | e
    · subst e
      exact wta_17 a0 ⟨wtF_of a1 b1 b2, wtO_of a2 c1, wtO_of a3 g1, wtO_of a4 w1.1, wtO_of a5 w2.1, wtF_of a6 i1 i2⟩
    · subst e; exact tr b1 (by omega)
    · subst e
      exact wta_15 c1 ⟨wtF_of c2 d1 d2, wtF_of c3 e1 e2, wtF_of c4 f1 f2⟩
    · subst e; exact tr d1 (by omega)
    · subst e; exact tr e1 (by omega)
    · subst e; exact tr f1 (by omega)
    · subst e; exact tr g1 (by omega)
  · by_cases q2 : a < B + 97
    · exact w1.wt a (by omega) (by omega)
    · by_cases q3 : a < B + 187
      · exact w2.wt a (by omega) (by omega)
      · by_cases q4 : a = B + 187
        · subst q4
          exact wta_7 i1 (fun k hk => wtO_of (w3 k (by omega)).1 (w3 k (by omega)).2.1)
        · exact (w3 ((a - (B + 188)) / 90) (by omega)).2.wt a (by omega) (by omega)
theorem OC.yo {Y : XY} {B : Nat} (h : OC Y B) : YO Y B := by
  obtain ⟨⟨a0, ⟨a1, a2, a3, a4, a5, a6⟩, ⟨b1, b2⟩, ⟨c1, c2, c3, c4⟩, -⟩, w1, w2, w3⟩ := h
  refine ⟨⟨gp_of a1, gp_of a2, gp_of a3, gp_of a4, gp_of a5, gp_of a6⟩, fun i hi => ?_, ⟨gp_of c2, gp_of c3, gp_of c4⟩, w1.WY, w2.WY, fun i hi => ?_, trivial, b2⟩
  · rw [gp_of (w3 i hi).1]; omega
  · rw [show B + (188 + 90 * i) = B + 188 + 90 * i by omega]
    exact (w3 i hi).2.WY
/-- a new object -/
theorem F_obj {Y : XY} {B : Nat} (hm : MK Y B) (low : ∀ a, a < B → kc Y a = 0 ∨ 40 ≤ kc Y a) : (kc (yK Y B 17 0) (B + 1) = 9) ∧ kc (yL (yK Y B 17 0) B) B = 17 ∧ YO (yL (yK Y B 17 0) B) B ∧ NB (yL (yK Y B 17 0) B) B ∧ WT (yL (yK Y B 17 0) B) ∧ MK (yL (yK Y B 17 0) B) (B + 908) ∧ ∀ a, a < B → sm Y (yL (yK Y B 17 0) B) a := by
  have hO : OC (yL (yK Y B 17 0) B) B := stO (kcq rfl)
  have k9 : kc (yL (yK Y B 17 0) B) (B + 908) = 9 := (BV.p (BV.l0 (kcq rfl)) 8).2.2
  have hs : ∀ a, a < B → sm Y (yL (yK Y B 17 0) B) a := fun a ha => (sm_k ha).trans (sm_L ha)
  have hi : ∀ a, B + 908 < a → kc (yL (yK Y B 17 0) B) a = 0 := fun a ha => by
    rw [hL ha, kcH (by omega)]
    exact hm.2 a (by omega)
  refine ⟨kce rfl, hO.1.1, hO.yo, fun b h1 h2 => ?_, WTa.wt (fun a => ?_), ⟨k9, hi⟩, hs⟩
  · have := (hO.cell b h1 h2).2.2.2.2.2.2.2.2.2
    omega
  · by_cases c1 : a < B
    · have e := (hs a c1).1
      rcases low a c1 with h | h
      · exact Or.inl (wta_t (e.trans h) (by omega))
      · exact Or.inr (by omega)
    · by_cases c2 : a < B + 908
      · exact Or.inl (hO.cell a (by omega) c2)
      · by_cases c3 : a = B + 908
        · rw [c3]; exact Or.inr (Or.inl k9)
        · exact Or.inl (wta_t (hi a (by omega)) (by omega))
