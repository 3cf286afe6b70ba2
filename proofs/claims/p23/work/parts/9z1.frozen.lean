/-! THE LAUNCH'S OWN CELLS -/
section FZ9
variable {G : XG} {U : State} {H : Heap} {A : Nat → Prop} {t N M : Nat} {f g : Nat → Value}
theorem st_apart {ty : FieldType} (hK : xK G U) (hO : va_O "java/lang/String" t A U H) (hT : va_T ty t N f A U H) : False := by
  obtain ⟨cell, h1, -, h3, -⟩ := hO
  obtain ⟨cell', g1, ⟨-, k', hk', comp, hkind'⟩, -⟩ := hT
  have ec : cell' = cell := Option.some.inj (g1.symm.trans h1)
  obtain ⟨-, hf, kC, hk, hkind⟩ := hK.1 11 (RJ0, TJ0, 4) rfl
  have hf' : U.vm.findClass "java/lang/String" = some (G.1.1 11) := hf
  have e : cell.cls = G.1.1 11 := Option.some.inj (h3.symm.trans hf')
  rw [ec, e] at hk'
  have ek : kC = k' := Option.some.inj (hk.symm.trans hk')
  rw [← ek, hkind] at hkind'
  exact nomatch hkind'
theorem st_typ {ty : FieldType} (hT : va_T .byte t N f A U H) (hT' : va_T (.object "java/lang/String") t M g A U H) : False := by
  obtain ⟨cell, h1, ⟨-, k, hk, comp, hkind⟩, -⟩ := hT
  obtain ⟨cell', g1, ⟨-, k', hk', comp', hkind'⟩, -⟩ := hT'
  have ec : cell' = cell := Option.some.inj (g1.symm.trans h1)
  rw [ec] at hk'
  have ek : k' = k := Option.some.inj (hk'.symm.trans hk)
  rw [ek, hkind] at hkind'
  exact nomatch hkind'
theorem st_same {ty ty' : FieldType} (hN : N < 2 ^ 31) (hM : M < 2 ^ 31) (hT : va_T ty t N f A U H) (hT' : va_T ty' t M g A U H) : N = M ∧ ∀ j, j < N → f j = g j := by
  obtain ⟨cell, h1, -, -, -, h5, h6, -⟩ := hT
  obtain ⟨cell', g1, -, -, -, g5, g6, -⟩ := hT'
  have ec : cell' = cell := Option.some.inj (g1.symm.trans h1)
  rw [ec] at g5 g6
  have e : N = M := (nI_eq hN hM).mp (h5.symm.trans g5)
  exact ⟨e, fun j hj => Option.some.inj ((h6 j hj).symm.trans (g6 j (by omega)))⟩
theorem st_val {o n d : String} {v v' : Value} (h : va_OF o n d v t A U H) (h' : va_OF o n d v' t A U H) : v = v' := by
  obtain ⟨cf, k, i, f, cell, a1, -, a3, -, a5, -⟩ := h
  obtain ⟨cf', k', i', f', cell', b1, -, b3, -, b5, -⟩ := h'
  have e := Option.some.inj (a1.symm.trans b1)
  have e2 : f = f' := congrArg (fun x => x.2.2.2) e
  have ec : cell = cell' := Option.some.inj (a3.symm.trans b3)
  rw [ec, e2] at a5
  exact Option.some.inj (a5.symm.trans b5)
theorem xBy_lt {i : Nat} (h : i < 37) : xBy i = xWo i := by
  unfold xBy
  rw [if_neg (by omega), if_neg (by omega)]
theorem xBy_len (i : Nat) : (xBy i).length < 200 := by
  by_cases c : i = 100
  · rw [c]; decide +kernel
  · by_cases c' : i = 101
    · rw [c']; decide +kernel
    · have e : xBy i = xWo i := by
        unfold xBy
        rw [if_neg c, if_neg c']
      rw [e]
      have := xWo_len i
      omega
theorem xRy_len (i : Nat) : (xRy i).length < 200 := by
  unfold xRy
  split <;> decide
/-- what a cell is made of, as the launch left it -/
def CLz (G : XG) (a : Nat) (q : (Nat × Nat) × (Nat → Option Nat) × (Nat → Int32)) : Prop :=
  (q.1 = (0, 0) ∧ (∀ i, i < 37 → a ≠ xS G i) ∧ ∀ i, (i < 37 ∨ i = 100 ∨ i = 101 ∨ i = 102 ∨ i = 103) → a ≠ xSv G i) ∨ (q.1 = (9, 0) ∧ a = xB G) ∨ (q.1.1 = 40 ∧ (∃ i, i < 37 ∧ a = xS G i ∧ q.2.1 0 = some (xSv G i)) ∧ ∀ j, q.2.2 j = 0) ∨ (q.1.1 = 41 ∧ ∃ i, (i < 37 ∨ i = 100 ∨ i = 101) ∧ a = xSv G i ∧ q.1.2 = (xBy i).length ∧ ∀ j, q.2.2 j = (xBy i).getD j 0) ∨ (q.1.1 = 42 ∧ ∃ i, (i = 102 ∨ i = 103) ∧ a = xSv G i ∧ q.1.2 = (xRy i).length ∧ ∀ j, q.2.1 j = some (xS G ((xRy i).getD j 0)))
theorem st_ca (G : XG) (a : Nat) : ∃ q : (Nat × Nat) × (Nat → Option Nat) × (Nat → Int32), CLz G a q ∧ (a = xB G → q.1 = (9, 0)) := by
  by_cases c0 : a = xB G
  · exact ⟨((9, 0), fun _ => none, fun _ => 0), Or.inr (Or.inl ⟨rfl, c0⟩), fun _ => rfl⟩
  · by_cases c1 : ∃ i, i < 37 ∧ a = xS G i
    · obtain ⟨i, hi, e⟩ := c1
      exact ⟨((40, 0), fun _ => some (xSv G i), fun _ => 0), Or.inr (Or.inr (Or.inl ⟨rfl, ⟨i, hi, e, rfl⟩, fun _ => rfl⟩)), fun h => absurd h c0⟩
    · by_cases c2 : ∃ i, (i < 37 ∨ i = 100 ∨ i = 101) ∧ a = xSv G i
      · obtain ⟨i, hi, e⟩ := c2
        exact ⟨((41, (xBy i).length), fun _ => none, fun j => (xBy i).getD j 0), Or.inr (Or.inr (Or.inr (Or.inl ⟨rfl, i, hi, e, rfl, fun _ => rfl⟩))), fun h => absurd h c0⟩
      · by_cases c3 : ∃ i, (i = 102 ∨ i = 103) ∧ a = xSv G i
        · obtain ⟨i, hi, e⟩ := c3
          exact ⟨((42, (xRy i).length), fun j => some (xS G ((xRy i).getD j 0)), fun _ => 0), Or.inr (Or.inr (Or.inr (Or.inr ⟨rfl, i, hi, e, rfl, fun _ => rfl⟩))), fun h => absurd h c0⟩
        · refine ⟨((0, 0), fun _ => none, fun _ => 0), Or.inl ⟨rfl, fun i hi e => c1 ⟨i, hi, e⟩, fun i hi e => ?_⟩, fun h => absurd h c0⟩
          by_cases c : i < 37 ∨ i = 100 ∨ i = 101
          · exact c2 ⟨i, c, e⟩
          · exact c3 ⟨i, by omega, e⟩
theorem xAt_40 {Y : XY} {N : XN} {a : Nat} (h : kc Y a = 40) (hi : ∃ i, i < 37 ∧ a = xS G i ∧ Y.1 a 0 = some (xSv G i) ∧ N.1 a 1 = 0) : xAt G Y N H a := by
  unfold xAt
  rw [h]
  exact And.intro (fun h => absurd h (by decide)) (And.intro (fun h => absurd h (by decide)) (And.intro (fun _ => hi) (And.intro (fun h => absurd h (by decide)) (fun h => absurd h (by decide)))))
theorem xAt_41 {Y : XY} {N : XN} {a : Nat} (h : kc Y a = 41) (hi : ∃ i, (i < 37 ∨ i = 100 ∨ i = 101) ∧ a = xSv G i ∧ kn Y a = (xBy i).length ∧ ∀ j, j < (xBy i).length → N.1 a j = (xBy i).getD j 0) : xAt G Y N H a := by
  unfold xAt
  rw [h]
  exact And.intro (fun h => absurd h (by decide)) (And.intro (fun h => absurd h (by decide)) (And.intro (fun h => absurd h (by decide)) (And.intro (fun _ => hi) (fun h => absurd h (by decide)))))
theorem xAt_42 {Y : XY} {N : XN} {a : Nat} (h : kc Y a = 42) (hi : ∃ i, (i = 102 ∨ i = 103) ∧ a = xSv G i ∧ kn Y a = (xRy i).length ∧ ∀ j, j < (xRy i).length → Y.1 a j = some (xS G ((xRy i).getD j 0))) : xAt G Y N H a := by
  unfold xAt
  rw [h]
  exact And.intro (fun h => absurd h (by decide)) (And.intro (fun h => absurd h (by decide)) (And.intro (fun h => absurd h (by decide)) (And.intro (fun h => absurd h (by decide)) (fun _ => hi))))
theorem gd_map : ∀ (ws : List Nat) (j : Nat), (ws.map nI).getD j 0 = nI (gd ws j) := by
  intro ws
  induction ws with
  | nil => intro j; rfl
  | cons x r ih =>
    intro j
    cases j with
    | zero => rfl
    | succ j => exact ih j
theorem gd_lt128 : ∀ (ws : List Nat), (∀ x, x ∈ ws → x < 128) → ∀ j, gd ws j < 128 := by
  intro ws
  induction ws with
  | nil => intro _ j; show (0 : Nat) < 128; omega
  | cons x r ih =>
    intro h j
    cases j with
    | zero => exact h x (List.mem_cons_self ..)
    | succ j => exact ih (fun y hy => h y (List.mem_cons_of_mem _ hy)) j
/-- what is known of the frozen cells -/
def FKz (G : XG) (Y0 : XY) (N0 : XN) : Prop := (∀ i, i < 37 → kc Y0 (xS G i) = 40 ∧ gr Y0 (xS G i) 0 = some (xSv G i) ∧ gi N0 (xS G i) 1 = 0) ∧ (∀ i, (i < 37 ∨ i = 100 ∨ i = 101) → kc Y0 (xSv G i) = 41 ∧ kn Y0 (xSv G i) = (xBy i).length ∧ ∀ j, j < (xBy i).length → gi N0 (xSv G i) j = (xBy i).getD j 0) ∧ ∀ i, (i = 102 ∨ i = 103) → kc Y0 (xSv G i) = 42 ∧ kn Y0 (xSv G i) = (xRy i).length ∧ ∀ j, j < (xRy i).length → gr Y0 (xSv G i) j = some (xS G ((xRy i).getD j 0))
theorem FKz.cz {Y0 : XY} {N0 : XN} {B : Nat} (h : FKz G Y0 N0) (hb : ∀ a, 40 ≤ kc Y0 a → kc Y0 a ≤ 42 → a < B) : CZ (xS G) (xSv G) Y0 N0 B := by
  obtain ⟨hS, hB, hR⟩ := h
  have ct : ∀ i, i < 37 → ∀ ws : List Nat, xBy i = ws.map nI → (∀ x, x ∈ ws → x < 128) → ws.length ≤ 400 → CT Y0 N0 B (xS G i) ws := fun i hi ws hw h1 h2 => by
    obtain ⟨a1, a2, a3⟩ := hS i hi
    obtain ⟨b1, b2, b3⟩ := hB i (Or.inl hi)
    have el : (xBy i).length = ws.length := by rw [hw, List.length_map]
    refine ⟨⟨⟨by rw [a1]; rfl, Or.inl (hb _ (by omega) (by omega))⟩, xSv G i, ⟨a2, by rw [b1]; rfl, b2.trans el, Or.inl (hb _ (by omega) (by omega))⟩, a3, fun j hj => ?_, gd_lt128 ws h1, h2⟩, a1, by rw [gp_of a2]; exact b1⟩
    rw [b3 j (by omega), hw]
    exact gd_map ws j
  obtain ⟨d1, d2, d3⟩ := hB 100 (Or.inr (Or.inl rfl))
  obtain ⟨e1, e2, e3⟩ := hB 101 (Or.inr (Or.inr rfl))
  obtain ⟨f1, f2, f3⟩ := hR 102 (Or.inl rfl)
  obtain ⟨g1, g2, g3⟩ := hR 103 (Or.inr rfl)
  have l2 : (xRy 102).length = 4 := rfl
  have l3 : (xRy 103).length = 5 := rfl
  have l0 : (xBy 100).length = 100 := by decide +kernel
  have l1 : (xBy 101).length = 100 := by decide +kernel
  have t0 : ∀ j, j < 100 → (xBy 100).getD j 0 = nI (48 + j % 10) := by decide +kernel
  have t1 : ∀ j, j < 100 → (xBy 101).getD j 0 = nI (48 + j / 10) := by decide +kernel
  refine ⟨⟨⟨ct 30 (by omega) [] (by decide +kernel) (by decide) (by decide), ct 31 (by omega) [43] (by decide +kernel) (by decide) (by decide), ct 32 (by omega) [32, 45, 32] (by decide +kernel) (by decide) (by decide), ct 33 (by omega) [42, 32] (by decide +kernel) (by decide) (by decide), ct 34 (by omega) [47] (by decide +kernel) (by decide) (by decide), ct 35 (by omega) [40] (by decide +kernel) (by decide) (by decide), ct 36 (by omega) [41] (by decide +kernel) (by decide) (by decide)⟩, ⟨⟨d1, d2.trans l0, fun j hj => (d3 j (by omega)).trans (t0 j hj)⟩, e1, e2.trans l1, fun j hj => (e3 j (by omega)).trans (t1 j hj)⟩, f1, f2.trans l2, fun j hj => ?_⟩, ⟨ct 13 (by omega) [32] (by decide +kernel) (by decide) (by decide), ct 14 (by omega) (wB 0 ++ [59]) (by decide +kernel) (by decide) (by decide), ct 15 (by omega) (wB 1) (by decide +kernel) (by decide) (by decide), ct 16 (by omega) [59] (by decide +kernel) (by decide) (by decide), ct 17 (by omega) (wB 2) (by decide +kernel) (by decide) (by decide), ct 18 (by omega) [] (by decide +kernel) (by decide) (by decide), ct 19 (by omega) (wB 3) (by decide +kernel) (by decide) (by decide), ct 20 (by omega) (wB 9 ++ [32]) (by decide +kernel) (by decide) (by decide), ct 21 (by omega) [32, 59] (by decide +kernel) (by decide) (by decide)⟩, g1, g2.trans l3, fun j hj => ?_⟩
  · have e := f3 j (by omega)
    rcases (by omega : j = 0 ∨ j = 1 ∨ j = 2 ∨ j = 3) with rfl | rfl | rfl | rfl
    · exact ⟨_, e, ct 17 (by omega) (vword 0) (by decide +kernel) (by decide) (by decide)⟩
    · exact ⟨_, e, ct 22 (by omega) (vword 1) (by decide +kernel) (by decide) (by decide)⟩
    · exact ⟨_, e, ct 23 (by omega) (vword 2) (by decide +kernel) (by decide) (by decide)⟩
    · exact ⟨_, e, ct 24 (by omega) (vword 3) (by decide +kernel) (by decide) (by decide)⟩
  · have e := g3 j (by omega)
    rcases (by omega : j = 0 ∨ j = 1 ∨ j = 2 ∨ j = 3 ∨ j = 4) with rfl | rfl | rfl | rfl | rfl
    · exact ⟨_, e, ct 25 (by omega) (wB 4) (by decide +kernel) (by decide) (by decide)⟩
    · exact ⟨_, e, ct 26 (by omega) (wB 5) (by decide +kernel) (by decide) (by decide)⟩
    · exact ⟨_, e, ct 27 (by omega) (wB 6) (by decide +kernel) (by decide) (by decide)⟩
    · exact ⟨_, e, ct 28 (by omega) (wB 7) (by decide +kernel) (by decide) (by decide)⟩
    · exact ⟨_, e, ct 29 (by omega) (wB 8) (by decide +kernel) (by decide) (by decide)⟩
theorem st_fz (hK : xK G U) (hX : xC G U H) (hB : xB G = H.size) : ∃ (Y0 : XY) (N0 : XN), xH G Y0 N0 H ∧ kc Y0 (xB G) = 9 ∧ FKz G Y0 N0 := by
  obtain ⟨F, hF⟩ := Classical.axiomOfChoice (st_ca G)
  obtain ⟨x1, -, -, -, -, -, -, -, -, -, -, -, -, -, -, x16, x17, -⟩ := hX
  have TB : ∀ i, (i < 37 ∨ i = 100 ∨ i = 101) → va_T .byte (xSv G i) (xBy i).length (fun j => .int ((xBy i).getD j 0)) (xA G) U H := fun i hi => by
    rcases hi with hi | hi
    · rw [xBy_lt hi]
      exact (x1 i hi).2.2.2
    · exact x16 i hi
  have lt : ∀ {ty : FieldType} {t N : Nat} {f : Nat → Value}, va_T ty t N f (xA G) U H → t ≠ xB G := fun {ty t N f} h e => by
    obtain ⟨cell, h1, -⟩ := h
    have := (Array.getElem?_eq_some_iff.mp h1).1
    omega
  have kS : ∀ i, i < 37 → (F (xS G i)).1.1 = 40 ∧ (F (xS G i)).2.1 0 = some (xSv G i) ∧ ∀ j, (F (xS G i)).2.2 j = 0 := fun i hi => by
    obtain ⟨y1, y2, y3, y4⟩ := x1 i hi
    rcases (hF (xS G i)).1 with ⟨-, h, -⟩ | ⟨-, h⟩ | ⟨h1, ⟨i', h2, h3, h4⟩, h5⟩ | ⟨-, i', h2, h3, -⟩ | ⟨-, i', h2, h3, -⟩
    · exact absurd rfl (h i hi)
    · obtain ⟨cell, g1, -⟩ := y1
      have := (Array.getElem?_eq_some_iff.mp g1).1
      omega
    · have y3' := (x1 i' h2).2.2.1
      rw [← h3] at y3'
      have e : Value.ref (xSv G i) = Value.ref (xSv G i') := st_val y3 y3'
      have e' : xSv G i = xSv G i' := by injection e
      exact ⟨h1, by rw [e']; exact h4, h5⟩
    · have := TB i' h2
      rw [← h3] at this
      exact (st_apart hK y1 this).elim
    · have := x17 i' h2
      rw [← h3] at this
      exact (st_apart hK y1 this).elim
  have kB : ∀ i, (i < 37 ∨ i = 100 ∨ i = 101) → (F (xSv G i)).1.1 = 41 ∧ (F (xSv G i)).1.2 = (xBy i).length ∧ ∀ j, j < (xBy i).length → (F (xSv G i)).2.2 j = (xBy i).getD j 0 := fun i hi => by
    have y := TB i hi
    rcases (hF (xSv G i)).1 with ⟨-, -, h⟩ | ⟨-, h⟩ | ⟨h1, ⟨i', h2, h3, h4⟩, h5⟩ | ⟨h1, i', h2, h3, h4, h5⟩ | ⟨-, i', h2, h3, -⟩
    · exact absurd rfl (h i (by omega))
    · exact absurd h (lt y)
    · have := (x1 i' h2).1
      rw [← h3] at this
      exact (st_apart hK this y).elim
    · have y' := TB i' h2
      rw [← h3] at y'
      obtain ⟨e1, e2⟩ := st_same (by have := xBy_len i; omega) (by have := xBy_len i'; omega) y y'
      refine ⟨h1, h4.trans e1.symm, fun j hj => (h5 j).trans ?_⟩
      have e3 : Value.int ((xBy i).getD j 0) = Value.int ((xBy i').getD j 0) := e2 j hj
      injection e3 with e4
      exact e4.symm
    · have := x17 i' h2
      rw [← h3] at this
      exact (st_typ (ty := .int) y this).elim
  have kR : ∀ i, (i = 102 ∨ i = 103) → (F (xSv G i)).1.1 = 42 ∧ (F (xSv G i)).1.2 = (xRy i).length ∧ ∀ j, j < (xRy i).length → (F (xSv G i)).2.1 j = some (xS G ((xRy i).getD j 0)) := fun i hi => by
    have y := x17 i hi
    rcases (hF (xSv G i)).1 with ⟨-, -, h⟩ | ⟨-, h⟩ | ⟨h1, ⟨i', h2, h3, h4⟩, h5⟩ | ⟨h1, i', h2, h3, h4, h5⟩ | ⟨h1, i', h2, h3, h4, h5⟩
    · exact absurd rfl (h i (by omega))
    · exact absurd h (lt y)
    · have := (x1 i' h2).1
      rw [← h3] at this
      exact (st_apart hK this y).elim
    · have := TB i' h2
      rw [← h3] at this
      exact (st_typ (ty := .int) this y).elim
    · have y' := x17 i' h2
      rw [← h3] at y'
      obtain ⟨e1, e2⟩ := st_same (by have := xRy_len i; omega) (by have := xRy_len i'; omega) y y'
      refine ⟨h1, h4.trans e1.symm, fun j hj => (h5 j).trans ?_⟩
      have e3 : Value.ref (xS G ((xRy i).getD j 0)) = Value.ref (xS G ((xRy i').getD j 0)) := e2 j hj
      injection e3 with e4
      rw [e4]
  refine ⟨(fun a j => (F a).2.1 j, fun a => (F a).1), (fun a j => (F a).2.2 j, fun _ _ => 0), ⟨fun a => ?_, fun a ha hz => ?_⟩, ?_, fun i hi => ⟨(kS i hi).1, (kS i hi).2.1, (kS i hi).2.2 1⟩, fun i hi => kB i hi, fun i hi => kR i hi⟩
  · rcases (hF a).1 with ⟨h, -⟩ | ⟨h, h'⟩ | ⟨h1, ⟨i, h2, h3, h4⟩, h5⟩ | ⟨h1, i, h2, h3, h4, h5⟩ | ⟨h1, i, h2, h3, h4, h5⟩
    · have k0 : kc ((fun a j => (F a).2.1 j, fun a => (F a).1) : XY) a = 0 := by
        show (F a).1.1 = 0
        rw [h]
      unfold xAt
      rw [k0]
      exact trivial
    · have k9 : kc ((fun a j => (F a).2.1 j, fun a => (F a).1) : XY) a = 9 := by
        show (F a).1.1 = 9
        rw [h]
      unfold xAt
      rw [k9]
      exact (h'.trans hB).symm
    · exact xAt_40 h1 ⟨i, h2, h3, h4, h5 1⟩
    · exact xAt_41 h1 ⟨i, h2, h3, h4, fun j _ => h5 j⟩
    · exact xAt_42 h1 ⟨i, h2, h3, h4, fun j _ => h5 j⟩
  · have ha' : ¬ (F a).1.1 = 0 := ha
    have hz' : frz (F a).1.1 = false := hz
    rcases (hF a).1 with ⟨h, -⟩ | ⟨h, h'⟩ | ⟨h1, -⟩ | ⟨h1, -⟩ | ⟨h1, -⟩
    · rw [h] at ha'; exact absurd rfl ha'
    · rw [h']; exact Nat.le_refl _
    · rw [h1] at hz'; exact absurd hz' (by decide)
    · rw [h1] at hz'; exact absurd hz' (by decide)
    · rw [h1] at hz'; exact absurd hz' (by decide)
  · show (F (xB G)).1.1 = 9
    rw [(hF (xB G)).2 rfl]
end FZ9
