/-! THE DESK: its cells by groups, wherever they lie -/
theorem ckT {α : Type} {i : Decidable True} {a : Option α} : @ck α True i a = a := by
  unfold ck
  exact if_pos trivial
theorem ofN (n : Nat) : Int32.ofNat n = nI n := (rfl)
theorem bd_of {α β : Type} {a : Option α} {x : α} (h : a = some x) (f : α → Option β) : bd a f = f x := by rw [h]; rfl
theorem bd2_of {α β γ : Type} {a : Option (α × β)} {x : α} {y : β} (h : a = some (x, y)) (f : α → β → Option γ) : bd2 a f = f x y := by rw [h]; rfl
theorem bd3_of {α β γ δ : Type} {a : Option (α × β × γ)} {x : α} {y : β} {z : γ} (h : a = some (x, y, z)) (f : α → β → γ → Option δ) : bd3 a f = f x y z := by rw [h]; rfl
theorem bd4_of {α β γ ε δ : Type} {a : Option (α × β × γ × ε)} {x : α} {y : β} {z : γ} {w : ε} (h : a = some (x, y, z, w)) (f : α → β → γ → ε → Option δ) : bd4 a f = f x y z w := by rw [h]; rfl
def us (H L M R g : Nat) : Prop := g < 2 ∨ (2 ≤ g ∧ g < 2 + H) ∨ (8 ≤ g ∧ g < 8 + L) ∨ (16 ≤ g ∧ g < 16 + M) ∨ (24 ≤ g ∧ g < 24 + R) ∨ (84 ≤ g ∧ g < 88)
def PI (pl : Nat → Nat) (H L M R : Nat) : Prop := ∀ g g', us H L M R g → us H L M R g' → pl g = pl g' → g = g'
/-- the memory with the groups' cells c -/
noncomputable def sp (N : XN) (pl : Nat → Nat) (H L R : Nat) (c : Nat → Nat → Int32) : XN := (fun a j => @dite _ (∃ g, us H L L R g ∧ pl g = a) (Classical.propDecidable _) (fun h => c (Classical.choose h) j) (fun _ => N.1 a j), N.2)
section SP
variable {N : XN} {pl : Nat → Nat} {H L R : Nat} {c : Nat → Nat → Int32} {g g' k k' r l i : Nat} {v : Int32}
theorem gi_spg (hp : PI pl H L L R) (hg : us H L L R g) : gi (sp N pl H L R c) (pl g) k = c g k := by
  have h : ∃ g', us H L L R g' ∧ pl g' = pl g := ⟨g, hg, rfl⟩
  show (@dite _ (∃ g', us H L L R g' ∧ pl g' = pl g) (Classical.propDecidable _) (fun h => c (Classical.choose h) k) (fun _ => N.1 (pl g) k)) = _
  rw [dif_pos h]
  have h2 := Classical.choose_spec h
  rw [hp _ _ h2.1 hg h2.2]
theorem gi_spn {a : Nat} (ha : ∀ g, us H L L R g → pl g ≠ a) : gi (sp N pl H L R c) a k = gi N a k := by
  show (@dite _ (∃ g', us H L L R g' ∧ pl g' = a) (Classical.propDecidable _) (fun h => c (Classical.choose h) k) (fun _ => N.1 a k)) = _
  rw [dif_neg (fun ⟨g, h1, h2⟩ => ha g h1 h2)]
  rfl
theorem si_spg (hp : PI pl H L L R) (hg : us H L L R g) : si (sp N pl H L R c) (pl g) k v = sp N pl H L R (up2 c g k v) := by
  refine Prod.ext ?_ rfl
  funext a j
  show (if a = pl g ∧ j = k then v else gi (sp N pl H L R c) a j) = gi (sp N pl H L R (up2 c g k v)) a j
  by_cases q : ∃ g', us H L L R g' ∧ pl g' = a
  · obtain ⟨g', h1, rfl⟩ := q
    rw [gi_spg hp h1, gi_spg hp h1]
    by_cases e : g' = g
    · subst e
      by_cases e2 : j = k
      · subst e2; rw [if_pos ⟨rfl, rfl⟩, up2_s]
      · rw [if_neg (fun z => e2 z.2), up2_n _ _ (Or.inr e2)]
    · rw [if_neg (fun z => e (hp _ _ h1 hg z.1)), up2_n _ _ (Or.inl e)]
  · rw [gi_spn (fun g' h1 h2 => q ⟨g', h1, h2⟩), gi_spn (fun g' h1 h2 => q ⟨g', h1, h2⟩), if_neg (fun z => q ⟨g, hg, z.1.symm⟩)]
theorem sp_self : sp N pl H L R (fun g k => gi N (pl g) k) = N := by
  refine Prod.ext ?_ rfl
  funext a j
  show gi (sp N pl H L R (fun g k => gi N (pl g) k)) a j = gi N a j
  by_cases q : ∃ g', us H L L R g' ∧ pl g' = a
  · show (@dite _ (∃ g', us H L L R g' ∧ pl g' = a) (Classical.propDecidable _) (fun h => gi N (pl (Classical.choose h)) j) (fun _ => N.1 a j)) = _
    rw [dif_pos q, (Classical.choose_spec q).2]
  · exact gi_spn (fun g' h1 h2 => q ⟨g', h1, h2⟩)
theorem gi_sp0 (hp : PI pl H L L R) : gi (sp N pl H L R c) (pl 0) k = c 0 k := gi_spg hp (by unfold us; omega)
theorem gi_sp1 (hp : PI pl H L L R) : gi (sp N pl H L R c) (pl 1) k = c 1 k := gi_spg hp (by unfold us; omega)
theorem gi_sph (hp : PI pl H L L R) (hi : i < H) : gi (sp N pl H L R c) (pl (2 + i)) k = c (2 + i) k := gi_spg hp (by unfold us; omega)
theorem gi_spl (hp : PI pl H L L R) (hi : l < L) : gi (sp N pl H L R c) (pl (8 + l)) k = c (8 + l) k := gi_spg hp (by unfold us; omega)
theorem gi_spt (hp : PI pl H L L R) (hi : l < L) : gi (sp N pl H L R c) (pl (16 + l)) k = c (16 + l) k := gi_spg hp (by unfold us; omega)
theorem gi_spr (hp : PI pl H L L R) (hi : r < R) : gi (sp N pl H L R c) (pl (24 + r)) k = c (24 + r) k := gi_spg hp (by unfold us; omega)
theorem si_sp0 (hp : PI pl H L L R) : si (sp N pl H L R c) (pl 0) k v = sp N pl H L R (up2 c 0 k v) := si_spg hp (by unfold us; omega)
theorem si_sph (hp : PI pl H L L R) (hi : i < H) : si (sp N pl H L R c) (pl (2 + i)) k v = sp N pl H L R (up2 c (2 + i) k v) := si_spg hp (by unfold us; omega)
theorem si_spl (hp : PI pl H L L R) (hi : l < L) : si (sp N pl H L R c) (pl (8 + l)) k v = sp N pl H L R (up2 c (8 + l) k v) := si_spg hp (by unfold us; omega)
theorem si_spr (hp : PI pl H L L R) (hi : r < R) : si (sp N pl H L R c) (pl (24 + r)) k v = sp N pl H L R (up2 c (24 + r) k v) := si_spg hp (by unfold us; omega)
end SP
/-- how the groups hang together -/
def kg (g : Nat) : Nat := if g = 0 then 18 else if 84 ≤ g then 8 else 1
def ng (H L M R : Nat) (T : Nat → Nat) (g : Nat) : Nat := if g = 1 then 5 else if g < 8 then 6 else if g < 16 then 3 else if g < 24 then T (g - 16) else if g < 84 then 8 else if g = 84 then H else if g = 85 then L else if g = 86 then M else R
def pg (g : Nat) : Nat := if g = 1 then 0 else if g < 8 then 84 else if g < 16 then 85 else if g < 24 then 86 else if g < 84 then 87 else 0
def og (g : Nat) : Nat := if g = 1 then 2 else if g < 8 then g - 2 else if g < 16 then g - 8 else if g < 24 then g - 16 else if g < 84 then g - 24 else g - 81
def DY (Y : XY) (pl : Nat → Nat) (H L M R : Nat) (T : Nat → Nat) : Prop :=
  (H ≤ 6 ∧ L ≤ 8 ∧ M ≤ 8 ∧ R ≤ 60) ∧ PI pl H L M R ∧ ∀ g, us H L M R g → kc Y (pl g) = kg g ∧ (g ≠ 0 → kn Y (pl g) = ng H L M R T g ∧ gr Y (pl (pg g)) (og g) = some (pl g))
theorem gp_of {Y : XY} {a k b : Nat} (h : gr Y a k = some b) : gp Y a k = b := by
  unfold gr at h
  unfold gp
  rw [h]
  rfl
section DYS
variable {Y : XY} {pl : Nat → Nat} {H L M R : Nat} {T : Nat → Nat} {i l r : Nat}
theorem DY.H6 (h : DY Y pl H L M R T) : H ≤ 6 := h.1.1
theorem DY.L8 (h : DY Y pl H L M R T) : L ≤ 8 := h.1.2.1
theorem DY.M8 (h : DY Y pl H L M R T) : M ≤ 8 := h.1.2.2.1
theorem DY.R60 (h : DY Y pl H L M R T) : R ≤ 60 := h.1.2.2.2
theorem DY.P (h : DY Y pl H L M R T) : PI pl H L M R := h.2.1
theorem DY.k0 (h : DY Y pl H L M R T) : kc Y (pl (0)) = 18 := by
  have hb := h.1
  rw [(h.2.2 (0) (by unfold us; omega)).1]
  unfold kg
  (repeat' split) <;> omega
theorem DY.g2 (h : DY Y pl H L M R T) : gr Y (pl (0)) (2) = some (pl (1)) := by
  have hb := h.1
  have e := ((h.2.2 (1) (by unfold us; omega)).2 (by omega)).2
  have e1 : pg (1) = 0 := by
    unfold pg
    (repeat' split) <;> omega
  have e2 : og (1) = 2 := by
    unfold og
    (repeat' split) <;> omega
  rw [e1, e2] at e
  exact e
theorem DY.p2 (h : DY Y pl H L M R T) : gp Y (pl 0) 2 = pl 1 := gp_of h.g2
theorem DY.g3 (h : DY Y pl H L M R T) : gr Y (pl (0)) (3) = some (pl (84)) := by
  have hb := h.1
  have e := ((h.2.2 (84) (by unfold us; omega)).2 (by omega)).2
  have e1 : pg (84) = 0 := by
    unfold pg
    (repeat' split) <;> omega
  have e2 : og (84) = 3 := by
    unfold og
    (repeat' split) <;> omega
  rw [e1, e2] at e
  exact e
theorem DY.p3 (h : DY Y pl H L M R T) : gp Y (pl 0) 3 = pl 84 := gp_of h.g3
theorem DY.g4 (h : DY Y pl H L M R T) : gr Y (pl (0)) (4) = some (pl (85)) := by
  have hb := h.1
  have e := ((h.2.2 (85) (by unfold us; omega)).2 (by omega)).2
  have e1 : pg (85) = 0 := by
    unfold pg
    (repeat' split) <;> omega
  have e2 : og (85) = 4 := by
    unfold og
    (repeat' split) <;> omega
  rw [e1, e2] at e
  exact e
theorem DY.p4 (h : DY Y pl H L M R T) : gp Y (pl 0) 4 = pl 85 := gp_of h.g4
theorem DY.g5 (h : DY Y pl H L M R T) : gr Y (pl (0)) (5) = some (pl (86)) := by
  have hb := h.1
  have e := ((h.2.2 (86) (by unfold us; omega)).2 (by omega)).2
  have e1 : pg (86) = 0 := by
    unfold pg
    (repeat' split) <;> omega
  have e2 : og (86) = 5 := by
    unfold og
    (repeat' split) <;> omega
  rw [e1, e2] at e
  exact e
theorem DY.p5 (h : DY Y pl H L M R T) : gp Y (pl 0) 5 = pl 86 := gp_of h.g5
theorem DY.g6 (h : DY Y pl H L M R T) : gr Y (pl (0)) (6) = some (pl (87)) := by
  have hb := h.1
  have e := ((h.2.2 (87) (by unfold us; omega)).2 (by omega)).2
  have e1 : pg (87) = 0 := by
    unfold pg
    (repeat' split) <;> omega
  have e2 : og (87) = 6 := by
    unfold og
    (repeat' split) <;> omega
  rw [e1, e2] at e
  exact e
theorem DY.p6 (h : DY Y pl H L M R T) : gp Y (pl 0) 6 = pl 87 := gp_of h.g6
theorem DY.k1 (h : DY Y pl H L M R T) : kc Y (pl (1)) = 1 := by
  have hb := h.1
  rw [(h.2.2 (1) (by unfold us; omega)).1]
  unfold kg
  (repeat' split) <;> omega
theorem DY.n1 (h : DY Y pl H L M R T) : kn Y (pl (1)) = 5 := by
  have hb := h.1
  rw [((h.2.2 (1) (by unfold us; omega)).2 (by omega)).1]
  unfold ng
  (repeat' split) <;> first | omega | rfl
theorem DY.k84 (h : DY Y pl H L M R T) : kc Y (pl (84)) = 8 := by
  have hb := h.1
  rw [(h.2.2 (84) (by unfold us; omega)).1]
  unfold kg
  (repeat' split) <;> omega
theorem DY.n84 (h : DY Y pl H L M R T) : kn Y (pl (84)) = H := by
  have hb := h.1
  rw [((h.2.2 (84) (by unfold us; omega)).2 (by omega)).1]
  unfold ng
  (repeat' split) <;> first | omega | rfl
theorem DY.k85 (h : DY Y pl H L M R T) : kc Y (pl (85)) = 8 := by
  have hb := h.1
  rw [(h.2.2 (85) (by unfold us; omega)).1]
  unfold kg
  (repeat' split) <;> omega
theorem DY.n85 (h : DY Y pl H L M R T) : kn Y (pl (85)) = L := by
  have hb := h.1
  rw [((h.2.2 (85) (by unfold us; omega)).2 (by omega)).1]
  unfold ng
  (repeat' split) <;> first | omega | rfl
theorem DY.k86 (h : DY Y pl H L M R T) : kc Y (pl (86)) = 8 := by
  have hb := h.1
  rw [(h.2.2 (86) (by unfold us; omega)).1]
  unfold kg
  (repeat' split) <;> omega
theorem DY.n86 (h : DY Y pl H L M R T) : kn Y (pl (86)) = M := by
  have hb := h.1
  rw [((h.2.2 (86) (by unfold us; omega)).2 (by omega)).1]
  unfold ng
  (repeat' split) <;> first | omega | rfl
theorem DY.k87 (h : DY Y pl H L M R T) : kc Y (pl (87)) = 8 := by
  have hb := h.1
  rw [(h.2.2 (87) (by unfold us; omega)).1]
  unfold kg
  (repeat' split) <;> omega
theorem DY.n87 (h : DY Y pl H L M R T) : kn Y (pl (87)) = R := by
  have hb := h.1
  rw [((h.2.2 (87) (by unfold us; omega)).2 (by omega)).1]
  unfold ng
  (repeat' split) <;> first | omega | rfl
theorem DY.gh (h : DY Y pl H L M R T) (hi : i < H) : gr Y (pl (84)) (i) = some (pl (2 + i)) := by
  have hb := h.1
  have e := ((h.2.2 (2 + i) (by unfold us; omega)).2 (by omega)).2
  have e1 : pg (2 + i) = 84 := by
    unfold pg
    (repeat' split) <;> omega
  have e2 : og (2 + i) = i := by
    unfold og
    (repeat' split) <;> omega
  rw [e1, e2] at e
  exact e
theorem DY.ph (h : DY Y pl H L M R T) (hi : i < H) : gp Y (pl 84) i = pl (2 + i) := gp_of (h.gh hi)
theorem DY.kh (h : DY Y pl H L M R T) (hi : i < H) : kc Y (pl (2 + i)) = 1 := by
  have hb := h.1
  rw [(h.2.2 (2 + i) (by unfold us; omega)).1]
  unfold kg
  (repeat' split) <;> omega
theorem DY.nh (h : DY Y pl H L M R T) (hi : i < H) : kn Y (pl (2 + i)) = 6 := by
  have hb := h.1
  rw [((h.2.2 (2 + i) (by unfold us; omega)).2 (by omega)).1]
  unfold ng
  (repeat' split) <;> first | omega | rfl
theorem DY.gl (h : DY Y pl H L M R T) (hi : l < L) : gr Y (pl (85)) (l) = some (pl (8 + l)) := by
  have hb := h.1
  have e := ((h.2.2 (8 + l) (by unfold us; omega)).2 (by omega)).2
  have e1 : pg (8 + l) = 85 := by
    unfold pg
    (repeat' split) <;> omega
  have e2 : og (8 + l) = l := by
    unfold og
    (repeat' split) <;> omega
  rw [e1, e2] at e
  exact e
theorem DY.pl' (h : DY Y pl H L M R T) (hi : l < L) : gp Y (pl 85) l = pl (8 + l) := gp_of (h.gl hi)
theorem DY.kl (h : DY Y pl H L M R T) (hi : l < L) : kc Y (pl (8 + l)) = 1 := by
  have hb := h.1
  rw [(h.2.2 (8 + l) (by unfold us; omega)).1]
  unfold kg
  (repeat' split) <;> omega
theorem DY.nl (h : DY Y pl H L M R T) (hi : l < L) : kn Y (pl (8 + l)) = 3 := by
  have hb := h.1
  rw [((h.2.2 (8 + l) (by unfold us; omega)).2 (by omega)).1]
  unfold ng
  (repeat' split) <;> first | omega | rfl
theorem DY.gt (h : DY Y pl H L M R T) (hi : l < M) : gr Y (pl (86)) (l) = some (pl (16 + l)) := by
  have hb := h.1
  have e := ((h.2.2 (16 + l) (by unfold us; omega)).2 (by omega)).2
  have e1 : pg (16 + l) = 86 := by
    unfold pg
    (repeat' split) <;> omega
  have e2 : og (16 + l) = l := by
    unfold og
    (repeat' split) <;> omega
  rw [e1, e2] at e
  exact e
theorem DY.pt (h : DY Y pl H L M R T) (hi : l < M) : gp Y (pl 86) l = pl (16 + l) := gp_of (h.gt hi)
theorem DY.kt (h : DY Y pl H L M R T) (hi : l < M) : kc Y (pl (16 + l)) = 1 := by
  have hb := h.1
  rw [(h.2.2 (16 + l) (by unfold us; omega)).1]
  unfold kg
  (repeat' split) <;> omega
theorem DY.nt (h : DY Y pl H L M R T) (hi : l < M) : kn Y (pl (16 + l)) = T l := by
  have hb := h.1
  rw [((h.2.2 (16 + l) (by unfold us; omega)).2 (by omega)).1]
  unfold ng
  (repeat' split) <;> first | omega | rfl | (congr 1; omega)
theorem DY.gr' (h : DY Y pl H L M R T) (hi : r < R) : gr Y (pl (87)) (r) = some (pl (24 + r)) := by
  have hb := h.1
  have e := ((h.2.2 (24 + r) (by unfold us; omega)).2 (by omega)).2
  have e1 : pg (24 + r) = 87 := by
    unfold pg
    (repeat' split) <;> omega
  have e2 : og (24 + r) = r := by
    unfold og
    (repeat' split) <;> omega
  rw [e1, e2] at e
  exact e
theorem DY.pr (h : DY Y pl H L M R T) (hi : r < R) : gp Y (pl 87) r = pl (24 + r) := gp_of (h.gr' hi)
theorem DY.kr (h : DY Y pl H L M R T) (hi : r < R) : kc Y (pl (24 + r)) = 1 := by
  have hb := h.1
  rw [(h.2.2 (24 + r) (by unfold us; omega)).1]
  unfold kg
  (repeat' split) <;> omega
theorem DY.nr (h : DY Y pl H L M R T) (hi : r < R) : kn Y (pl (24 + r)) = 8 := by
  have hb := h.1
  rw [((h.2.2 (24 + r) (by unfold us; omega)).2 (by omega)).1]
  unfold ng
  (repeat' split) <;> first | omega | rfl
end DYS
/-! what the cells say of the row -/
def vd (H L M R : Nat) (T : Nat → Nat) (g k : Nat) : Prop := (g = 0 ∧ k < 2) ∨ (g = 1 ∧ k < 5) ∨ (2 ≤ g ∧ g < 2 + H ∧ k < 6) ∨ (8 ≤ g ∧ g < 8 + L ∧ k < 3) ∨ (16 ≤ g ∧ g < 16 + M ∧ k < T (g - 16)) ∨ (24 ≤ g ∧ g < 24 + R ∧ k < 8)
def ixg (g k : Nat) : Nat := if g = 0 then (if k = 0 then 0 else 4) else if g = 1 then 5 + k else if g < 8 then 12 + 6 * (g - 2) + k else if g < 16 then 48 + 7 * (g - 8) + k else if g < 24 then 52 + 7 * (g - 16) + k else 104 + 8 * (g - 24) + k
def DN (H L M R : Nat) (T : Nat → Nat) (d : XD) (c : Nat → Nat → Int32) : Prop := (H ≤ 6 ∧ L ≤ 8 ∧ M ≤ 8 ∧ R ≤ 60 ∧ ∀ l, l < M → T l ≤ 3) ∧ ∀ g k, vd H L M R T g k → c g k = d (ixg g k)
theorem ixg_cases {H L M R : Nat} {T : Nat → Nat} (hb : H ≤ 6 ∧ L ≤ 8 ∧ M ≤ 8 ∧ R ≤ 60 ∧ ∀ l, l < M → T l ≤ 3) {g k : Nat} (h : vd H L M R T g k) : (g = 0 ∧ k = 0 ∧ ixg g k = 0) ∨ (g = 0 ∧ k = 1 ∧ ixg g k = 4) ∨ (g = 1 ∧ k < 5 ∧ ixg g k = 5 + k) ∨ (∃ i, i < 6 ∧ g = 2 + i ∧ k < 6 ∧ ixg g k = 12 + 6 * i + k) ∨ (∃ i, i < 8 ∧ g = 8 + i ∧ k < 3 ∧ ixg g k = 48 + 7 * i + k) ∨ (∃ i, i < 8 ∧ g = 16 + i ∧ k < 3 ∧ ixg g k = 52 + 7 * i + k) ∨ (∃ i, i < 60 ∧ g = 24 + i ∧ k < 8 ∧ ixg g k = 104 + 8 * i + k) := by
  obtain ⟨h1, h2, h0, h3, h4⟩ := hb
  unfold ixg
  rcases h with ⟨rfl, h⟩ | ⟨rfl, h⟩ | ⟨ha, hb, hc⟩ | ⟨ha, hb, hc⟩ | ⟨ha, hb, hc⟩ | ⟨ha, hb, hc⟩
  · by_cases q : k = 0
    · exact Or.inl ⟨rfl, q, by simp [q]⟩
    · exact Or.inr (Or.inl ⟨rfl, by omega, by simp [q]⟩)
  · exact Or.inr (Or.inr (Or.inl ⟨rfl, h, by simp⟩))
  · refine Or.inr (Or.inr (Or.inr (Or.inl ⟨g - 2, by omega, by omega, hc, ?_⟩)))
    rw [if_neg (by omega), if_neg (by omega), if_pos (by omega)]
  · refine Or.inr (Or.inr (Or.inr (Or.inr (Or.inl ⟨g - 8, by omega, by omega, hc, ?_⟩))))
    rw [if_neg (by omega), if_neg (by omega), if_neg (by omega), if_pos (by omega)]
  · have := h4 (g - 16) (by omega)
    refine Or.inr (Or.inr (Or.inr (Or.inr (Or.inr (Or.inl ⟨g - 16, by omega, by omega, by omega, ?_⟩)))))
    rw [if_neg (by omega), if_neg (by omega), if_neg (by omega), if_neg (by omega), if_pos (by omega)]
  · refine Or.inr (Or.inr (Or.inr (Or.inr (Or.inr (Or.inr ⟨g - 24, by omega, by omega, hc, ?_⟩)))))
    rw [if_neg (by omega), if_neg (by omega), if_neg (by omega), if_neg (by omega), if_neg (by omega)]
theorem ixg_inj {H L M R : Nat} {T : Nat → Nat} (hb : H ≤ 6 ∧ L ≤ 8 ∧ M ≤ 8 ∧ R ≤ 60 ∧ ∀ l, l < M → T l ≤ 3) {g k g' k' : Nat} (h : vd H L M R T g k) (h' : vd H L M R T g' k') (e : ixg g k = ixg g' k') : g = g' ∧ k = k' := by
  rcases ixg_cases hb h with ⟨a1, a2, a3⟩ | ⟨a1, a2, a3⟩ | ⟨a1, a2, a3⟩ | ⟨i, a0, a1, a2, a3⟩ | ⟨i, a0, a1, a2, a3⟩ | ⟨i, a0, a1, a2, a3⟩ | ⟨i, a0, a1, a2, a3⟩ <;> rcases ixg_cases hb h' with ⟨b1, b2, b3⟩ | ⟨b1, b2, b3⟩ | ⟨b1, b2, b3⟩ | ⟨i', b0, b1, b2, b3⟩ | ⟨i', b0, b1, b2, b3⟩ | ⟨i', b0, b1, b2, b3⟩ | ⟨i', b0, b1, b2, b3⟩ <;> (rw [a3, b3] at e; omega)
section DNS
variable {H L M R : Nat} {T : Nat → Nat} {d : XD} {c : Nat → Nat → Int32} {i l r k : Nat} {v : Int32}
theorem DN.up (h : DN H L M R T d c) {g : Nat} (hv : vd H L M R T g k) : DN H L M R T (upd d (ixg g k) v) (up2 c g k v) := by
  refine ⟨h.1, fun g' k' h' => ?_⟩
  by_cases e : g' = g ∧ k' = k
  · obtain ⟨rfl, rfl⟩ := e
    rw [up2_s, upd_s]
  · have h2 : g' ≠ g ∨ k' ≠ k := by
      by_cases e1 : g' = g
      · exact Or.inr (fun z => e ⟨e1, z⟩)
      · exact Or.inl e1
    rw [up2_n _ _ h2, upd_n (fun z => e (ixg_inj h.1 h' hv z))]
    exact h.2 g' k' h'
/-- cells outside what the row tells -/
theorem DN.junk (h : DN H L M R T d c) {g : Nat} (hv : ¬ vd H L M R T g k) : DN H L M R T d (up2 c g k v) := ⟨h.1, fun g' k' h' => by
  have h2 : g' ≠ g ∨ k' ≠ k := by
    by_cases e1 : g' = g
    · exact Or.inr (fun z => hv (by rw [← e1, ← z]; exact h'))
    · exact Or.inl e1
  rw [up2_n _ _ h2]
  exact h.2 g' k' h'⟩
theorem DN.w0 (h : DN H L M R T d c) : c (0) 0 = d (0) := by
  have hb := h.1
  have := h.2 (0) 0 (by unfold vd; omega)
  rw [this]
  congr 1 <;> (unfold ixg; (repeat' split) <;> omega)
theorem DN.uw0 (h : DN H L M R T d c) : DN H L M R T (upd d (0) v) (up2 c (0) 0 v) := by
  have hb := h.1
  have e : ixg (0) 0 = 0 := by
    unfold ixg
    (repeat' split) <;> omega
  rw [← e]
  exact h.up (by unfold vd; omega)
theorem DN.w1 (h : DN H L M R T d c) : c (0) 1 = d (4) := by
  have hb := h.1
  have := h.2 (0) 1 (by unfold vd; omega)
  rw [this]
  congr 1 <;> (unfold ixg; (repeat' split) <;> omega)
theorem DN.uw1 (h : DN H L M R T d c) : DN H L M R T (upd d (4) v) (up2 c (0) 1 v) := by
  have hb := h.1
  have e : ixg (0) 1 = 4 := by
    unfold ixg
    (repeat' split) <;> omega
  rw [← e]
  exact h.up (by unfold vd; omega)
theorem DN.n0 (h : DN H L M R T d c) : c (1) 0 = d (5) := by
  have hb := h.1
  have := h.2 (1) 0 (by unfold vd; omega)
  rw [this]
  congr 1 <;> (unfold ixg; (repeat' split) <;> omega)
theorem DN.un0 (h : DN H L M R T d c) : DN H L M R T (upd d (5) v) (up2 c (1) 0 v) := by
  have hb := h.1
  have e : ixg (1) 0 = 5 := by
    unfold ixg
    (repeat' split) <;> omega
  rw [← e]
  exact h.up (by unfold vd; omega)
theorem DN.n1 (h : DN H L M R T d c) : c (1) 1 = d (6) := by
  have hb := h.1
  have := h.2 (1) 1 (by unfold vd; omega)
  rw [this]
  congr 1 <;> (unfold ixg; (repeat' split) <;> omega)
theorem DN.un1 (h : DN H L M R T d c) : DN H L M R T (upd d (6) v) (up2 c (1) 1 v) := by
  have hb := h.1
  have e : ixg (1) 1 = 6 := by
    unfold ixg
    (repeat' split) <;> omega
  rw [← e]
  exact h.up (by unfold vd; omega)
theorem DN.n2 (h : DN H L M R T d c) : c (1) 2 = d (7) := by
  have hb := h.1
  have := h.2 (1) 2 (by unfold vd; omega)
  rw [this]
  congr 1 <;> (unfold ixg; (repeat' split) <;> omega)
theorem DN.un2 (h : DN H L M R T d c) : DN H L M R T (upd d (7) v) (up2 c (1) 2 v) := by
  have hb := h.1
  have e : ixg (1) 2 = 7 := by
    unfold ixg
    (repeat' split) <;> omega
  rw [← e]
  exact h.up (by unfold vd; omega)
theorem DN.n3 (h : DN H L M R T d c) : c (1) 3 = d (8) := by
  have hb := h.1
  have := h.2 (1) 3 (by unfold vd; omega)
  rw [this]
  congr 1 <;> (unfold ixg; (repeat' split) <;> omega)
theorem DN.un3 (h : DN H L M R T d c) : DN H L M R T (upd d (8) v) (up2 c (1) 3 v) := by
  have hb := h.1
  have e : ixg (1) 3 = 8 := by
    unfold ixg
    (repeat' split) <;> omega
  rw [← e]
  exact h.up (by unfold vd; omega)
theorem DN.n4 (h : DN H L M R T d c) : c (1) 4 = d (9) := by
  have hb := h.1
  have := h.2 (1) 4 (by unfold vd; omega)
  rw [this]
  congr 1 <;> (unfold ixg; (repeat' split) <;> omega)
theorem DN.un4 (h : DN H L M R T d c) : DN H L M R T (upd d (9) v) (up2 c (1) 4 v) := by
  have hb := h.1
  have e : ixg (1) 4 = 9 := by
    unfold ixg
    (repeat' split) <;> omega
  rw [← e]
  exact h.up (by unfold vd; omega)
theorem DN.h0 (h : DN H L M R T d c) (hi : i < H) : c (2 + i) 0 = d (12 + 6 * i) := by
  have hb := h.1
  have := h.2 (2 + i) 0 (by unfold vd; omega)
  rw [this]
  congr 1 <;> (unfold ixg; (repeat' split) <;> omega)
theorem DN.uh0 (h : DN H L M R T d c) (hi : i < H) : DN H L M R T (upd d (12 + 6 * i) v) (up2 c (2 + i) 0 v) := by
  have hb := h.1
  have e : ixg (2 + i) 0 = 12 + 6 * i := by
    unfold ixg
    (repeat' split) <;> omega
  rw [← e]
  exact h.up (by unfold vd; omega)
theorem DN.h1 (h : DN H L M R T d c) (hi : i < H) : c (2 + i) 1 = d (13 + 6 * i) := by
  have hb := h.1
  have := h.2 (2 + i) 1 (by unfold vd; omega)
  rw [this]
  congr 1 <;> (unfold ixg; (repeat' split) <;> omega)
theorem DN.uh1 (h : DN H L M R T d c) (hi : i < H) : DN H L M R T (upd d (13 + 6 * i) v) (up2 c (2 + i) 1 v) := by
  have hb := h.1
  have e : ixg (2 + i) 1 = 13 + 6 * i := by
    unfold ixg
    (repeat' split) <;> omega
  rw [← e]
  exact h.up (by unfold vd; omega)
theorem DN.h2 (h : DN H L M R T d c) (hi : i < H) : c (2 + i) 2 = d (14 + 6 * i) := by
  have hb := h.1
  have := h.2 (2 + i) 2 (by unfold vd; omega)
  rw [this]
  congr 1 <;> (unfold ixg; (repeat' split) <;> omega)
theorem DN.uh2 (h : DN H L M R T d c) (hi : i < H) : DN H L M R T (upd d (14 + 6 * i) v) (up2 c (2 + i) 2 v) := by
  have hb := h.1
  have e : ixg (2 + i) 2 = 14 + 6 * i := by
    unfold ixg
    (repeat' split) <;> omega
  rw [← e]
  exact h.up (by unfold vd; omega)
theorem DN.h3 (h : DN H L M R T d c) (hi : i < H) : c (2 + i) 3 = d (15 + 6 * i) := by
  have hb := h.1
  have := h.2 (2 + i) 3 (by unfold vd; omega)
  rw [this]
  congr 1 <;> (unfold ixg; (repeat' split) <;> omega)
theorem DN.uh3 (h : DN H L M R T d c) (hi : i < H) : DN H L M R T (upd d (15 + 6 * i) v) (up2 c (2 + i) 3 v) := by
  have hb := h.1
  have e : ixg (2 + i) 3 = 15 + 6 * i := by
    unfold ixg
    (repeat' split) <;> omega
  rw [← e]
  exact h.up (by unfold vd; omega)
theorem DN.h4 (h : DN H L M R T d c) (hi : i < H) : c (2 + i) 4 = d (16 + 6 * i) := by
  have hb := h.1
  have := h.2 (2 + i) 4 (by unfold vd; omega)
  rw [this]
  congr 1 <;> (unfold ixg; (repeat' split) <;> omega)
theorem DN.uh4 (h : DN H L M R T d c) (hi : i < H) : DN H L M R T (upd d (16 + 6 * i) v) (up2 c (2 + i) 4 v) := by
  have hb := h.1
  have e : ixg (2 + i) 4 = 16 + 6 * i := by
    unfold ixg
    (repeat' split) <;> omega
  rw [← e]
  exact h.up (by unfold vd; omega)
theorem DN.h5 (h : DN H L M R T d c) (hi : i < H) : c (2 + i) 5 = d (17 + 6 * i) := by
  have hb := h.1
  have := h.2 (2 + i) 5 (by unfold vd; omega)
  rw [this]
  congr 1 <;> (unfold ixg; (repeat' split) <;> omega)
theorem DN.uh5 (h : DN H L M R T d c) (hi : i < H) : DN H L M R T (upd d (17 + 6 * i) v) (up2 c (2 + i) 5 v) := by
  have hb := h.1
  have e : ixg (2 + i) 5 = 17 + 6 * i := by
    unfold ixg
    (repeat' split) <;> omega
  rw [← e]
  exact h.up (by unfold vd; omega)
theorem DN.l0 (h : DN H L M R T d c) (hi : l < L) : c (8 + l) 0 = d (48 + 7 * l) := by
  have hb := h.1
  have := h.2 (8 + l) 0 (by unfold vd; omega)
  rw [this]
  congr 1 <;> (unfold ixg; (repeat' split) <;> omega)
theorem DN.ul0 (h : DN H L M R T d c) (hi : l < L) : DN H L M R T (upd d (48 + 7 * l) v) (up2 c (8 + l) 0 v) := by
  have hb := h.1
  have e : ixg (8 + l) 0 = 48 + 7 * l := by
    unfold ixg
    (repeat' split) <;> omega
  rw [← e]
  exact h.up (by unfold vd; omega)
theorem DN.l1 (h : DN H L M R T d c) (hi : l < L) : c (8 + l) 1 = d (49 + 7 * l) := by
  have hb := h.1
  have := h.2 (8 + l) 1 (by unfold vd; omega)
  rw [this]
  congr 1 <;> (unfold ixg; (repeat' split) <;> omega)
theorem DN.ul1 (h : DN H L M R T d c) (hi : l < L) : DN H L M R T (upd d (49 + 7 * l) v) (up2 c (8 + l) 1 v) := by
  have hb := h.1
  have e : ixg (8 + l) 1 = 49 + 7 * l := by
    unfold ixg
    (repeat' split) <;> omega
  rw [← e]
  exact h.up (by unfold vd; omega)
theorem DN.l2 (h : DN H L M R T d c) (hi : l < L) : c (8 + l) 2 = d (50 + 7 * l) := by
  have hb := h.1
  have := h.2 (8 + l) 2 (by unfold vd; omega)
  rw [this]
  congr 1 <;> (unfold ixg; (repeat' split) <;> omega)
theorem DN.ul2 (h : DN H L M R T d c) (hi : l < L) : DN H L M R T (upd d (50 + 7 * l) v) (up2 c (8 + l) 2 v) := by
  have hb := h.1
  have e : ixg (8 + l) 2 = 50 + 7 * l := by
    unfold ixg
    (repeat' split) <;> omega
  rw [← e]
  exact h.up (by unfold vd; omega)
theorem DN.r0 (h : DN H L M R T d c) (hi : r < R) : c (24 + r) 0 = d (104 + 8 * r) := by
  have hb := h.1
  have := h.2 (24 + r) 0 (by unfold vd; omega)
  rw [this]
  congr 1 <;> (unfold ixg; (repeat' split) <;> omega)
theorem DN.ur0 (h : DN H L M R T d c) (hi : r < R) : DN H L M R T (upd d (104 + 8 * r) v) (up2 c (24 + r) 0 v) := by
  have hb := h.1
  have e : ixg (24 + r) 0 = 104 + 8 * r := by
    unfold ixg
    (repeat' split) <;> omega
  rw [← e]
  exact h.up (by unfold vd; omega)
theorem DN.r1 (h : DN H L M R T d c) (hi : r < R) : c (24 + r) 1 = d (105 + 8 * r) := by
  have hb := h.1
  have := h.2 (24 + r) 1 (by unfold vd; omega)
  rw [this]
  congr 1 <;> (unfold ixg; (repeat' split) <;> omega)
theorem DN.ur1 (h : DN H L M R T d c) (hi : r < R) : DN H L M R T (upd d (105 + 8 * r) v) (up2 c (24 + r) 1 v) := by
  have hb := h.1
  have e : ixg (24 + r) 1 = 105 + 8 * r := by
    unfold ixg
    (repeat' split) <;> omega
  rw [← e]
  exact h.up (by unfold vd; omega)
theorem DN.r2 (h : DN H L M R T d c) (hi : r < R) : c (24 + r) 2 = d (106 + 8 * r) := by
  have hb := h.1
  have := h.2 (24 + r) 2 (by unfold vd; omega)
  rw [this]
  congr 1 <;> (unfold ixg; (repeat' split) <;> omega)
theorem DN.ur2 (h : DN H L M R T d c) (hi : r < R) : DN H L M R T (upd d (106 + 8 * r) v) (up2 c (24 + r) 2 v) := by
  have hb := h.1
  have e : ixg (24 + r) 2 = 106 + 8 * r := by
    unfold ixg
    (repeat' split) <;> omega
  rw [← e]
  exact h.up (by unfold vd; omega)
theorem DN.r3 (h : DN H L M R T d c) (hi : r < R) : c (24 + r) 3 = d (107 + 8 * r) := by
  have hb := h.1
  have := h.2 (24 + r) 3 (by unfold vd; omega)
  rw [this]
  congr 1 <;> (unfold ixg; (repeat' split) <;> omega)
theorem DN.ur3 (h : DN H L M R T d c) (hi : r < R) : DN H L M R T (upd d (107 + 8 * r) v) (up2 c (24 + r) 3 v) := by
  have hb := h.1
  have e : ixg (24 + r) 3 = 107 + 8 * r := by
    unfold ixg
    (repeat' split) <;> omega
  rw [← e]
  exact h.up (by unfold vd; omega)
theorem DN.r4 (h : DN H L M R T d c) (hi : r < R) : c (24 + r) 4 = d (108 + 8 * r) := by
  have hb := h.1
  have := h.2 (24 + r) 4 (by unfold vd; omega)
  rw [this]
  congr 1 <;> (unfold ixg; (repeat' split) <;> omega)
theorem DN.ur4 (h : DN H L M R T d c) (hi : r < R) : DN H L M R T (upd d (108 + 8 * r) v) (up2 c (24 + r) 4 v) := by
  have hb := h.1
  have e : ixg (24 + r) 4 = 108 + 8 * r := by
    unfold ixg
    (repeat' split) <;> omega
  rw [← e]
  exact h.up (by unfold vd; omega)
theorem DN.r5 (h : DN H L M R T d c) (hi : r < R) : c (24 + r) 5 = d (109 + 8 * r) := by
  have hb := h.1
  have := h.2 (24 + r) 5 (by unfold vd; omega)
  rw [this]
  congr 1 <;> (unfold ixg; (repeat' split) <;> omega)
theorem DN.ur5 (h : DN H L M R T d c) (hi : r < R) : DN H L M R T (upd d (109 + 8 * r) v) (up2 c (24 + r) 5 v) := by
  have hb := h.1
  have e : ixg (24 + r) 5 = 109 + 8 * r := by
    unfold ixg
    (repeat' split) <;> omega
  rw [← e]
  exact h.up (by unfold vd; omega)
theorem DN.r6 (h : DN H L M R T d c) (hi : r < R) : c (24 + r) 6 = d (110 + 8 * r) := by
  have hb := h.1
  have := h.2 (24 + r) 6 (by unfold vd; omega)
  rw [this]
  congr 1 <;> (unfold ixg; (repeat' split) <;> omega)
theorem DN.ur6 (h : DN H L M R T d c) (hi : r < R) : DN H L M R T (upd d (110 + 8 * r) v) (up2 c (24 + r) 6 v) := by
  have hb := h.1
  have e : ixg (24 + r) 6 = 110 + 8 * r := by
    unfold ixg
    (repeat' split) <;> omega
  rw [← e]
  exact h.up (by unfold vd; omega)
theorem DN.r7 (h : DN H L M R T d c) (hi : r < R) : c (24 + r) 7 = d (111 + 8 * r) := by
  have hb := h.1
  have := h.2 (24 + r) 7 (by unfold vd; omega)
  rw [this]
  congr 1 <;> (unfold ixg; (repeat' split) <;> omega)
theorem DN.ur7 (h : DN H L M R T d c) (hi : r < R) : DN H L M R T (upd d (111 + 8 * r) v) (up2 c (24 + r) 7 v) := by
  have hb := h.1
  have e : ixg (24 + r) 7 = 111 + 8 * r := by
    unfold ixg
    (repeat' split) <;> omega
  rw [← e]
  exact h.up (by unfold vd; omega)
theorem DN.t (h : DN H L M R T d c) (hi : l < M) (hk : k < T l) : c (16 + l) k = d (52 + 7 * l + k) := by
  have hb := h.1
  have h4 := hb.2.2.2.2 l hi
  have := h.2 (16 + l) k (by unfold vd; rw [show 16 + l - 16 = l by omega]; omega)
  rw [this]
  congr 1 <;> (unfold ixg; (repeat' split) <;> omega)
end DNS
