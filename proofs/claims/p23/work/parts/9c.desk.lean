/-! THE DESK MOVES: the heap's end, frames -/
def ow (pl : Nat → Nat) (H L M R : Nat) (a : Nat) : Prop := ∃ g, us H L M R g ∧ ¬ fx g ∧ pl g = a
def iw (pl : Nat → Nat) (H L M R : Nat) (a : Nat) : Prop := ∃ g, us H L M R g ∧ pl g = a
def Fr (P : Nat → Prop) (Y : XY) (N : XN) (Y' : XY) (N' : XN) : Prop := ∀ a, P a → (kc Y' a = kc Y a ∧ kn Y' a = kn Y a) ∧ (∀ j, gr Y' a j = gr Y a j) ∧ ∀ j, gi N' a j = gi N a j
def MK (Y : XY) (q : Nat) : Prop := kc Y q = 9 ∧ ∀ a, q < a → kc Y a = 0
/-- a desk at the groups pl shows the row d; the heap ends at q -/
def DK (Y : XY) (q : Nat) (N : XN) (pl : Nat → Nat) (H L R : Nat) (T : Nat → Nat) (ops : List Int32) (d : XD) : Prop := MK Y q ∧ DY Y pl H L L R T ∧ DN H L L R T d (fun g k => gi N (pl g) k) ∧ SZ d H L R T ∧ DJ ops d ∧ H ≤ 4 ∧ L ≤ 3
/-- what a change of the desk leaves -/
def GO (Y : XY) (q : Nat) (N : XN) (pl : Nat → Nat) (H L R : Nat) (Y' : XY) (q' : Nat) (N' : XN) (pl' : Nat → Nat) (R' : Nat) : Prop := ((q ≤ q' ∧ R ≤ R') ∧ (pl' 0 = pl 0 ∧ pl' 1 = pl 1) ∧ (R' = R → ∀ g, us H L L R g → ¬ (16 ≤ g ∧ g < 24) → pl' g = pl g) ∧ gr Y' (pl 0) 7 = gr Y (pl 0) 7 ∧ (WT Y → WT Y') ∧ ∀ a, iw pl' H L L R' a → iw pl H L L R a ∨ q ≤ a) ∧ (∀ a, ow pl' H L L R' a → ow pl H L L R a ∨ q ≤ a) ∧ Fr (fun a => a < q ∧ ¬ ow pl H L L R a) Y N Y' N'
section DM
variable {Y Y' Y'' : XY} {q q' q'' : Nat} {N N' N'' : XN} {pl pl' pl'' : Nat → Nat} {H L M R R' R'' : Nat} {T T' : Nat → Nat} {ops : List Int32} {d d' : XD} {g : Nat} {c' : Nat → Nat → Int32}
theorem GO.rfl' : GO Y q N pl H L R Y q N pl R := ⟨⟨⟨Nat.le_refl _, Nat.le_refl _⟩, ⟨rfl, rfl⟩, fun _ _ _ _ => rfl, rfl, fun h => h, fun _ h => Or.inl h⟩, fun _ h => Or.inl h, fun _ _ => ⟨⟨rfl, rfl⟩, fun _ => rfl, fun _ => rfl⟩⟩
theorem GO.le (h : GO Y q N pl H L R Y' q' N' pl' R') : q ≤ q' := h.1.1.1
theorem GO.p0 (h : GO Y q N pl H L R Y' q' N' pl' R') : pl' 0 = pl 0 := h.1.2.1.1
theorem GO.p1 (h : GO Y q N pl H L R Y' q' N' pl' R') : pl' 1 = pl 1 := h.1.2.1.2
theorem GO.pg (h : GO Y q N pl H L R Y' q' N' pl' R) {g : Nat} (hg : us H L L R g) (h1 : ¬ (16 ≤ g ∧ g < 24)) : pl' g = pl g := h.1.2.2.1 rfl g hg h1
theorem GO.g7 (h : GO Y q N pl H L R Y' q' N' pl' R') : gr Y' (pl 0) 7 = gr Y (pl 0) 7 := h.1.2.2.2.1
theorem GO.wt (h : GO Y q N pl H L R Y' q' N' pl' R') : WT Y → WT Y' := h.1.2.2.2.2.1
theorem GO.iw (h : GO Y q N pl H L R Y' q' N' pl' R') {a : Nat} (ha : iw pl' H L L R' a) : iw pl H L L R a ∨ q ≤ a := h.1.2.2.2.2.2 a ha
theorem GO.trans (h : GO Y q N pl H L R Y' q' N' pl' R') (h' : GO Y' q' N' pl' H L R' Y'' q'' N'' pl'' R'') : GO Y q N pl H L R Y'' q'' N'' pl'' R'' := by
  have e0 := h.p0
  obtain ⟨⟨⟨a1, a0⟩, ⟨a2, a3⟩, a6, a7, a8, a9⟩, a4, a5⟩ := h
  obtain ⟨⟨⟨b1, b0⟩, ⟨b2, b3⟩, b6, b7, b8, b9⟩, b4, b5⟩ := h'
  refine ⟨⟨⟨by omega, by omega⟩, ⟨b2.trans a2, b3.trans a3⟩, fun e g hg h1 => ?_, by rw [e0] at b7; exact b7.trans a7, fun h => b8 (a8 h), fun a ha => (b9 a ha).elim (a9 a) (fun h => Or.inr (by omega))⟩, fun a ha => ?_, fun a ha => ?_⟩
  · have e1 : R' = R := by omega
    subst e1
    exact (b6 e g hg h1).trans (a6 rfl g hg h1)
  · rcases b4 a ha with h | h
    · exact a4 a h
    · exact Or.inr (by omega)
  · have h1 := a5 a ha
    have h2 := b5 a ⟨by have := ha.1; omega, fun h => by
      rcases a4 a h with h | h
      · exact ha.2 h
      · have := ha.1; omega⟩
    exact ⟨⟨h2.1.1.trans h1.1.1, h2.1.2.trans h1.1.2⟩, fun j => (h2.2.1 j).trans (h1.2.1 j), fun j => (h2.2.2 j).trans (h1.2.2 j)⟩
theorem DK.m (h : DK Y q N pl H L R T ops d) : MK Y q := h.1
theorem DK.y (h : DK Y q N pl H L R T ops d) : DY Y pl H L L R T := h.2.1
theorem DK.n (h : DK Y q N pl H L R T ops d) : DN H L L R T d (fun g k => gi N (pl g) k) := h.2.2.1
theorem DK.s (h : DK Y q N pl H L R T ops d) : SZ d H L R T := h.2.2.2.1
theorem DK.j (h : DK Y q N pl H L R T ops d) : DJ ops d := h.2.2.2.2.1
theorem DK.h4 (h : DK Y q N pl H L R T ops d) : H ≤ 4 := h.2.2.2.2.2.1
theorem DK.l3 (h : DK Y q N pl H L R T ops d) : L ≤ 3 := h.2.2.2.2.2.2
theorem us_lt (hm : MK Y q) (hY : DY Y pl H L M R T) (hg : us H L M R g) : pl g < q := by
  have e := (hY.2.2 g hg).1
  have k : kg g ≠ 0 ∧ kg g ≠ 9 := by
    unfold kg
    (repeat' split) <;> decide
  rcases Nat.lt_trichotomy (pl g) q with h | h | h
  · exact h
  · rw [h, hm.1] at e; omega
  · rw [hm.2 _ h] at e; omega
theorem vd_us {k : Nat} (h : vd H L M R T g k) : us H L M R g := by
  unfold vd at h
  unfold us
  rcases h with h | h | h | h | h | h <;> omega
theorem us_pg (hb : H ≤ 6 ∧ L ≤ 8 ∧ M ≤ 8 ∧ R ≤ 60) (h : us H L M R g) (h0 : g ≠ 0) : us H L M R (pg g) ∧ (pg g = 0 ∨ 84 ≤ pg g) := by
  unfold us at h ⊢
  unfold pg
  (repeat' split) <;> omega
theorem DK.low (h : DK Y q N pl H L R T ops d) (hN : DN H L L R T d' c') (hS : SZ d' H L R T) (hD : DJ ops d') (h1 : ∀ g k, fx g → c' g k = gi N (pl g) k) : DK Y q (sp N pl H L R c') pl H L R T ops d' ∧ GO Y q N pl H L R Y q (sp N pl H L R c') pl R := by
  have hP := h.y.P
  refine ⟨⟨h.1, h.2.1, ⟨hN.1, fun g k hv => ?_⟩, hS, hD, h.h4, h.l3⟩, ⟨⟨Nat.le_refl _, Nat.le_refl _⟩, ⟨rfl, rfl⟩, fun _ _ _ _ => rfl, rfl, fun h => h, fun _ h => Or.inl h⟩, fun _ h => Or.inl h, fun a ha => ⟨⟨rfl, rfl⟩, fun _ => rfl, fun j => ?_⟩⟩
  · show gi (sp N pl H L R c') (pl g) k = _
    rw [gi_spg hP (vd_us hv)]
    exact hN.2 g k hv
  · by_cases e : ∃ g, us H L L R g ∧ pl g = a
    · obtain ⟨g, e1, e2⟩ := e
      by_cases e3 : fx g
      · rw [← e2, gi_spg hP e1]
        exact h1 g j e3
      · exact absurd ⟨g, e1, e3, e2⟩ ha.2
    · exact gi_spn (fun g e1 e2 => e ⟨g, e1, e2⟩)
theorem K_assign (h : DK Y q N pl H L R T ops d) {r : Nat} (hr : r < R) (ho : d (107 + 8 * r) = nI 1) : ∃ N', f_X8_assign Y (pl 0) (pl (24 + r)) N = some N' ∧ DK Y q N' pl H L R T ops (sAssign d r) ∧ GO Y q N pl H L R Y q N' pl R := by
  obtain ⟨c', a1, a2, a3, a4⟩ := D_assign (N := N) h.y h.j h.n h.s hr
  rw [sp_self] at a1
  have hj := (h.j.assign (r := r) (by rw [h.s.2.2.1]; exact hr) ho).1
  exact ⟨_, a1, h.low a2 a3 hj a4⟩
theorem K_raises (h : DK Y q N pl H L R T ops d) {r : Nat} (hr : r < R) (ho : d (107 + 8 * r) = nI 0) : ∃ N', f_X8_raises Y (pl 0) (pl (24 + r)) N = some N' ∧ DK Y q N' pl H L R T ops (sRaiseNow d r) ∧ GO Y q N pl H L R Y q N' pl R := by
  obtain ⟨c', a1, a2, a3, a4⟩ := D_raises (N := N) h.y h.j h.n h.s hr ho
  rw [sp_self] at a1
  exact ⟨_, a1, h.low a2 a3 (h.j.raiseNow (by rw [h.s.2.2.1]; exact hr) ho) a4⟩
theorem K_held (h : DK Y q N pl H L R T ops d) {x : Int32} : f_X8_held Y (pl 0) x N = some (nI (sHeld d x), N) := by
  have a1 := D_held (N := N) h.y h.n h.s (h := x)
  rw [sp_self] at a1
  exact a1
theorem DK.ext (h : DK Y q N pl H L R T ops d) (hm : MK Y' q') (hle : q ≤ q') (hw : WT Y → WT Y') (hk : ∀ a, a < q → (kc Y' a = kc Y a ∧ kn Y' a = kn Y a) ∧ (∀ j, gr Y' a j = gr Y a j) ∧ ∀ j, gi N' a j = gi N a j) : DK Y' q' N' pl H L R T ops d ∧ GO Y q N pl H L R Y' q' N' pl R := by
  have hb := h.y.1
  have lt := fun g (hg : us H L L R g) => us_lt h.m h.y hg
  refine ⟨⟨hm, ⟨hb, h.y.P, fun g hg => ?_⟩, ⟨h.n.1, fun g k hv => ?_⟩, h.s, h.j, h.h4, h.l3⟩, ⟨⟨hle, Nat.le_refl _⟩, ⟨rfl, rfl⟩, fun _ _ _ _ => rfl, (hk _ (lt 0 (by unfold us; omega))).2.1 7, hw, fun _ h => Or.inl h⟩, fun _ h => Or.inl h, fun a ha => hk a ha.1⟩
  · obtain ⟨k1, k2⟩ := h.y.2.2 g hg
    obtain ⟨⟨e1, e2⟩, -, -⟩ := hk _ (lt g hg)
    refine ⟨e1.trans k1, fun h0 => ?_⟩
    obtain ⟨k3, k4⟩ := k2 h0
    obtain ⟨-, e3, -⟩ := hk _ (lt _ (us_pg hb hg h0).1)
    exact ⟨e2.trans k3, (e3 _).trans k4⟩
  · show gi N' (pl g) k = _
    rw [(hk _ (lt g (vd_us hv))).2.2]
    exact h.n.2 g k hv
end DM
/-! rows of their own -/
section RW
variable {Y : XY} {N : XN} {a q n l k : Nat} {d : XD} {h : Int32}
theorem yK_gr {c m b : Nat} (h1 : b ≠ q) (j : Nat) : gr (yK Y q c m) b j = gr Y b j := by simp only [gr, yK, if_neg h1]
theorem yK_ne {c m b : Nat} (h1 : b ≠ q) (h2 : b ≠ q + 1) : kc (yK Y q c m) b = kc Y b ∧ kn (yK Y q c m) b = kn Y b := by simp only [kc, kn, yK, if_neg h1, if_neg h2, and_self]
theorem n0_ne {b : Nat} (h1 : b ≠ q) (j : Nat) : gi (n0 N q) b j = gi N b j := by simp only [gi, n0, if_neg h1]
theorem n0_q (j : Nat) : gi (n0 N q) q j = 0 := by simp only [gi, n0, if_true]
theorem MK.nx (hm : MK Y q) {c m : Nat} : MK (yK Y q c m) (q + 1) := by
  refine ⟨?_, fun b hb => ?_⟩
  · simp only [kc, yK, if_neg (Nat.succ_ne_self q), if_true]
  · rw [(yK_ne (by omega) (by omega)).1]; exact hm.2 b (by omega)
theorem WT.keep {Y' : XY} (h : WT Y) (h1 : ∀ a, (kc Y' a = 4 ∨ kc Y' a = 5 ∨ kc Y' a = 6 ∨ kc Y' a = 7 ∨ kc Y' a = 10 ∨ kc Y' a = 12 ∨ kc Y' a = 15 ∨ kc Y' a = 16 ∨ kc Y' a = 17) → kc Y a = kc Y' a ∧ kn Y a = kn Y' a ∧ ∀ j, gr Y' a j = gr Y a j) (h2 : ∀ b, vk (kc Y b) → kc Y' b = kc Y b ∧ kn Y' b = kn Y b) : WT Y' := by
  have o : ∀ a f K, kc Y a = kc Y' a ∧ kn Y a = kn Y' a ∧ (∀ j, gr Y' a j = gr Y a j) → vk K → wtO Y a f K → wtO Y' a f K := fun a f K hg hK hw => by
    have e : gp Y' a f = gp Y a f := gp_of ((hg.2.2 f).trans hw.1)
    refine ⟨by rw [e]; exact (hg.2.2 f).trans hw.1, ?_⟩
    rw [e]
    exact (h2 _ (by rw [hw.2]; exact hK)).1.trans hw.2
  have p : ∀ a f K n, kc Y a = kc Y' a ∧ kn Y a = kn Y' a ∧ (∀ j, gr Y' a j = gr Y a j) → vk K → wtF Y a f K n → wtF Y' a f K n := fun a f K n hg hK hw => by
    have e : gp Y' a f = gp Y a f := gp_of ((hg.2.2 f).trans hw.1)
    have w2 := h2 _ (by rw [hw.2.1]; exact hK)
    refine ⟨by rw [e]; exact (hg.2.2 f).trans hw.1, ?_, ?_⟩
    · rw [e]; exact w2.1.trans hw.2.1
    · rw [e]; exact w2.2.trans hw.2.2
  have v : ∀ K, (1 ≤ K ∧ K ≤ 8) ∨ (10 ≤ K ∧ K < 23) → vk K := fun K hK => by
    rcases hK with hK | hK
    · exact Or.inl hK
    · exact Or.inr (Or.inl hK)
  intro a
  obtain ⟨w1, w2, w3, w4, w5, w6, w7, w8, w9⟩ := h a
  refine ⟨fun q => ?_, fun q => ?_, fun q => ?_, fun q => ?_, fun q => ?_, fun q k hk => ?_, fun q k hk => ?_, fun q k hk => ?_, fun q k hk => ?_⟩ <;> (have hg := h1 a (by omega); have e := hg.1.trans q)
  · have := w1 e; exact ⟨p _ _ _ _ hg (v _ (by omega)) this.1, p _ _ _ _ hg (v _ (by omega)) this.2⟩
  · exact p _ _ _ _ hg (v _ (by omega)) (w2 e)
  · have := w3 e; exact ⟨p _ _ _ _ hg (v _ (by omega)) this.1, p _ _ _ _ hg (v _ (by omega)) this.2.1, p _ _ _ _ hg (v _ (by omega)) this.2.2⟩
  · have := w4 e; exact ⟨p _ _ _ _ hg (v _ (by omega)) this.1, p _ _ _ _ hg (v _ (by omega)) this.2.1, p _ _ _ _ hg (v _ (by omega)) this.2.2.1, o _ _ _ hg (v _ (by omega)) this.2.2.2.1, p _ _ _ _ hg (v _ (by omega)) this.2.2.2.2⟩
  · have := w5 e; exact ⟨p _ _ _ _ hg (v _ (by omega)) this.1, o _ _ _ hg (v _ (by omega)) this.2.1, o _ _ _ hg (v _ (by omega)) this.2.2.1, o _ _ _ hg (v _ (by omega)) this.2.2.2.1, o _ _ _ hg (v _ (by omega)) this.2.2.2.2.1, p _ _ _ _ hg (v _ (by omega)) this.2.2.2.2.2⟩
  · exact o _ _ _ hg (v _ (by omega)) (w6 e k (by rw [hg.2.1]; exact hk))
  · exact o _ _ _ hg (v _ (by omega)) (w7 e k (by rw [hg.2.1]; exact hk))
  · exact o _ _ _ hg (v _ (by omega)) (w8 e k (by rw [hg.2.1]; exact hk))
  · exact o _ _ _ hg (v _ (by omega)) (w9 e k (by rw [hg.2.1]; exact hk))
/-- something new that is none of the class's -/
theorem WT.nx (h : WT Y) (hm : MK Y q) {c m : Nat} (hc : c = 1 ∨ c = 3 ∨ c = 8 ∨ 18 ≤ c) : WT (yK Y q c m) := by
  refine h.keep (fun a ha => ?_) (fun b hb => ?_)
  · by_cases e : a = q
    · subst e; rw [kcq rfl] at ha; omega
    · by_cases e2 : a = q + 1
      · have : kc (yK Y q c m) a = 9 := by rw [e2]; exact hm.nx.1
        omega
      · exact ⟨(yK_ne e e2).1.symm, (yK_ne e e2).2.symm, fun j => yK_gr e j⟩
  · have e1 : b ≠ q := fun e => by rw [e, hm.1] at hb; rcases hb with hb | hb | hb <;> omega
    have e2 : b ≠ q + 1 := fun e => by rw [e, hm.2 _ (Nat.lt_succ_self q)] at hb; rcases hb with hb | hb | hb <;> omega
    exact yK_ne e1 e2
theorem WT.sr8 {a f : Nat} {v : Option Nat} (h : WT Y) (k : kc Y a = 8 ∨ 18 ≤ kc Y a) : WT (sr Y a f v) := by
  refine h.keep (fun b hb => ⟨rfl, rfl, fun j => gr_sr_ne (fun e => ?_) j⟩) (fun b _ => ⟨rfl, rfl⟩)
  rw [kc_sr, e] at hb
  omega
theorem D_placeIn_L (hk : kc Y a = 1) (hn : kn Y a = n) (h3 : n ≤ 3) (hd : ∀ k, k < n → gi N a k = d (52 + 7 * l + k)) : ∀ (z k D9 : Nat), k + z = n → z < D9 → f_L_placeIn_2 Y D9 a h (nI k) N = some (pI (sTPF d l h k z), N) := by
  intro z
  induction z with
  | zero =>
    intro k D9 hi hD
    obtain ⟨D8, rfl⟩ : ∃ z, D9 = z + 1 := ⟨D9 - 1, by omega⟩
    rw [f_L_placeIn_2, sTPF]
    show _ = some (-1, N)
    simp (disch := omega) only [↓ck, ↓lt_eq, bd_some, bd2_some, ofN, nI_lit, nI_clamp, nI_add, xb_nI, ↓reduceIte, pLEt, pLEf, pLTt, pLTf, pEQf, pML, pMG, pMf, pMg, hk, hn]
  | succ z ih =>
    intro k D9 hi hD
    obtain ⟨D8, rfl⟩ : ∃ z, D9 = z + 1 := ⟨D9 - 1, by omega⟩
    rw [f_L_placeIn_2, sTPF]
    by_cases p : d (52 + 7 * l + k) = h
    · rw [if_pos p]
      show _ = some (nI k, N)
      simp (disch := omega) only [↓ck, ↓lt_eq, bd_some, bd2_some, ofN, nI_lit, nI_clamp, nI_add, xb_nI, ↓reduceIte, pLEt, pLEf, pLTt, pLTf, pEQf, pML, pMG, pMf, pMg, hk, hn, hd, eq_true p]
    · rw [if_neg p, ← ih (k + 1) D8 (by omega) (by omega)]
      simp (disch := omega) only [↓ck, ↓lt_eq, bd_some, bd2_some, ofN, nI_lit, nI_clamp, nI_add, xb_nI, ↓reduceIte, pLEt, pLEf, pLTt, pLTf, pEQf, pML, pMG, pMf, pMg, hk, hn, hd, eq_false p]
theorem D_placeIn (hk : kc Y a = 1) (hn : kn Y a = n) (h3 : n ≤ 3) (hd : ∀ k, k < n → gi N a k = d (52 + 7 * l + k)) : f_L_placeIn Y a h N = some (pI (sTPF d l h 0 n), N) := by
  unfold f_L_placeIn
  exact D_placeIn_L hk hn h3 hd n 0 FU (by omega) (by unfold FU; omega)
theorem D_without_L {q' c0 s0 : Nat} {v : Nat → Int32} (kq : kc Y q = 1) (nq : kn Y q = n - 1) (ka : kc Y a = 1) (na : kn Y a = n) (hne : a ≠ q) (h3 : n ≤ 3) (hc : c0 ≤ 1 ∧ s0 ≤ 4) (hk : k < n) : ∀ (z j D9 : Nat) (N : XN), j + z + 1 = n → z < D9 → (∀ i, i < j → gi N q i = v (if i < k then i else i + 1)) → (∀ i, i < n → gi N a i = v i) → ∃ N', f_L_without_9 D9 Y q' a (nI k) q (nI j) c0 s0 N = some (q, Y, q', N') ∧ (∀ i, i + 1 < n → gi N' q i = v (if i < k then i else i + 1)) ∧ ∀ b, b ≠ q → ∀ i, gi N' b i = gi N b i := by
  intro z
  induction z with
  | zero =>
    intro j D9 N hi hD hq _
    obtain ⟨D8, rfl⟩ : ∃ z, D9 = z + 1 := ⟨D9 - 1, by omega⟩
    refine ⟨N, ?_, fun i hi2 => hq i (by omega), fun _ _ _ => rfl⟩
    rw [f_L_without_9]
    simp (disch := omega) only [↓ck, ↓lt_eq, bd_some, bd2_some, ofN, nI_lit, nI_clamp, nI_add, xb_nI, ↓reduceIte, pLEt, pLEf, pLTt, pLTf, pEQf, pML, pMG, pMf, pMg, kq, nq, eq_true hc]
  | succ z ih =>
    intro j D9 N hi hD hq hv
    obtain ⟨D8, rfl⟩ : ∃ z, D9 = z + 1 := ⟨D9 - 1, by omega⟩
    have go : ∀ w : Int32, w = v (if j < k then j else j + 1) → ∃ N', f_L_without_9 D8 Y q' a (nI k) q (nI (j + 1)) c0 s0 (si N q j w) = some (q, Y, q', N') ∧ (∀ i, i + 1 < n → gi N' q i = v (if i < k then i else i + 1)) ∧ ∀ b, b ≠ q → ∀ i, gi N' b i = gi N b i := by
      intro w hw
      obtain ⟨N', e1, e2, e3⟩ := ih (j + 1) D8 (si N q j w) (by omega) (by omega) (fun i hi2 => by
        by_cases e : i = j
        · rw [e, gi_si, hw]
        · rw [gi_si_n (Or.inr e)]; exact hq i (by omega)) (fun i hi2 => by rw [gi_si_n (Or.inl hne)]; exact hv i hi2)
      exact ⟨N', e1, e2, fun b hb i => by rw [e3 b hb i, gi_si_n (Or.inl hb)]⟩
    rw [f_L_without_9]
    by_cases p : k ≤ j
    · obtain ⟨N', e1, e2, e3⟩ := go (gi N a (j + 1)) (by rw [if_neg (by omega)]; exact hv _ (by omega))
      refine ⟨N', ?_, e2, e3⟩
      simp (disch := omega) only [↓ck, ↓lt_eq, bd_some, bd2_some, ofN, nI_lit, nI_clamp, nI_add, xb_nI, ↓reduceIte, pLEt, pLEf, pLTt, pLTf, pEQf, pML, pMG, pMf, pMg, kq, nq, ka, na]
      exact e1
    · obtain ⟨N', e1, e2, e3⟩ := go (gi N a j) (by rw [if_pos (by omega)]; exact hv _ (by omega))
      refine ⟨N', ?_, e2, e3⟩
      simp (disch := omega) only [↓ck, ↓lt_eq, bd_some, bd2_some, ofN, nI_lit, nI_clamp, nI_add, xb_nI, ↓reduceIte, pLEt, pLEf, pLTt, pLTf, pEQf, pML, pMG, pMf, pMg, kq, nq, ka, na]
      exact e1
theorem D_without (hm : MK Y q) (ka : kc Y a = 1) (na : kn Y a = n) (h3 : n ≤ 3) (hk : k < n) : ∃ N', f_L_without Y q a (nI k) N = some (q, yK Y q 1 (n - 1), q + 1, N') ∧ (∀ i, i + 1 < n → gi N' q i = gi N a (if i < k then i else i + 1)) ∧ ∀ b, b ≠ q → ∀ i, gi N' b i = gi N b i := by
  have h1 : a ≠ q := fun e => by rw [e, hm.1] at ka; omega
  have h2 : a ≠ q + 1 := fun e => by rw [e, hm.2 _ (Nat.lt_succ_self q)] at ka; omega
  have e : Int32.ofNat (kn Y a) - 1 = nI (n - 1) := by rw [na]; show nI n - nI 1 = nI (n - 1); exact pk_sub (by omega)
  obtain ⟨N', e1, e2, e3⟩ := D_without_L (Y := yK Y q 1 (n - 1)) (q := q) (a := a) (n := n) (k := k) (q' := q + 1) (c0 := 1) (s0 := 0 + (n - 1)) (v := gi N a) (kcq rfl) (knq rfl) (by rw [(yK_ne h1 h2).1]; exact ka) (by rw [(yK_ne h1 h2).2]; exact na) h1 h3 (by omega) hk (n - 1) 0 FU (n0 N q) (by omega) (by unfold FU; omega) (fun i hi => absurd hi (by omega)) (fun i _ => n0_ne h1 i)
  refine ⟨N', ?_, e2, fun b hb i => by rw [e3 b hb i, n0_ne hb]⟩
  unfold f_L_without
  rw [ck_t ka, e, nI_clamp (by omega), ck_t ⟨nI_nlt (Nat.zero_le _) (by omega), by omega⟩, ck_t ⟨hm.1, hm.2 _ (Nat.lt_succ_self q)⟩, ck_t (by omega), lt_eq, lt_eq]
  exact e1
theorem D_extended_L {q' c0 s0 : Nat} {v : Nat → Int32} {x : Int32} (kq : kc Y q = 1) (nq : kn Y q = n + 1) (ka : kc Y a = 1) (na : kn Y a = n) (hne : a ≠ q) (h3 : n ≤ 3) (hc : c0 ≤ 1 ∧ s0 ≤ 4) : ∀ (z j D9 : Nat) (N : XN), j + z = n → z < D9 → (∀ i, i < j → gi N q i = v i) → (∀ i, i < n → gi N a i = v i) → ∃ N', f_L_extended_9 D9 Y q' a x q (nI j) c0 s0 N = some (q, Y, q', N') ∧ ((∀ i, i < n → gi N' q i = v i) ∧ gi N' q n = x) ∧ ∀ b, b ≠ q → ∀ i, gi N' b i = gi N b i := by
  intro z
  induction z with
  | zero =>
    intro j D9 N hi hD hq _
    obtain ⟨D8, rfl⟩ : ∃ z, D9 = z + 1 := ⟨D9 - 1, by omega⟩
    refine ⟨si N q n x, ?_, ⟨fun i hi2 => by rw [gi_si_n (Or.inr (by omega))]; exact hq i (by omega), gi_si _ _ _ _⟩, fun b hb i => gi_si_n (Or.inl hb)⟩
    rw [f_L_extended_9]
    simp (disch := omega) only [↓ck, ↓lt_eq, bd_some, bd2_some, ofN, nI_lit, nI_clamp, nI_add, xb_nI, ↓reduceIte, pLEt, pLEf, pLTt, pLTf, pEQf, pML, pMG, pMf, pMg, kq, nq, ka, na, eq_true hc]
  | succ z ih =>
    intro j D9 N hi hD hq hv
    obtain ⟨D8, rfl⟩ : ∃ z, D9 = z + 1 := ⟨D9 - 1, by omega⟩
    obtain ⟨N', e1, e2, e3⟩ := ih (j + 1) D8 (si N q j (gi N a j)) (by omega) (by omega) (fun i hi2 => by
        by_cases e : i = j
        · rw [e, gi_si]; exact hv j (by omega)
        · rw [gi_si_n (Or.inr e)]; exact hq i (by omega)) (fun i hi2 => by rw [gi_si_n (Or.inl hne)]; exact hv i hi2)
    refine ⟨N', ?_, e2, fun b hb i => by rw [e3 b hb i, gi_si_n (Or.inl hb)]⟩
    rw [f_L_extended_9]
    simp (disch := omega) only [↓ck, ↓lt_eq, bd_some, bd2_some, ofN, nI_lit, nI_clamp, nI_add, xb_nI, ↓reduceIte, pLEt, pLEf, pLTt, pLTf, pEQf, pML, pMG, pMf, pMg, kq, nq, ka, na]
    exact e1
theorem D_extended (hm : MK Y q) {x : Int32} (ka : kc Y a = 1) (na : kn Y a = n) (h3 : n ≤ 3) : ∃ N', f_L_extended Y q a x N = some (q, yK Y q 1 (n + 1), q + 1, N') ∧ ((∀ i, i < n → gi N' q i = gi N a i) ∧ gi N' q n = x) ∧ ∀ b, b ≠ q → ∀ i, gi N' b i = gi N b i := by
  have h1 : a ≠ q := fun e => by rw [e, hm.1] at ka; omega
  have h2 : a ≠ q + 1 := fun e => by rw [e, hm.2 _ (Nat.lt_succ_self q)] at ka; omega
  have e : Int32.ofNat (kn Y a) + 1 = nI (n + 1) := by rw [na]; exact nI_add _ _
  obtain ⟨N', e1, e2, e3⟩ := D_extended_L (Y := yK Y q 1 (n + 1)) (q := q) (a := a) (n := n) (x := x) (q' := q + 1) (c0 := 1) (s0 := 0 + (n + 1)) (v := gi N a) (kcq rfl) (knq rfl) (by rw [(yK_ne h1 h2).1]; exact ka) (by rw [(yK_ne h1 h2).2]; exact na) h1 h3 (by omega) n 0 FU (n0 N q) (by omega) (by unfold FU; omega) (fun i hi => absurd hi (by omega)) (fun i _ => n0_ne h1 i)
  refine ⟨N', ?_, e2, fun b hb i => by rw [e3 b hb i, n0_ne hb]⟩
  unfold f_L_extended
  rw [ck_t ka, e, nI_clamp (by omega), ck_t ⟨nI_nlt (Nat.zero_le _) (by omega), by omega⟩, ck_t ⟨hm.1, hm.2 _ (Nat.lt_succ_self q)⟩, ck_t (by omega), lt_eq, lt_eq]
  exact e1
end RW
