/-! BOTH READERS STEP BY STEP -/
/-- the model's own row but for what reading writes -/
def HF (h0 h : XD) : Prop := ∀ j, j ≠ 4 → j ≠ 5 → j ≠ 6 → j ≠ 14 → j ≠ 15 → j ≠ 16 → h j = h0 j
/-- both stand at token a, no fault so far -/
def RG (T L : Nat) (t : Nat → Nat) (h0 : XD) (a : Nat) (g h : XD) : Prop := a ≤ T ∧ g 4 = nI a ∧ h 5 = nI 0 ∧ h 6 = -nI 1 ∧ h 3 = nI L ∧ (∃ p, p ≤ L ∧ sk t L p = tS t L a ∧ h 4 = nI p) ∧ HF h0 h
/-- both have found the same fault -/
def RB (h0 g h : XD) : Prop := h 5 ≠ nI 0 ∧ g 0 = h 5 ∧ g 1 = h 6 ∧ HF h0 h
theorem HF.up {h0 h : XD} (h9 : HF h0 h) {k : Nat} (hk : k = 4 ∨ k = 5 ∨ k = 6 ∨ k = 14 ∨ k = 15 ∨ k = 16) (v : Int32) : HF h0 (upd h k v) := fun j a1 a2 a3 a4 a5 a6 => by rw [upd_n (by omega)]; exact h9 j a1 a2 a3 a4 a5 a6
section ST
variable {Y : XY} {N N2 : XN} {B T L m a : Nat} {t : Nat → Nat} {c : Nat → Nat → Int32} {g h h0 e : XD}
theorem adv (hT : TK9 N B T L t) (ha : a ≤ T) (hk : tK t L (tS t L a) ≠ 0) : a + 1 ≤ T ∧ tE t L (tS t L a) ≤ L ∧ tS t L a < L := by
  have h1 : tS t L a < L := by
    rcases Nat.lt_or_ge (tS t L a) L with q | q
    · exact q
    · exact absurd (tK_end.mpr q) hk
  have h2 : a ≠ T := fun z => by rw [z, hT.2.1] at h1; omega
  exact ⟨by omega, (tE_le h1).2, h1⟩
theorem RG.fail (hg : RG T L t h0 a g h) {x y : Int32} (hx : x ≠ nI 0) {g' h' : XD} (e0 : g' 0 = x) (e1 : g' 1 = y) (f0 : h' 5 = x) (f1 : h' 6 = y) (hf : HF h0 h') : RB h0 g' h' := ⟨by rw [f0]; exact hx, by rw [e0, f0], by rw [e1, f1], hf⟩
theorem mc2 : -nI 2 ≠ nI 0 := by decide
theorem mc3 : -nI 3 ≠ nI 0 := by decide
theorem mc4 : -nI 4 ≠ nI 0 := by decide
theorem mc5 : -nI 5 ≠ nI 0 := by decide
theorem mc6 : -nI 6 ≠ nI 0 := by decide
/-- the next token taken by both -/
theorem RG.next (hT : TK9 N B T L t) (hg : RG T L t h0 a g h) (hk : tK t L (tS t L a) ≠ 0) {g' h' : XD} (e4 : g' 4 = nI (a + 1)) (f3 : h' 3 = h 3) (f4 : h' 4 = nI (tE t L (tS t L a))) (f5 : h' 5 = h 5) (f6 : h' 6 = h 6) (hf : HF h0 h') : RG T L t h0 (a + 1) g' h' := by
  obtain ⟨a1, a2, a3, a6, a4, -, a5⟩ := hg
  obtain ⟨b1, b2, b3⟩ := adv hT a1 hk
  exact ⟨b1, e4, by rw [f5]; exact a3, by rw [f6]; exact a6, by rw [f3]; exact a4, ⟨_, b2, rfl, f4⟩, hf⟩
theorem S_takes (hR : RD Y B) (hT : TK9 N B T L t) (hL : L ≤ 700) (g1 : gp Y m 1 = m + 1) (hM : TM N2 m L t) (hg : RG T L t h0 a g h) {b : Nat} (hb : b = 41 ∨ b = 59) : ∃ g' h', f_X8_expect Y m (nI b) (MM N2 m h e) = some (MM N2 m h' e) ∧ ((f_X4_takes Y (B + 6) (nI (sgK b)) (KS N B c g) = some (nI 1, KS N B c g') ∧ RG T L t h0 (a + 1) g' h' ∧ g' 6 = g 6 ∧ h' 15 = h 15 ∧ h' 16 = h 16) ∨ (f_X4_takes Y (B + 6) (nI (sgK b)) (KS N B c g) = some (nI 0, KS N B c g') ∧ RB h0 g' h')) := by
  obtain ⟨a1, a2, a3, a6, a4, ⟨p, p1, p2, p3⟩, a5⟩ := id hg
  have nb9 : sgK b < 24 := by have := sgK_le b; omega
  have n0 : sgK b ≠ 0 := by rcases hb with rfl | rfl <;> decide
  have ex := M_expect (Y := Y) (e := e) g1 hM hL a4 a3 p3 p1 p2 hb
  have tk := K_takes (c := c) (g := g) hR hT a1 a2 nb9
  by_cases q : tK t L (tS t L a) = sgK b
  · rw [if_pos q] at ex tk
    refine ⟨_, _, ex, Or.inl ⟨tk, hg.next hT (by rw [q]; exact n0) (upd_s _ _ _) (upd_n (by omega)) (upd_s _ _ _) (upd_n (by omega)) (upd_n (by omega)) (a5.up (by omega) _), upd_n (by omega), upd_n (by omega), upd_n (by omega)⟩⟩
  · rw [if_neg q] at ex tk
    refine ⟨_, _, ex, Or.inr ⟨tk, hg.fail mc2 (x := -nI 2) (y := nI (tS t L a)) ?_ (upd_s _ _ _) ?_ (upd_s _ _ _) (((a5.up (by omega) _).up (by omega) _).up (by omega) _)⟩⟩
    · rw [upd_n (by omega), upd_s]
    · rw [upd_n (by omega), upd_s]
theorem S_number (hR : RD Y B) (hT : TK9 N B T L t) (hL : L ≤ 700) (g1 : gp Y m 1 = m + 1) (hM : TM N2 m L t) (hg : RG T L t h0 a g h) {x : Nat} {y : Int32} (hx : x ≤ 9999) (hy : y.toInt ≤ 9999) : ∃ g' h' v, f_X8_number Y m (nI x) y (MM N2 m h e) = some (nI v, MM N2 m h' e) ∧ ((f_X4_readsNumber Y (B + 6) (nI x) y (KS N B c g) = some (nI 1, KS N B c g') ∧ RG T L t h0 (a + 1) g' h' ∧ (g' 5 = nI v ∧ x ≤ v ∧ (v : Int) ≤ y.toInt) ∧ h' 14 = nI (tS t L a) ∧ g' 6 = g 6 ∧ h' 15 = h 15 ∧ h' 16 = h 16) ∨ (f_X4_readsNumber Y (B + 6) (nI x) y (KS N B c g) = some (nI 0, KS N B c g') ∧ RB h0 g' h')) := by
  obtain ⟨a1, a2, a3, a6, a4, ⟨p, p1, p2, p3⟩, a5⟩ := id hg
  have ex := M_number (Y := Y) (e := e) (b := y) g1 hM hL a4 a3 p3 p1 p2 hx
  have tk := K_readsNumber (c := c) (g := g) hR hT a1 a2 hx hy
  by_cases q : tK t L (tS t L a) = 2
  · rw [if_pos q] at ex tk
    by_cases q2 : inR (num t L (tS t L a)) x y = true
    · rw [if_pos q2] at ex tk
      have q3 : x ≤ num t L (tS t L a) ∧ (num t L (tS t L a) : Int) ≤ y.toInt := of_decide_eq_true q2
      refine ⟨_, _, _, ex, Or.inl ⟨tk, hg.next hT (by rw [q]; omega) (upd_s _ _ _) ?_ (upd_s _ _ _) ?_ ?_ ((a5.up (by omega) _).up (by omega) _), ⟨?_, q3⟩, ?_, ?_, ?_, ?_⟩⟩
      all_goals (rw [upd_n (by omega)]; first | exact upd_s _ _ _ | exact upd_n (by omega))
    · rw [if_neg q2] at ex tk
      refine ⟨_, _, _, ex, Or.inr ⟨tk, hg.fail mc3 (x := -nI 3) (y := nI (tS t L a)) ?_ (upd_s _ _ _) ?_ (upd_s _ _ _) ((((a5.up (by omega) _).up (by omega) _).up (by omega) _).up (by omega) _)⟩⟩
      · rw [upd_n (by omega), upd_s]
      · rw [upd_n (by omega), upd_s]
  · rw [if_neg q] at ex tk
    refine ⟨_, _, 0, ex, Or.inr ⟨tk, hg.fail mc2 (x := -nI 2) (y := nI (tS t L a)) ?_ (upd_s _ _ _) ?_ (upd_s _ _ _) (((a5.up (by omega) _).up (by omega) _).up (by omega) _)⟩⟩
    · rw [upd_n (by omega), upd_s]
    · rw [upd_n (by omega), upd_s]
/-- a fault of the class's reader at token a -/
theorem S_fails (hR : RD Y B) (hT : TK9 N B T L t) (hg : RG T L t h0 a g h) {x : Int32} (hx : x ≠ nI 0) {h' : XD} (f0 : h' 5 = x) (f1 : h' 6 = nI (tS t L a)) (hf : HF h0 h') : ∃ g', f_X4_fails Y (B + 6) x (KS N B c g) = some (nI 0, KS N B c g') ∧ RB h0 g' h' := by
  have kf := K_fails (c := c) (g := g) hR hT hg.1 hg.2.1 (x := x)
  exact ⟨_, kf, hg.fail hx (by rw [upd_n (by omega), upd_s]) (upd_s _ _ _) f0 f1 hf⟩
theorem S_kind (hR : RD Y B) (hT : TK9 N B T L t) (hg : RG T L t h0 a g h) : f_X4_kind Y (B + 6) (KS N B c g) = some (nI (tK t L (tS t L a))) := K_kind hR hT hg.1 hg.2.1
theorem tS_sk {a : Nat} : sk t L (tS t L a) = tS t L a := by
  have key : ∀ p, sk t L (sk t L p) = sk t L p := by
    intro p
    by_cases q : p ≤ L
    · exact rN_idem q
    · have : sk t L p = p := rN_end (by omega)
      rw [this, this]
  cases a with
  | zero => exact key 0
  | succ a => exact key _
/-- the model skips the spaces -/
theorem S_next (hL : L ≤ 700) (g1 : gp Y m 1 = m + 1) (hM : TM N2 m L t) (hT : TK9 N B T L t) (hg : RG T L t h0 a g h) : ∃ h', f_X8_next Y m (MM N2 m h e) = some (nb t L (tS t L a), MM N2 m h' e) ∧ RG T L t h0 a g h' ∧ h' 4 = nI (tS t L a) ∧ h' 15 = h 15 ∧ h' 16 = h 16 := by
  obtain ⟨a1, a2, a3, a6, a4, ⟨p, p1, p2, p3⟩, a5⟩ := id hg
  have nx := M_next (Y := Y) (e := e) g1 hM hL a4 p3 p1
  rw [p2] at nx
  refine ⟨_, nx, ⟨a1, a2, ?_, ?_, ?_, ⟨tS t L a, hT.len a1, tS_sk, upd_s _ _ _⟩, a5.up (by omega) _⟩, upd_s _ _ _, upd_n (by omega), upd_n (by omega)⟩
  · rw [upd_n (by omega)]; exact a3
  · rw [upd_n (by omega)]; exact a6
  · rw [upd_n (by omega)]; exact a4
/-- word i, from where a token starts -/
theorem S_word (hL : L ≤ 700) (g1 : gp Y m 1 = m + 1) (hM : TM N2 m L t) (hT : TK9 N B T L t) (hg : RG T L t h0 a g h) {i : Nat} (hi : i < 13) : ∃ h', (if tK t L (tS t L a) = 10 + i then f_X8_takeWord Y m i (MM N2 m h e) = some (nI 1, MM N2 m h' e) ∧ RG T L t h0 (a + 1) (upd g 4 (nI (a + 1))) h' else f_X8_takeWord Y m i (MM N2 m h e) = some (nI 0, MM N2 m h' e) ∧ RG T L t h0 a g h' ∧ h' 4 = nI (tS t L a)) ∧ h' 15 = h 15 ∧ h' 16 = h 16 := by
  obtain ⟨a1, a2, a3, a6, a4, ⟨p, p1, p2, p3⟩, a5⟩ := id hg
  have tw := M_takeWord (Y := Y) (e := e) g1 hM hL a4 a3 p3 p1 p2 hi
  by_cases q : tK t L (tS t L a) = 10 + i
  · rw [if_pos q] at tw
    refine ⟨upd h 4 (nI (tE t L (tS t L a))), ?_, upd_n (by omega), upd_n (by omega)⟩
    rw [if_pos q]
    exact ⟨tw, hg.next hT (by omega) (upd_s _ _ _) (upd_n (by omega)) (upd_s _ _ _) (upd_n (by omega)) (upd_n (by omega)) (a5.up (by omega) _)⟩
  · rw [if_neg q] at tw
    refine ⟨upd h 4 (nI (tS t L a)), ?_, upd_n (by omega), upd_n (by omega)⟩
    rw [if_neg q]
    refine ⟨tw, ⟨a1, a2, ?_, ?_, ?_, ⟨tS t L a, hT.len a1, tS_sk, upd_s _ _ _⟩, a5.up (by omega) _⟩, upd_s _ _ _⟩
    · rw [upd_n (by omega)]; exact a3
    · rw [upd_n (by omega)]; exact a6
    · rw [upd_n (by omega)]; exact a4
end ST
