/-! PRUNED: of whole -/
section CL1
variable {Y : XY} {w : Nat} {N : XN} {c : Nat → Nat → Int32} {d : XD} {H L R : Nat} {T : Nat → Nat}
theorem C_placeOf_L (hY : WY Y w) (hC : CD H L R T d c) {l n : Nat} {h : Int32} (hl : l < L) (hL : L ≤ 8) (ht : d (51 + 7 * l) = nI n) (hT : n ≤ T l) (hn : n ≤ 3) : ∀ (z k D9 : Nat), k + z = n → z < D9 → f_X2_placeOf_2 Y D9 (w + (14 + 2 * l)) h (nI k) (sw N w c) = some (pI (sTPF d l h k z)) := by
  intro z
  induction z with
  | zero =>
    intro k D9 hi hD
    obtain ⟨D8, rfl⟩ : ∃ z, D9 = z + 1 := ⟨D9 - 1, by omega⟩
    rw [f_X2_placeOf_2]
    simp (disch := omega) only [↓lt_eq, bd, bd2, Option.bind_some, nI_lit, nI_clamp, nI_add, xb_nI, if_true, gi_sw, gi_sw0, si_sw, si_sw0, hY.g0, hY.g2, hY.g4, hY.g13, hY.g14, hY.f0, hY.f2, hY.h, hY.l, hY.t, hY.r, hC.l4, ht, iLEt]
    rfl
  | succ z ih =>
    intro k D9 hi hD
    obtain ⟨D8, rfl⟩ : ∃ z, D9 = z + 1 := ⟨D9 - 1, by omega⟩
    rw [f_X2_placeOf_2]
    simp (disch := omega) only [↓lt_eq, bd, bd2, Option.bind_some, nI_lit, nI_clamp, nI_add, xb_nI, if_true, gi_sw, gi_sw0, si_sw, si_sw0, hY.g0, hY.g2, hY.g4, hY.g13, hY.g14, hY.f0, hY.f2, hY.h, hY.l, hY.t, hY.r, hC.l4, ht, iLEf, hC.t]
    unfold sTPF
    by_cases e : d (52 + 7 * l + k) = h
    · rw [if_pos e, if_pos e]; rfl
    · rw [if_neg e, if_neg e]
      exact ih (k + 1) D8 (by omega) (by omega)
theorem C_placeOf (hY : WY Y w) (hC : CD H L R T d c) {l : Nat} {h : Int32} (hl : l < L) (hL : L ≤ 8) (ht : d (51 + 7 * l) = nI (nT d l)) (hT : nT d l ≤ T l) (hn : nT d l ≤ 3) : f_X2_placeOf Y (w + (14 + 2 * l)) h (sw N w c) = some (pI (sTP d l h)) :=
  C_placeOf_L hY hC hl hL ht hT hn (nT d l) 0 FU (by omega) (by unfold FU; omega)
theorem pI_neg (o : Option Nat) (h : ∀ k, o = some k → k < 2 ^ 31) : (pI o < nI 0 ↔ o = none) ∧ (nI 0 ≤ pI o ↔ o.isSome) ∧ (pI o = -nI 1 ↔ o = none) := by
  cases o with
  | none => exact ⟨⟨fun _ => rfl, fun _ => by decide⟩, ⟨fun q => absurd q (by decide), fun q => by cases q⟩, ⟨fun _ => rfl, fun _ => rfl⟩⟩
  | some k =>
    have hk := h k rfl
    exact ⟨⟨fun q => absurd q (nI_nlt (Nat.zero_le k) hk), fun q => by cases q⟩, ⟨fun _ => rfl, fun _ => nI_le (Nat.zero_le k) hk⟩, ⟨fun q => absurd q (nI_neg1 hk), fun q => by cases q⟩⟩
theorem sTP_lt {l : Nat} {h : Int32} : ∀ k, sTP d l h = some k → k < 2 ^ 31 := by
  intro k e
  have := (sTPF_some e).2.1
  have h2 : nT d l < 2 ^ 31 := by
    unfold nT
    have h1 := Int32.toInt_lt (d (51 + 7 * l))
    show (d (51 + 7 * l)).toInt.toNat < 2 ^ 31
    omega
  omega
theorem C_payAtMost (hY : WY Y w) {l : Nat} {a : Int32} (hl : l < 8) : f_X2_payAtMost Y (w + (14 + 2 * l)) a (sw N w c) = some (mn a (c (14 + 2 * l) 2), sw N w (up2 c (14 + 2 * l) 2 (c (14 + 2 * l) 2 - mn a (c (14 + 2 * l) 2)))) := by
  unfold f_X2_payAtMost mn
  simp (disch := omega) only [↓lt_eq, bd, bd2, Option.bind_some, nI_lit, nI_clamp, nI_add, xb_nI, if_true, gi_sw, gi_sw0, si_sw, si_sw0, hY.g0, hY.g2, hY.g4, hY.g13, hY.g14, hY.f0, hY.f2, hY.h, hY.l, hY.t, hY.r]
  split <;> rfl
/-- the class's shift of tenants -/
def shC (l : Nat) : Nat → Nat → (Nat → Nat → Int32) → (Nat → Nat → Int32)
  | 0, _, c => c
  | z + 1, p, c => shC l z (p + 1) (up2 c (15 + 2 * l) (p - 1) (c (15 + 2 * l) p))
theorem shC_at (l : Nat) : ∀ (z p : Nat) (c : Nat → Nat → Int32) (o k : Nat), 0 < p → shC l z p c o k = if o = 15 + 2 * l ∧ p - 1 ≤ k ∧ k < p - 1 + z then c o (k + 1) else c o k := by
  intro z
  induction z with
  | zero => intro p c o k hp; rw [if_neg (by omega)]; rfl
  | succ z ih =>
    intro p c o k hp
    show shC l z (p + 1) (up2 c (15 + 2 * l) (p - 1) (c (15 + 2 * l) p)) o k = _
    rw [ih (p + 1) _ o k (by omega)]
    by_cases h1 : o = 15 + 2 * l ∧ p + 1 - 1 ≤ k ∧ k < p + 1 - 1 + z
    · rw [if_pos h1, if_pos (by omega), up2_n _ _ (by omega)]
    · rw [if_neg h1]
      by_cases h2 : o = 15 + 2 * l ∧ k = p - 1
      · rw [if_pos (by omega), h2.1, h2.2, up2_s, show p - 1 + 1 = p by omega]
      · rw [up2_n _ _ (by omega), if_neg (by omega)]
theorem C_remove_B (hY : WY Y w) {l n : Nat} {h : Int32} (hl : l < 8) (hn : n ≤ 3) : ∀ (z p D9 : Nat) (c : Nat → Nat → Int32), 0 < p → p + z = n → z < D9 → c (14 + 2 * l) 4 = nI n → (∀ k, p ≤ k → k < n → c (15 + 2 * l) k ≠ h) → f_X2_removeTenant_4 Y D9 (w + (14 + 2 * l)) h (nI (p - 1)) (nI p) (sw N w c) = some (sw N w (up2 (shC l z p c) (14 + 2 * l) 4 (nI (n - 1)))) := by
  intro z
  induction z with
  | zero =>
    intro p D9 c hp hi hD hc hh
    obtain ⟨D8, rfl⟩ : ∃ z, D9 = z + 1 := ⟨D9 - 1, by omega⟩
    rw [f_X2_removeTenant_4]
    simp (disch := omega) only [↓lt_eq, bd, bd2, Option.bind_some, nI_lit, nI_clamp, nI_add, xb_nI, if_true, gi_sw, gi_sw0, si_sw, si_sw0, hY.g0, hY.g2, hY.g4, hY.g13, hY.g14, hY.f0, hY.f2, hY.h, hY.l, hY.t, hY.r, hc, iLEt]
    rw [show p = n by omega]
    rfl
  | succ z ih =>
    intro p D9 c hp hi hD hc hh
    obtain ⟨D8, rfl⟩ : ∃ z, D9 = z + 1 := ⟨D9 - 1, by omega⟩
    rw [f_X2_removeTenant_4]
    have h1 := hh p (Nat.le_refl p) (by omega)
    simp (disch := omega) only [↓lt_eq, bd, bd2, Option.bind_some, nI_lit, nI_clamp, nI_add, xb_nI, if_true, gi_sw, gi_sw0, si_sw, si_sw0, hY.g0, hY.g2, hY.g4, hY.g13, hY.g14, hY.f0, hY.f2, hY.h, hY.l, hY.t, hY.r, hc, iLEf]
    rw [if_neg h1]
    have := ih (p + 1) D8 (up2 c (15 + 2 * l) (p - 1) (c (15 + 2 * l) p)) (by omega) (by omega) (by omega) (by rw [up2_n _ _ (by omega)]; exact hc) (fun k hk hk2 => by rw [up2_n _ _ (by omega)]; exact hh k (by omega) hk2)
    rw [show p + 1 - 1 = p - 1 + 1 by omega] at this
    exact this
def remC (l n : Nat) (c : Nat → Nat → Int32) : Option Nat → (Nat → Nat → Int32)
  | none => c
  | some k => up2 (shC l (n - 1 - k) (k + 1) c) (14 + 2 * l) 4 (nI (n - 1))
theorem C_remove_A (hY : WY Y w) {l n : Nat} {h : Int32} (hl : l < 8) (hn : n ≤ 3) (hc : c (14 + 2 * l) 4 = nI n) (hd : ∀ i j, i < j → j < n → c (15 + 2 * l) i ≠ c (15 + 2 * l) j) (o : Option Nat) (ho : ∀ k, o = some k → k < n ∧ c (15 + 2 * l) k = h) (ho2 : o = none → ∀ k, k < n → c (15 + 2 * l) k ≠ h) : ∀ (z p D9 : Nat), p + z = n → z < D9 → (∀ k, o = some k → p ≤ k) → f_X2_removeTenant_4 Y D9 (w + (14 + 2 * l)) h (nI p) (nI p) (sw N w c) = some (sw N w (remC l n c o)) := by
  intro z
  induction z with
  | zero =>
    intro p D9 hi hD hp
    obtain ⟨D8, rfl⟩ : ∃ z, D9 = z + 1 := ⟨D9 - 1, by omega⟩
    rw [f_X2_removeTenant_4]
    simp (disch := omega) only [↓lt_eq, bd, bd2, Option.bind_some, nI_lit, nI_clamp, nI_add, xb_nI, if_true, gi_sw, gi_sw0, si_sw, si_sw0, hY.g0, hY.g2, hY.g4, hY.g13, hY.g14, hY.f0, hY.f2, hY.h, hY.l, hY.t, hY.r, hc, iLEt]
    cases o with
    | none => show some (sw N w (up2 c (14 + 2 * l) 4 (nI p))) = some (sw N w c)
              rw [show p = n by omega, ← hc, up2_self]
    | some k => have := hp k rfl; have := (ho k rfl).1; omega
  | succ z ih =>
    intro p D9 hi hD hp
    obtain ⟨D8, rfl⟩ : ∃ z, D9 = z + 1 := ⟨D9 - 1, by omega⟩
    rw [f_X2_removeTenant_4]
    simp (disch := omega) only [↓lt_eq, bd, bd2, Option.bind_some, nI_lit, nI_clamp, nI_add, xb_nI, if_true, gi_sw, gi_sw0, si_sw, si_sw0, hY.g0, hY.g2, hY.g4, hY.g13, hY.g14, hY.f0, hY.f2, hY.h, hY.l, hY.t, hY.r, hc, iLEf]
    by_cases q : c (15 + 2 * l) p = h
    · rw [if_pos q]
      cases o with
      | none => exact absurd q (ho2 rfl p (by omega))
      | some k =>
        have h1 := hp k rfl
        obtain ⟨h2, h3⟩ := ho k rfl
        have e : k = p := by
          rcases Nat.lt_or_ge p k with q2 | q2
          · exact absurd (q.trans h3.symm) (hd p k q2 h2)
          · omega
        subst e
        have := C_remove_B (N := N) (h := h) hY hl hn z (k + 1) D8 c (by omega) (by omega) (by omega) hc (fun j hj hj2 q2 => hd k j (by omega) hj2 (h3.trans q2.symm))
        show _ = some (sw N w (up2 (shC l (n - 1 - k) (k + 1) c) (14 + 2 * l) 4 (nI (n - 1))))
        rw [show n - 1 - k = z by omega]
        exact this
    · rw [if_neg q, up2_self]
      exact ih (p + 1) D8 (by omega) (by omega) (fun k hk => by
        have h1 := hp k hk
        have h2 := (ho k hk).2
        by_cases e : p = k
        · rw [e] at q; exact absurd h2 q
        · omega)
/-- a tenant leaves a line, in both -/
theorem C_removeTenant (hY : WY Y w) (hC : CD H L R T d c) {l : Nat} {h : Int32} {HH : Nat} (hl : l < L) (hH : H ≤ 6) (hL : L ≤ 8) (hn : LN HH d l) (hT : T l = nT d l) : ∃ c', f_X2_removeTenant Y (w + (14 + 2 * l)) h (sw N w c) = some (sw N w c') ∧ CD H L R (fun l' => if l' = l then nT (sLeave d h l) l else T l') (sLeave d h l) c' ∧ ∀ o k, o ≠ 15 + 2 * l → o ≠ 14 + 2 * l → c' o k = c o k := by
  have h3 := hn.2.1
  have et : ∀ k, k < nT d l → c (15 + 2 * l) k = d (52 + 7 * l + k) := fun k hk => hC.t hl (by omega) (by omega)
  have hc : c (14 + 2 * l) 4 = nI (nT d l) := (hC.l4 hl).trans hn.1
  have A := fun o h1 h2 h3' => C_remove_A (N := N) (h := h) hY (l := l) (by omega) h3 hc (fun i j hij hj => by rw [et i (by omega), et j hj]; exact hn.2.2.2 i j hij hj) o h1 h2 (nT d l) 0 FU (by omega) (by unfold FU; omega) h3'
  rcases sLeave_or hn h with ⟨h1, h2, h4⟩ | ⟨k, h1, h2, h4, h5⟩
  · have a := A none (fun k q => by cases q) (fun _ k hk => by rw [et k hk]; exact h2 k hk) (fun k q => by cases q)
    rw [show remC l (nT d l) c none = c from rfl] at a
    refine ⟨c, a, ?_, fun _ _ _ _ => rfl⟩
    rw [h4]
    refine hC.less (Nat.le_refl _) (Nat.le_refl _) (Nat.le_refl _) (fun l' _ => ?_)
    split
    · rename_i e; rw [e, hT]; exact Nat.le_refl _
    · exact Nat.le_refl _
  · have a := A (some k) (fun k' q => by cases q; exact ⟨h2, by rw [et k h2]; exact h4⟩) (fun q => by cases q) (fun k' q => by cases q; omega)
    have e0 : sLeave d h l (51 + 7 * l) = nI (nT d l - 1) := by rw [h5, if_pos rfl]
    have en : nT (sLeave d h l) l = nT d l - 1 := by
      show (sLeave d h l (51 + 7 * l)).toNatClampNeg = _
      rw [e0]; exact nI_clamp (by omega)
    have at1 : ∀ o j, (o ≠ 15 + 2 * l ∧ (o ≠ 14 + 2 * l ∨ j ≠ 4)) → up2 (shC l (nT d l - 1 - k) (k + 1) c) (14 + 2 * l) 4 (nI (nT d l - 1)) o j = c o j := by
      intro o j q
      rw [up2_n _ _ (by omega), shC_at _ _ _ _ _ _ (by omega), if_neg (by omega)]
    obtain ⟨w1, w2, w3, w4, w5⟩ := hC
    rw [show remC l (nT d l) c (some k) = up2 (shC l (nT d l - 1 - k) (k + 1) c) (14 + 2 * l) 4 (nI (nT d l - 1)) from rfl] at a
    refine ⟨_, a, ⟨fun k' j' h' => ?_, fun i' k' j' hi' h' => ?_, fun i' k' j' hi' h' => ?_, fun i' k' hi' h3' h' => ?_, fun i' k' j' hi' h' => ?_⟩, fun o j h6 h7 => at1 o j (by omega)⟩
    · have b' := h'.b; rw [at1 _ _ (by omega), sLeave_far hn h (by omega)]; exact w1 k' j' h'
    · have b' := h'.b; rw [at1 _ _ (by omega), sLeave_far hn h (by omega)]; exact w2 i' k' j' hi' h'
    · have b' := h'.b
      have bi := h'.i (show Lp 4 51 by unfold Lp; decide)
      by_cases q : i' = l ∧ k' = 4
      · obtain ⟨rfl, rfl⟩ := q
        rw [bi.mp rfl, up2_s, e0]
      · rw [at1 _ _ (by omega), sLeave_far hn h (by omega)]; exact w3 i' k' j' hi' h'
    · by_cases q : i' = l
      · subst q
        simp only [if_true, en] at h'
        rw [h5, if_neg (by omega), up2_n _ _ (by omega), shC_at _ _ _ _ _ _ (by omega)]
        by_cases q2 : k ≤ k'
        · rw [if_pos (by omega), if_pos (by omega)]
          exact et (k' + 1) (by omega)
        · rw [if_neg (by omega), if_neg (by omega)]
          exact et k' (by omega)
      · simp only [if_neg q] at h'
        rw [at1 _ _ (by omega), sLeave_far hn h (by omega)]; exact w4 i' k' hi' h3' h'
    · have b' := h'.b; rw [at1 _ _ (by omega), sLeave_far hn h (by omega)]; exact w5 i' k' j' hi' h'
end CL1

