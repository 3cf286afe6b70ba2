/-! PRUNED: of whole -/
/-- the block of cells that stands at w -/
def wc (N : XN) (w : Nat) : Nat → Nat → Int32 := fun o k => N.1 (w + o) k
theorem gi_wc (N : XN) (w o k : Nat) : gi N (w + o) k = wc N w o k := rfl
theorem gi_wc0 (N : XN) (w k : Nat) : gi N w k = wc N w 0 k := rfl
theorem gi_sw2 {N : XN} {w w2 : Nat} (hd : w2 + 90 ≤ w ∨ w + 90 ≤ w2) {c : Nat → Nat → Int32} {o : Nat} (k : Nat) (h : o < 90) : gi (sw N w c) (w2 + o) k = wc N w2 o k := gi_sw_ne k (by omega)
theorem gi_sw20 {N : XN} {w w2 : Nat} (hd : w2 + 90 ≤ w ∨ w + 90 ≤ w2) {c : Nat → Nat → Int32} (k : Nat) : gi (sw N w c) w2 k = wc N w2 0 k := gi_sw_ne k (by omega)
/-- where S says so, c holds what src holds -/
def EQ (src : Nat → Nat → Int32) (S : Nat → Nat → Prop) (c : Nat → Nat → Int32) : Prop := ∀ o k, S o k → c o k = src o k
theorem EQ.up {src c : Nat → Nat → Int32} {S : Nat → Nat → Prop} (h : EQ src S c) (o k : Nat) {v : Int32} (hv : v = src o k) : EQ src (fun o' k' => S o' k' ∨ (o' = o ∧ k' = k)) (up2 c o k v) := by
  intro o' k' q
  by_cases z : o' = o ∧ k' = k
  · rw [z.1, z.2, up2_s, hv]
  · rw [up2_n _ _ (by omega)]
    exact h o' k' (q.resolve_right z)
theorem EQ.less {src c : Nat → Nat → Int32} {S S' : Nat → Nat → Prop} (h : EQ src S c) (hs : ∀ o k, S' o k → S o k) : EQ src S' c := fun o k q => h o k (hs o k q)
section CP9
variable {P : Nat → Int32} {Y : XY} {m w w2 : Nat} {N : XN} {d : XD} {ops : List Int32}
theorem C_copy_F (hY : WY Y w) (hY2 : WY Y w2) (hd : w2 + 90 ≤ w ∨ w + 90 ≤ w2) : ∀ (z i D9 : Nat) (c : Nat → Nat → Int32) (S : Nat → Nat → Prop), EQ (wc N w2) S c → c 4 1 = nI (i + z) → i + z ≤ 700 → z < D9 → ∃ c', f_X0_copyOf_10 Y D9 (w + 4) (w2 + 4) (nI i) (sw N w c) = some (sw N w c') ∧ EQ (wc N w2) (fun o k => S o k ∨ (o = 5 ∧ i ≤ k ∧ k < i + z)) c' := by
  intro z
  induction z with
  | zero =>
    intro i D9 c S hS hc hi hD9
    obtain ⟨D8, rfl⟩ : ∃ z, D9 = z + 1 := ⟨D9 - 1, by omega⟩
    refine ⟨c, ?_, hS.less (fun o k q => q.resolve_right (by omega))⟩
    rw [f_X0_copyOf_10]
    simp (disch := omega) only [↓lt_eq, bd, bd2, Option.bind_some, nI_lit, nI_clamp, nI_add, xb_nI, if_true, gi_sw, gi_sw0, si_sw, si_sw0, hY.g0, hY.g2, hY.g4, hY.g13, hY.g14, hY.f0, hY.f2, hY.h, hY.l, hY.t, hY.r, ↓reduceIte, pLEt, pLEf, pLTt, pLTf, pEQf, pML, pMG, pMf, pMg, hc]
  | succ z ih =>
    intro i D9 c S hS hc hi hD9
    obtain ⟨D8, rfl⟩ : ∃ z, D9 = z + 1 := ⟨D9 - 1, by omega⟩
    obtain ⟨c2, f1, f2⟩ := ih (i + 1) D8 _ _ (hS.up 5 i (v := wc N w2 5 i) rfl) (by rw [up2_n _ _ (by omega), hc]; congr 1; omega) (by omega) (by omega)
    refine ⟨c2, ?_, f2.less (fun o k q => ?_)⟩
    · rw [f_X0_copyOf_10]
      simp (disch := omega) only [↓lt_eq, bd, bd2, Option.bind_some, nI_lit, nI_clamp, nI_add, xb_nI, if_true, gi_sw, gi_sw0, si_sw, si_sw0, hY.g0, hY.g2, hY.g4, hY.g13, hY.g14, hY.f0, hY.f2, hY.h, hY.l, hY.t, hY.r, ↓reduceIte, pLEt, pLEf, pLTt, pLTf, pEQf, pML, pMG, pMf, pMg, hc, hY2.f0, gi_sw2 hd, gi_sw20 hd]
      exact f1
    · rcases q with q | q
      · exact Or.inl (Or.inl q)
      · by_cases z9 : k = i
        · exact Or.inl (Or.inr ⟨q.1, z9⟩)
        · exact Or.inr ⟨q.1, by omega, by omega⟩
/-- what of a world is copied: R requests still wanting from r on -/
theorem C_copy_R (hY : WY Y w) (hY2 : WY Y w2) (hd : w2 + 90 ≤ w ∨ w + 90 ≤ w2) {n fc : Nat} (hn : n ≤ 60) (hfc : fc ≤ 700) (hf : wc N w2 4 1 = nI fc) : ∀ (z i D9 : Nat) (c : Nat → Nat → Int32) (S : Nat → Nat → Prop), EQ (wc N w2) S c → c 0 5 = nI n → i + z = n → z < D9 → ∃ c', f_X6_copyOf_88 Y D9 w w2 (nI i) (sw N w c) = some (sw N w c') ∧ EQ (wc N w2) (fun o k => S o k ∨ (30 + i ≤ o ∧ o < 30 + n ∧ k < 8) ∨ (o = 0 ∧ 6 ≤ k ∧ k ≤ 12) ∨ (o = 4 ∧ k = 1) ∨ (o = 5 ∧ k < fc)) c' := by
  intro z
  induction z with
  | zero =>
    intro i D9 c S hS hc hi hD9
    obtain ⟨D8, rfl⟩ : ∃ z, D9 = z + 1 := ⟨D9 - 1, by omega⟩
    have h1 := (((((((hS.up 0 6 (v := wc N w2 0 6) rfl).up 0 7 (v := wc N w2 0 7) rfl).up 0 8 (v := wc N w2 0 8) rfl).up 0 9 (v := wc N w2 0 9) rfl).up 0 10 (v := wc N w2 0 10) rfl).up 0 11 (v := wc N w2 0 11) rfl).up 0 12 (v := wc N w2 0 12) rfl).up 4 1 (v := wc N w2 4 1) rfl
    obtain ⟨c2, f1, f2⟩ := C_copy_F (N := N) hY hY2 hd fc 0 FU _ _ h1 (by rw [up2_s, hf, Nat.zero_add]) (by omega) (by unfold FU; omega)
    refine ⟨c2, ?_, f2.less (fun o k q => ?_)⟩
    · rw [f_X6_copyOf_88]
      unfold f_X0_copyOf
      simp (disch := omega) only [↓lt_eq, bd, bd2, Option.bind_some, nI_lit, nI_clamp, nI_add, xb_nI, if_true, gi_sw, gi_sw0, si_sw, si_sw0, hY.g0, hY.g2, hY.g4, hY.g13, hY.g14, hY.f0, hY.f2, hY.h, hY.l, hY.t, hY.r, ↓reduceIte, pLEt, pLEf, pLTt, pLTf, pEQf, pML, pMG, pMf, pMg, hc, hY2.g13, gi_sw2 hd, gi_sw20 hd]
      simp (disch := omega) only [f1, bd, Option.bind_some]
    · have : k = 6 ∨ k = 7 ∨ k = 8 ∨ k = 9 ∨ k = 10 ∨ k = 11 ∨ k = 12 ∨ ¬ (6 ≤ k ∧ k ≤ 12) := by omega
      rcases q with q | q | q | q | q
      · exact Or.inl (Or.inl (Or.inl (Or.inl (Or.inl (Or.inl (Or.inl (Or.inl (Or.inl q))))))))
      · omega
      · rcases this with k9 | k9 | k9 | k9 | k9 | k9 | k9 | k9
        · exact Or.inl (Or.inl (Or.inl (Or.inl (Or.inl (Or.inl (Or.inl (Or.inl (Or.inr ⟨q.1, k9⟩))))))))
        · exact Or.inl (Or.inl (Or.inl (Or.inl (Or.inl (Or.inl (Or.inl (Or.inr ⟨q.1, k9⟩)))))))
        · exact Or.inl (Or.inl (Or.inl (Or.inl (Or.inl (Or.inl (Or.inr ⟨q.1, k9⟩))))))
        · exact Or.inl (Or.inl (Or.inl (Or.inl (Or.inl (Or.inr ⟨q.1, k9⟩)))))
        · exact Or.inl (Or.inl (Or.inl (Or.inl (Or.inr ⟨q.1, k9⟩))))
        · exact Or.inl (Or.inl (Or.inl (Or.inr ⟨q.1, k9⟩)))
        · exact Or.inl (Or.inl (Or.inr ⟨q.1, k9⟩))
        · exact absurd q.2 k9
      · exact Or.inl (Or.inr q)
      · exact Or.inr ⟨q.1, by omega, by omega⟩
  | succ z ih =>
    intro i D9 c S hS hc hi hD9
    obtain ⟨D8, rfl⟩ : ∃ z, D9 = z + 1 := ⟨D9 - 1, by omega⟩
    have h1 := (((((((hS.up (30 + i) 0 (v := wc N w2 (30 + i) 0) rfl).up (30 + i) 1 (v := wc N w2 (30 + i) 1) rfl).up (30 + i) 2 (v := wc N w2 (30 + i) 2) rfl).up (30 + i) 3 (v := wc N w2 (30 + i) 3) rfl).up (30 + i) 4 (v := wc N w2 (30 + i) 4) rfl).up (30 + i) 5 (v := wc N w2 (30 + i) 5) rfl).up (30 + i) 6 (v := wc N w2 (30 + i) 6) rfl).up (30 + i) 7 (v := wc N w2 (30 + i) 7) rfl
    obtain ⟨c2, f1, f2⟩ := ih (i + 1) D8 _ _ h1 (by simp (disch := omega) only [up2_n]; exact hc) (by omega) (by omega)
    refine ⟨c2, ?_, f2.less (fun o k q => ?_)⟩
    · rw [f_X6_copyOf_88]
      unfold f_X3_copyOf
      simp (disch := omega) only [↓lt_eq, bd, bd2, Option.bind_some, nI_lit, nI_clamp, nI_add, xb_nI, if_true, gi_sw, gi_sw0, si_sw, si_sw0, hY.g0, hY.g2, hY.g4, hY.g13, hY.g14, hY.f0, hY.f2, hY.h, hY.l, hY.t, hY.r, ↓reduceIte, pLEt, pLEf, pLTt, pLTf, pEQf, pML, pMG, pMf, pMg, hc, hY2.g4, hY2.r, gi_sw2 hd, gi_sw20 hd]
      exact f1
    · rcases q with q | q | q
      · exact Or.inl (Or.inl (Or.inl (Or.inl (Or.inl (Or.inl (Or.inl (Or.inl (Or.inl q))))))))
      · by_cases z9 : o = 30 + i
        · have : k = 0 ∨ k = 1 ∨ k = 2 ∨ k = 3 ∨ k = 4 ∨ k = 5 ∨ k = 6 ∨ k = 7 := by omega
          rcases this with k9 | k9 | k9 | k9 | k9 | k9 | k9 | k9
          · exact Or.inl (Or.inl (Or.inl (Or.inl (Or.inl (Or.inl (Or.inl (Or.inl (Or.inr ⟨z9, k9⟩))))))))
          · exact Or.inl (Or.inl (Or.inl (Or.inl (Or.inl (Or.inl (Or.inl (Or.inr ⟨z9, k9⟩)))))))
          · exact Or.inl (Or.inl (Or.inl (Or.inl (Or.inl (Or.inl (Or.inr ⟨z9, k9⟩))))))
          · exact Or.inl (Or.inl (Or.inl (Or.inl (Or.inl (Or.inr ⟨z9, k9⟩)))))
          · exact Or.inl (Or.inl (Or.inl (Or.inl (Or.inr ⟨z9, k9⟩))))
          · exact Or.inl (Or.inl (Or.inl (Or.inr ⟨z9, k9⟩)))
          · exact Or.inl (Or.inl (Or.inr ⟨z9, k9⟩))
          · exact Or.inl (Or.inr ⟨z9, k9⟩)
        · exact Or.inr (Or.inl ⟨by omega, q.2⟩)
      · exact Or.inr (Or.inr q)
theorem C_copy_T (hY : WY Y w) (hY2 : WY Y w2) (hd : w2 + 90 ≤ w ∨ w + 90 ≤ w2) {l : Nat} (hl : l < 8) : ∀ (z i D9 : Nat) (c : Nat → Nat → Int32) (S : Nat → Nat → Prop), EQ (wc N w2) S c → i + z = 3 → z < D9 → ∃ c', f_X2_copyOf_34 Y D9 (w + (14 + 2 * l)) (w2 + (14 + 2 * l)) (nI i) (sw N w c) = some (sw N w c') ∧ EQ (wc N w2) (fun o k => S o k ∨ (o = 15 + 2 * l ∧ i ≤ k ∧ k < 3)) c' ∧ ∀ o k, o ≠ 15 + 2 * l → c' o k = c o k := by
  intro z
  induction z with
  | zero =>
    intro i D9 c S hS hi hD9
    obtain ⟨D8, rfl⟩ : ∃ z, D9 = z + 1 := ⟨D9 - 1, by omega⟩
    refine ⟨c, ?_, hS.less (fun o k q => q.resolve_right (by omega)), fun _ _ _ => rfl⟩
    rw [f_X2_copyOf_34]
    simp (disch := omega) only [↓lt_eq, bd, bd2, Option.bind_some, nI_lit, nI_clamp, nI_add, xb_nI, if_true, gi_sw, gi_sw0, si_sw, si_sw0, hY.g0, hY.g2, hY.g4, hY.g13, hY.g14, hY.f0, hY.f2, hY.h, hY.l, hY.t, hY.r, ↓reduceIte, pLEt, pLEf, pLTt, pLTf, pEQf, pML, pMG, pMf, pMg]
  | succ z ih =>
    intro i D9 c S hS hi hD9
    obtain ⟨D8, rfl⟩ : ∃ z, D9 = z + 1 := ⟨D9 - 1, by omega⟩
    obtain ⟨c2, f1, f2, f3⟩ := ih (i + 1) D8 _ _ (hS.up (15 + 2 * l) i (v := wc N w2 (15 + 2 * l) i) rfl) (by omega) (by omega)
    refine ⟨c2, ?_, f2.less (fun o k q => ?_), fun o k q => (f3 o k q).trans (up2_n _ _ (by omega))⟩
    · rw [f_X2_copyOf_34]
      simp (disch := omega) only [↓lt_eq, bd, bd2, Option.bind_some, nI_lit, nI_clamp, nI_add, xb_nI, if_true, gi_sw, gi_sw0, si_sw, si_sw0, hY.g0, hY.g2, hY.g4, hY.g13, hY.g14, hY.f0, hY.f2, hY.h, hY.l, hY.t, hY.r, ↓reduceIte, pLEt, pLEf, pLTt, pLTf, pEQf, pML, pMG, pMf, pMg, hY2.t, gi_sw2 hd, gi_sw20 hd]
      exact f1
    · rcases q with q | q
      · exact Or.inl (Or.inl q)
      · by_cases z9 : k = i
        · exact Or.inl (Or.inr ⟨q.1, z9⟩)
        · exact Or.inr ⟨q.1, by omega, by omega⟩
theorem C_copy_L (hY : WY Y w) (hY2 : WY Y w2) (hd : w2 + 90 ≤ w ∨ w + 90 ≤ w2) {n nr fc : Nat} (hn : n ≤ 8) (hnr : nr ≤ 60) (hr : wc N w2 0 5 = nI nr) (hfc : fc ≤ 700) (hf : wc N w2 4 1 = nI fc) : ∀ (z i D9 : Nat) (c : Nat → Nat → Int32) (S : Nat → Nat → Prop), EQ (wc N w2) S c → c 0 3 = nI n → i + z = n → z < D9 → ∃ c', f_X6_copyOf_49 Y D9 w w2 (nI i) (sw N w c) = some (sw N w c') ∧ EQ (wc N w2) (fun o k => S o k ∨ (14 + 2 * i ≤ o ∧ o < 14 + 2 * n ∧ ((o % 2 = 0 ∧ k < 5 ∧ k ≠ 3) ∨ (o % 2 = 1 ∧ k < 3))) ∨ (o = 0 ∧ k = 5) ∨ (30 ≤ o ∧ o < 30 + nr ∧ k < 8) ∨ (o = 0 ∧ 6 ≤ k ∧ k ≤ 12) ∨ (o = 4 ∧ k = 1) ∨ (o = 5 ∧ k < fc)) c' := by
  intro z
  induction z with
  | zero =>
    intro i D9 c S hS hc hi hD9
    obtain ⟨D8, rfl⟩ : ∃ z, D9 = z + 1 := ⟨D9 - 1, by omega⟩
    obtain ⟨c2, f1, f2⟩ := C_copy_R (N := N) hY hY2 hd hnr hfc hf nr 0 FU _ _ (hS.up 0 5 (v := wc N w2 0 5) rfl) (by rw [up2_s, hr]) (by omega) (by unfold FU; omega)
    refine ⟨c2, ?_, f2.less (fun o k q => ?_)⟩
    · rw [f_X6_copyOf_49]
      simp (disch := omega) only [↓lt_eq, bd, bd2, Option.bind_some, nI_lit, nI_clamp, nI_add, xb_nI, if_true, gi_sw, gi_sw0, si_sw, si_sw0, hY.g0, hY.g2, hY.g4, hY.g13, hY.g14, hY.f0, hY.f2, hY.h, hY.l, hY.t, hY.r, ↓reduceIte, pLEt, pLEf, pLTt, pLTf, pEQf, pML, pMG, pMf, pMg, hc, gi_sw2 hd, gi_sw20 hd]
      exact f1
    · rcases q with q | q | q | q
      · exact Or.inl (Or.inl q)
      · omega
      · exact Or.inl (Or.inr q)
      · exact Or.inr q
  | succ z ih =>
    intro i D9 c S hS hc hi hD9
    obtain ⟨D8, rfl⟩ : ∃ z, D9 = z + 1 := ⟨D9 - 1, by omega⟩
    have h1 := (((hS.up (14 + 2 * i) 0 (v := wc N w2 (14 + 2 * i) 0) rfl).up (14 + 2 * i) 1 (v := wc N w2 (14 + 2 * i) 1) rfl).up (14 + 2 * i) 2 (v := wc N w2 (14 + 2 * i) 2) rfl).up (14 + 2 * i) 4 (v := wc N w2 (14 + 2 * i) 4) rfl
    obtain ⟨c1, t1, t2, t3⟩ := C_copy_T (N := N) hY hY2 hd (l := i) (by omega) 3 0 FU _ _ h1 (by omega) (by unfold FU; omega)
    obtain ⟨c2, f1, f2⟩ := ih (i + 1) D8 _ _ t2 (by rw [t3 _ _ (by omega)]; simp (disch := omega) only [up2_n]; exact hc) (by omega) (by omega)
    refine ⟨c2, ?_, f2.less (fun o k q => ?_)⟩
    · rw [f_X6_copyOf_49]
      unfold f_X2_copyOf
      simp (disch := omega) only [↓lt_eq, bd, bd2, Option.bind_some, nI_lit, nI_clamp, nI_add, xb_nI, if_true, gi_sw, gi_sw0, si_sw, si_sw0, hY.g0, hY.g2, hY.g4, hY.g13, hY.g14, hY.f0, hY.f2, hY.h, hY.l, hY.t, hY.r, ↓reduceIte, pLEt, pLEf, pLTt, pLTf, pEQf, pML, pMG, pMf, pMg, hc, hY2.g2, hY2.l, gi_sw2 hd, gi_sw20 hd, t1]
      exact f1
    · rcases q with q | q | q
      · exact Or.inl (Or.inl (Or.inl (Or.inl (Or.inl (Or.inl q)))))
      · by_cases z9 : o = 14 + 2 * i
        · have : k = 0 ∨ k = 1 ∨ k = 2 ∨ k = 4 := by omega
          rcases this with k9 | k9 | k9 | k9
          · exact Or.inl (Or.inl (Or.inl (Or.inl (Or.inl (Or.inr ⟨z9, k9⟩)))))
          · exact Or.inl (Or.inl (Or.inl (Or.inl (Or.inr ⟨z9, k9⟩))))
          · exact Or.inl (Or.inl (Or.inl (Or.inr ⟨z9, k9⟩)))
          · exact Or.inl (Or.inl (Or.inr ⟨z9, k9⟩))
        · by_cases z8 : o = 15 + 2 * i
          · exact Or.inl (Or.inr ⟨z8, by omega, by omega⟩)
          · exact Or.inr (Or.inl ⟨by omega, q.2⟩)
      · exact Or.inr (Or.inr q)
theorem xz_nI {v : Int32} (h : v = nI 0 ∨ v = nI 1) : xz v = true := by rcases h with rfl | rfl <;> decide
theorem C_copy_H (hY : WY Y w) (hY2 : WY Y w2) (hd : w2 + 90 ≤ w ∨ w + 90 ≤ w2) {n nl nr fc : Nat} (hn : n ≤ 6) (hb : ∀ i, i < n → wc N w2 (8 + i) 2 = nI 0 ∨ wc N w2 (8 + i) 2 = nI 1) (hnl : nl ≤ 8) (hl : wc N w2 0 3 = nI nl) (hnr : nr ≤ 60) (hr : wc N w2 0 5 = nI nr) (hfc : fc ≤ 700) (hf : wc N w2 4 1 = nI fc) : ∀ (z i D9 : Nat) (c : Nat → Nat → Int32) (S : Nat → Nat → Prop), EQ (wc N w2) S c → c 0 1 = nI n → i + z = n → z < D9 → ∃ c', f_X6_copyOf_10 Y D9 w w2 (nI i) (sw N w c) = some (sw N w c') ∧ EQ (wc N w2) (fun o k => S o k ∨ (8 + i ≤ o ∧ o < 8 + n ∧ k < 7) ∨ (o = 0 ∧ k = 3) ∨ (14 ≤ o ∧ o < 14 + 2 * nl ∧ ((o % 2 = 0 ∧ k < 5 ∧ k ≠ 3) ∨ (o % 2 = 1 ∧ k < 3))) ∨ (o = 0 ∧ k = 5) ∨ (30 ≤ o ∧ o < 30 + nr ∧ k < 8) ∨ (o = 0 ∧ 6 ≤ k ∧ k ≤ 12) ∨ (o = 4 ∧ k = 1) ∨ (o = 5 ∧ k < fc)) c' := by
  intro z
  induction z with
  | zero =>
    intro i D9 c S hS hc hi hD9
    obtain ⟨D8, rfl⟩ : ∃ z, D9 = z + 1 := ⟨D9 - 1, by omega⟩
    obtain ⟨c2, f1, f2⟩ := C_copy_L (N := N) hY hY2 hd hnl hnr hr hfc hf nl 0 FU _ _ (hS.up 0 3 (v := wc N w2 0 3) rfl) (by rw [up2_s, hl]) (by omega) (by unfold FU; omega)
    refine ⟨c2, ?_, f2.less (fun o k q => ?_)⟩
    · rw [f_X6_copyOf_10]
      simp (disch := omega) only [↓lt_eq, bd, bd2, Option.bind_some, nI_lit, nI_clamp, nI_add, xb_nI, if_true, gi_sw, gi_sw0, si_sw, si_sw0, hY.g0, hY.g2, hY.g4, hY.g13, hY.g14, hY.f0, hY.f2, hY.h, hY.l, hY.t, hY.r, ↓reduceIte, pLEt, pLEf, pLTt, pLTf, pEQf, pML, pMG, pMf, pMg, hc, gi_sw2 hd, gi_sw20 hd]
      exact f1
    · rcases q with q | q | q | q
      · exact Or.inl (Or.inl q)
      · omega
      · exact Or.inl (Or.inr q)
      · exact Or.inr q
  | succ z ih =>
    intro i D9 c S hS hc hi hD9
    obtain ⟨D8, rfl⟩ : ∃ z, D9 = z + 1 := ⟨D9 - 1, by omega⟩
    have h1 := ((((((hS.up (8 + i) 0 (v := wc N w2 (8 + i) 0) rfl).up (8 + i) 1 (v := wc N w2 (8 + i) 1) rfl).up (8 + i) 2 (v := wc N w2 (8 + i) 2) rfl).up (8 + i) 3 (v := wc N w2 (8 + i) 3) rfl).up (8 + i) 4 (v := wc N w2 (8 + i) 4) rfl).up (8 + i) 5 (v := wc N w2 (8 + i) 5) rfl).up (8 + i) 6 (v := wc N w2 (8 + i) 6) rfl
    obtain ⟨c2, f1, f2⟩ := ih (i + 1) D8 _ _ h1 (by simp (disch := omega) only [up2_n]; exact hc) (by omega) (by omega)
    refine ⟨c2, ?_, f2.less (fun o k q => ?_)⟩
    · rw [f_X6_copyOf_10]
      unfold f_X1_copyOf
      have hx := xz_nI (hb i (by omega))
      simp (disch := omega) only [↓lt_eq, bd, bd2, Option.bind_some, nI_lit, nI_clamp, nI_add, xb_nI, if_true, gi_sw, gi_sw0, si_sw, si_sw0, hY.g0, hY.g2, hY.g4, hY.g13, hY.g14, hY.f0, hY.f2, hY.h, hY.l, hY.t, hY.r, ↓reduceIte, pLEt, pLEf, pLTt, pLTf, pEQf, pML, pMG, pMf, pMg, hc, hY2.g0, hY2.h, gi_sw2 hd, gi_sw20 hd, hx]
      exact f1
    · rcases q with q | q | q
      · exact Or.inl (Or.inl (Or.inl (Or.inl (Or.inl (Or.inl (Or.inl (Or.inl q)))))))
      · by_cases z9 : o = 8 + i
        · have : k = 0 ∨ k = 1 ∨ k = 2 ∨ k = 3 ∨ k = 4 ∨ k = 5 ∨ k = 6 := by omega
          rcases this with k9 | k9 | k9 | k9 | k9 | k9 | k9
          · exact Or.inl (Or.inl (Or.inl (Or.inl (Or.inl (Or.inl (Or.inl (Or.inr ⟨z9, k9⟩)))))))
          · exact Or.inl (Or.inl (Or.inl (Or.inl (Or.inl (Or.inl (Or.inr ⟨z9, k9⟩))))))
          · exact Or.inl (Or.inl (Or.inl (Or.inl (Or.inl (Or.inr ⟨z9, k9⟩)))))
          · exact Or.inl (Or.inl (Or.inl (Or.inl (Or.inr ⟨z9, k9⟩))))
          · exact Or.inl (Or.inl (Or.inl (Or.inr ⟨z9, k9⟩)))
          · exact Or.inl (Or.inl (Or.inr ⟨z9, k9⟩))
          · exact Or.inl (Or.inr ⟨z9, k9⟩)
        · exact Or.inr (Or.inl ⟨by omega, q.2⟩)
      · exact Or.inr (Or.inr q)
/-- a world copied shows what the other shows -/
theorem C_copyOf (hY : WY Y w) (hY2 : WY Y w2) (hd : w2 + 90 ≤ w ∨ w + 90 ≤ w2) (hD : DJ ops d) (hC : CR P ops d (wc N w2)) (c : Nat → Nat → Int32) : ∃ Q c', f_X6_copyOf Y w w2 (sw N w c) = some (sw N w c') ∧ CR Q ops d c' := by
  have h6 := hD.H6
  have h8 := hD.L8
  have h60 := hD.R60
  obtain ⟨hC1, ⟨⟨hF1, hF2⟩, -⟩, hC3⟩ := hC
  have hH := hC1.w1.trans hD.H
  have e0 : EQ (wc N w2) (fun _ _ => False) c := fun o k q => q.elim
  obtain ⟨c2, f1, f2⟩ := C_copy_H (N := N) hY hY2 hd h6 (fun i hi => by rw [hC1.h2 hi]; exact hD.B i hi) h8 (hC1.w3.trans hD.L) h60 (hC1.w5.trans hD.R) hD.C.2.1 hF1 (nH d) 0 FU _ _ (e0.up 0 1 (v := wc N w2 0 1) rfl) (by rw [up2_s, hH]) (by omega) (by unfold FU; omega)
  refine ⟨c2 7, c2, ?_, ?_, ⟨⟨?_, fun i hi => ?_⟩, fun k _ => rfl⟩, fun i hi => ?_⟩
  · unfold f_X6_copyOf
    simp (disch := omega) only [↓lt_eq, bd, bd2, Option.bind_some, nI_lit, nI_clamp, nI_add, xb_nI, if_true, gi_sw, gi_sw0, si_sw, si_sw0, hY.g0, hY.g2, hY.g4, hY.g13, hY.g14, hY.f0, hY.f2, hY.h, hY.l, hY.t, hY.r, ↓reduceIte, pLEt, pLEf, pLTt, pLTf, pEQf, pML, pMG, pMf, pMg, gi_sw2 hd, gi_sw20 hd]
    exact f1
  · obtain ⟨w1, w2', w3, w4, w5⟩ := hC1
    refine ⟨fun k j h => ?_, fun i k j hi h => ?_, fun i k j hi h => ?_, fun i k hi h3 h => ?_, fun i k j hi h => ?_⟩
    · rw [← w1 k j h]
      refine f2 0 k ?_
      unfold Wp at h
      omega
    · rw [← w2' i k j hi h]
      have b := h.b
      exact f2 _ k (Or.inr (Or.inl ⟨by omega, by omega, by omega⟩))
    · rw [← w3 i k j hi h]
      have b := h.b
      exact f2 _ k (Or.inr (Or.inr (Or.inr (Or.inl ⟨by omega, by omega, Or.inl ⟨by omega, by omega, by omega⟩⟩))))
    · rw [← w4 i k hi h3 h]
      exact f2 _ k (Or.inr (Or.inr (Or.inr (Or.inl ⟨by omega, by omega, Or.inr ⟨by omega, by omega⟩⟩))))
    · rw [← w5 i k j hi h]
      have b := h.b
      exact f2 _ k (Or.inr (Or.inr (Or.inr (Or.inr (Or.inr (Or.inl ⟨by omega, by omega, by omega⟩))))))
  · rw [← hF1]
    exact f2 4 1 (by omega)
  · rw [← hF2 i hi]
    exact f2 5 i (by omega)
  · rw [← hC3 i hi]
    exact f2 (8 + i) 3 (Or.inr (Or.inl ⟨by omega, by omega, by omega⟩))
end CP9

