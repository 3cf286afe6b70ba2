/-! THE START OF A LOAD: the usual world on both sides -/
section HE
variable {Y : XY} {N : XN} {w a : Nat} {c : Nat → Nat → Int32} {e : XD}
/-- the row cut to zero below i -/
def eZero (e : XD) (i : Nat) : XD := fun j => if j < i then nI 0 else e j
def eUsual (e : XD) : XD := upd (upd (upd (upd (upd (eZero e 1784) 5 (nI 5)) 6 (nI 10)) 7 (nI 10)) 8 (nI 10)) 9 (nI 1)
theorem eZero_up (i : Nat) : upd (eZero e i) i (nI 0) = eZero e (i + 1) := by
  funext j
  unfold upd eZero
  by_cases q : j = i
  · rw [if_pos q, if_pos (by omega)]
  · rw [if_neg q]
    by_cases q2 : j < i
    · rw [if_pos q2, if_pos (by omega)]
    · rw [if_neg q2, if_neg (by omega)]
theorem M_lay_L (hk : kn Y a = 1784) : ∀ (z i D9 : Nat), i + z = 1784 → z < D9 → f_X8_layUsual_2 Y D9 a (nI i) (sd N a (eZero e i)) = some (sd N a (eUsual e)) := by
  intro z
  induction z with
  | zero =>
    intro i D9 hi hD9
    obtain ⟨D8, rfl⟩ : ∃ z, D9 = z + 1 := ⟨D9 - 1, by omega⟩
    rw [f_X8_layUsual_2]
    have ei : i = 1784 := by omega
    subst ei
    simp (disch := omega) only [nI_lit, ↓reduceIte, pLEt, pLEf, pLTt, pLTf, pEQf, pML, pMG, pMf, pMg, hk, xb_nI, if_true, nI_clamp, si_sd, ↓lt_eq]
    rfl
  | succ z ih =>
    intro i D9 hi hD9
    obtain ⟨D8, rfl⟩ : ∃ z, D9 = z + 1 := ⟨D9 - 1, by omega⟩
    rw [f_X8_layUsual_2]
    simp (disch := omega) only [nI_lit, ↓reduceIte, pLEt, pLEf, pLTt, pLTf, pEQf, pML, pMG, pMf, pMg, hk, xb_nI, if_true, nI_clamp, si_sd, ↓lt_eq, nI_add, eZero_up]
    exact ih (i + 1) D8 (by omega) (by omega)
theorem M_layUsual (hk : kn Y a = 1784) : f_X8_layUsual Y a (sd N a e) = some (sd N a (eUsual e)) := by
  have e0 : eZero e 0 = e := by
    funext j
    unfold eZero
    rw [if_neg (by omega)]
  have := M_lay_L (N := N) (e := e) hk 1784 0 FU (by omega) (by unfold FU; omega)
  rw [e0] at this
  exact this
/-- the trial world as a reading starts -/
def cUsual (c : Nat → Nat → Int32) : Nat → Nat → Int32 := up2 (up2 (up2 (up2 (up2 (up2 (up2 (up2 (up2 (up2 (up2 c 0 1 (nI 0)) 0 3 (nI 0)) 0 5 (nI 0)) 0 6 (nI 0)) 0 7 (nI 0)) 0 8 (nI 5)) 0 9 (nI 10)) 0 10 (nI 10)) 0 11 (nI 10)) 0 12 (nI 1)) 4 1 (nI 0)
theorem C_begin (hY : WY Y w) : f_X6_begin Y w (sw N w c) = some (sw N w (cUsual c)) := by
  unfold f_X6_begin
  simp (disch := omega) only [↓lt_eq, bd, bd2, Option.bind_some, nI_lit, nI_clamp, nI_add, xb_nI, if_true, gi_sw, gi_sw0, si_sw, si_sw0, hY.g0, hY.g2, hY.g4, hY.g13, hY.g14, hY.f0, hY.f2, hY.h, hY.l, hY.t, hY.r]
  rfl
theorem eUsual_at : (∀ j, j < 1784 → j < 5 ∨ 9 < j → eUsual e j = nI 0) ∧ eUsual e 5 = nI 5 ∧ eUsual e 6 = nI 10 ∧ eUsual e 7 = nI 10 ∧ eUsual e 8 = nI 10 ∧ eUsual e 9 = nI 1 := by
  unfold eUsual
  refine ⟨fun j h1 h2 => ?_, ?_, ?_, ?_, ?_, upd_s _ _ _⟩
  · rw [upd_n (by omega), upd_n (by omega), upd_n (by omega), upd_n (by omega), upd_n (by omega)]
    exact if_pos h1
  all_goals simp (disch := omega) only [upd_n, upd_s]
theorem QD_usual : QD (fun k => c 7 k) [] (eUsual e) (cUsual c) := by
  obtain ⟨z, p5, p6, p7, p8, p9⟩ := eUsual_at (e := e)
  have z1 := z 1 (by omega) (by omega)
  have z2 := z 2 (by omega) (by omega)
  have z3 := z 3 (by omega) (by omega)
  have z0 := z 0 (by omega) (by omega)
  have n0 : (nI 0).toNatClampNeg = 0 := nI_clamp (by omega)
  have eH : nH (eUsual e) = 0 := by unfold nH; rw [z1, n0]
  have eL : nL (eUsual e) = 0 := by unfold nL; rw [z2, n0]
  have eR : nR (eUsual e) = 0 := by unfold nR; rw [z3, n0]
  have eT : tM (eUsual e) = 0 := by unfold tM; rw [z0, n0]
  refine ⟨?_, ⟨?_, ⟨⟨?_, fun i hi => absurd hi (Nat.not_lt_zero i)⟩, fun k _ => ?_⟩, fun i hi => ?_⟩, z0, fun j h1 h2 => z j (by omega) (by omega), fun j h1 h2 => z j (by omega) (by omega), fun r hr => by omega⟩
  · unfold DJ
    rw [eH, eL, eR, eT, z1, z2, z3, z0, p8]
    exact ⟨⟨rfl, by omega⟩, ⟨rfl, by omega⟩, ⟨rfl, by omega⟩, rfl, ⟨10, by omega, by omega, rfl⟩, fun i hi => by omega, fun i hi => by omega, fun i hi => by omega, ⟨⟨0, rfl⟩, Nat.zero_le _, Nat.zero_le _, z 11 (by omega) (by omega), fun i hi => absurd hi (Nat.not_lt_zero i)⟩⟩
  · rw [eH, eL, eR]
    refine ⟨fun k j hp => ?_, fun i k j hi => by omega, fun i k j hi => by omega, fun i k hi => by omega, fun i k j hi => by omega⟩
    unfold Wp at hp
    rcases hp with ⟨rfl, rfl⟩ | ⟨rfl, rfl⟩ | ⟨rfl, rfl⟩ | ⟨rfl, rfl⟩ | ⟨rfl, rfl⟩ | ⟨rfl, rfl⟩ | ⟨rfl, rfl⟩ | ⟨rfl, rfl⟩ | ⟨rfl, rfl⟩ | ⟨rfl, rfl⟩
    all_goals unfold cUsual
    · rw [z1]; simp (disch := omega) only [up2_n, up2_s]
    · rw [z2]; simp (disch := omega) only [up2_n, up2_s]
    · rw [z3]; simp (disch := omega) only [up2_n, up2_s]
    · rw [z0]; simp (disch := omega) only [up2_n, up2_s]
    · rw [z 4 (by omega) (by omega)]; simp (disch := omega) only [up2_n, up2_s]
    · rw [p5]; simp (disch := omega) only [up2_n, up2_s]
    · rw [p6]; simp (disch := omega) only [up2_n, up2_s]
    · rw [p7]; simp (disch := omega) only [up2_n, up2_s]
    · rw [p8]; simp (disch := omega) only [up2_n, up2_s]
    · rw [p9]; simp (disch := omega) only [up2_n, up2_s]
  · unfold cUsual; rw [up2_s]; rfl
  · unfold cUsual; simp (disch := omega) only [up2_n]
  · rw [eH] at hi; omega
end HE
