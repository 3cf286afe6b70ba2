/-! THE CLASS'S FACE, AS THE LAW CALLS IT -/
def outR (x : Int32) (n : Nat) : Prop := x < nI 0 ∨ nI n ≤ x
/-- what holds of the class's object at B between calls: it shows d; k changes can be undone -/
def IK (B : Nat) (N : XN) (ops : List Int32) (d : XD) (k p : Nat) (hd : Nat → XD) : Prop := DJ ops d ∧ tM d ≤ 9999 ∧ (∃ P, CR P ops d (wc N (B + 7))) ∧ ring B N k p hd
/-- all but the object is as it was -/
def FB (B : Nat) (N N' : XN) : Prop := ∀ a, a < B ∨ B + 908 ≤ a → N'.1 a = N.1 a
section CF
variable {P : Nat → Int32} {Y : XY} {B : Nat} {N N' N'' : XN} {d : XD} {ops : List Int32} {k p : Nat} {hd : Nat → XD}
theorem FB.rfl' : FB B N N := fun _ _ => rfl
theorem FB.trans (h : FB B N N') (h' : FB B N' N'') : FB B N N'' := fun a ha => (h' a ha).trans (h a ha)
theorem IK.same (h : IK B N ops d k p hd) (e : ∀ a, B ≤ a → a < B + 908 → N'.1 a = N.1 a) : IK B N' ops d k p hd := by
  obtain ⟨h1, h2, ⟨P, h3⟩, h4⟩ := h
  refine ⟨h1, h2, ⟨P, h3.cells h1.H6 h1.L8 h1.R60 (fun o j ho => ?_)⟩, h4.same ?_ ?_ (fun _ _ => rfl) (fun o j ho => ?_)⟩
  · unfold wc; rw [e _ (by omega) (by omega)]
  · unfold gi; rw [e _ (by omega) (by omega)]
  · unfold gi; rw [e _ (by omega) (by omega)]
  · unfold wc; rw [e _ (by omega) (by omega)]
theorem K_has_o {w : Nat} {x : Int32} : (gi N w 1 = nI (nH d) → outR x (nH d) → f_X6_hasHandler Y w x N = nI 0) ∧ (gi N w 3 = nI (nL d) → outR x (nL d) → f_X6_hasLine Y w x N = nI 0) ∧ (gi N w 5 = nI (nR d) → outR x (nR d) → f_X6_hasRequest Y w x N = nI 0) := by
  have key : ∀ n, outR x n → (if x < nI 0 then nI 0 else if nI n ≤ x then nI 0 else nI 1) = nI 0 := by
    intro n h
    rcases h with h | h
    · rw [if_pos h]
    · by_cases q : x < nI 0
      · rw [if_pos q]
      · rw [if_neg q, if_pos h]
  refine ⟨fun e h => ?_, fun e h => ?_, fun e h => ?_⟩
  · unfold f_X6_hasHandler; rw [e]; exact key _ h
  · unfold f_X6_hasLine; rw [e]; exact key _ h
  · unfold f_X6_hasRequest; rw [e]; exact key _ h
theorem out_ge {n m : Nat} (h : n ≤ m) (hm : m < 2 ^ 31) : outR (nI m) n := Or.inr (nI_le h hm)
theorem out_m1 {n : Nat} : outR (-nI 1) n := Or.inl m1_lt
theorem IK.w1 (h : IK B N ops d k p hd) : gi N (B + 7) 1 = nI (nH d) := by
  obtain ⟨h1, -, ⟨P, h3⟩, -⟩ := h
  exact (h3.1.w1).trans h1.H
theorem IK.w3 (h : IK B N ops d k p hd) : gi N (B + 7) 3 = nI (nL d) := by
  obtain ⟨h1, -, ⟨P, h3⟩, -⟩ := h
  exact (h3.1.w3).trans h1.L
theorem IK.w5 (h : IK B N ops d k p hd) : gi N (B + 7) 5 = nI (nR d) := by
  obtain ⟨h1, -, ⟨P, h3⟩, -⟩ := h
  exact (h3.1.w5).trans h1.R
/-! what it tells -/
theorem L_state (hY : YO Y B) (h : IK B N ops d k p hd) {j : Nat} (hj : j < 10) : f_L_state Y B (nI j) N = some (sTold d j, N) := by
  obtain ⟨h1, -, ⟨P, h3⟩, -⟩ := h
  unfold f_L_state
  rw [K_state hY.1.2.2.2.1 hY.2.2.2.1 h1 h3 hj]
theorem L_stateX : f_L_state Y B 10 N = some (-2000000098, N) := by
  have e : f_X7_state Y B 10 N = some (.inr IAE, N) := by
    unfold f_X7_state
    simp (disch := omega) only [nI_lit, ↓reduceIte, pEQf]
  unfold f_L_state
  rw [e]
  rfl
theorem L_handler (hY : YO Y B) (h : IK B N ops d k p hd) {i j : Nat} (hi : i < nH d) (hj : j < 8) : f_L_handler Y B (nI i) (nI j) N = some (sToldH d i j, N) := by
  obtain ⟨h1, -, ⟨P, h3⟩, -⟩ := h
  unfold f_L_handler
  rw [K_handler hY.1.2.2.2.1 hY.2.2.2.1 h1 h3 hi hj]
theorem L_handlerX (hY : YO Y B) (h : IK B N ops d k p hd) : f_L_handler Y B (nI (nH d)) 0 N = some (-2000000097, N) := by
  have h6 := h.1.H6
  have e : f_X7_handler Y B (nI (nH d)) 0 N = some (.inr IOB, N) := by
    unfold f_X7_handler
    rw [hY.1.2.2.2.1, K_has_o.1 h.w1 (out_ge (Nat.le_refl _) (by omega))]
    rfl
  unfold f_L_handler
  rw [e]
  rfl
theorem L_line (hY : YO Y B) (h : IK B N ops d k p hd) {i j : Nat} (hi : i < nL d) (hj : j < 5) : f_L_line Y B (nI i) (nI j) N = some (sToldL d i j, N) := by
  obtain ⟨h1, -, ⟨P, h3⟩, -⟩ := h
  unfold f_L_line
  rw [K_line hY.1.2.2.2.1 hY.2.2.2.1 h1 h3 hi hj]
theorem L_lineX (hY : YO Y B) (h : IK B N ops d k p hd) : f_L_line Y B (nI (nL d)) 0 N = some (-2000000097, N) := by
  have h8 := h.1.L8
  have e : f_X7_line Y B (nI (nL d)) 0 N = some (.inr IOB, N) := by
    unfold f_X7_line
    rw [hY.1.2.2.2.1, K_has_o.2.1 h.w3 (out_ge (Nat.le_refl _) (by omega))]
    rfl
  unfold f_L_line
  rw [e]
  rfl
theorem L_tenant (hY : YO Y B) (h : IK B N ops d k p hd) {i j : Nat} (hi : i < nL d) (hj : j < nT d i) : f_L_tenant Y B (nI i) (nI j) N = some (d (52 + 7 * i + j), N) := by
  obtain ⟨h1, -, ⟨P, h3⟩, -⟩ := h
  unfold f_L_tenant
  rw [K_tenant hY.1.2.2.2.1 hY.2.2.2.1 h1 h3 hi hj]
theorem L_tenantX (hY : YO Y B) (h : IK B N ops d k p hd) {i : Nat} (hi : i < nL d) : f_L_tenant Y B (nI i) (nI (nT d i)) N = some (-2000000100, N) := by
  have h8 := h.1.L8
  obtain ⟨t1, t2, -, -⟩ := h.1.ln i hi
  have w3 := h.w3
  obtain ⟨h1, -, ⟨P, h3⟩, -⟩ := h
  have hW := hY.2.2.2.1
  have h5 := hY.1.2.2.2.1
  have e2 := (K_has_in (Y := Y) (N := N) (w := B + 7) (d := d) (j := i)).2.1 w3 h8 hi
  have e : f_X7_tenant Y B (nI i) (nI (nT d i)) N = some (.inr NSE, N) := by
    unfold f_X7_tenant
    obtain ⟨u, hu⟩ : ∃ u, B + 7 = u := ⟨_, rfl⟩
    rw [hu] at h5 hW e2 h3
    have l4 : gi N (u + (14 + 2 * i)) 4 = nI (nT d i) := (h3.1.l4 hi).trans t1
    simp (disch := omega) only [nI_lit, ↓lt_eq, h5, e2, ↓reduceIte, pLEt, pLEf, pLTt, pLTf, pEQf, pML, pMG, pMf, pMg, nz10, xb_nI, nI_clamp, if_true, hW.g2, hW.l, l4]
  unfold f_L_tenant
  rw [e]
  rfl
theorem L_request (hY : YO Y B) (h : IK B N ops d k p hd) {i j : Nat} (hi : i < nR d) (hj : j < 7) : f_L_request Y B (nI i) (nI j) N = some (sReq d i j, N) := by
  obtain ⟨h1, -, ⟨P, h3⟩, -⟩ := h
  unfold f_L_request
  rw [K_request hY.1.2.2.2.1 hY.2.2.2.1 h1 h3 hi hj]
theorem L_requestX (hY : YO Y B) (h : IK B N ops d k p hd) : f_L_request Y B (nI (nR d)) 0 N = some (-2000000097, N) := by
  have h60 := h.1.R60
  have e : f_X7_request Y B (nI (nR d)) 0 N = some (.inr IOB, N) := by
    unfold f_X7_request
    rw [hY.1.2.2.2.1, K_has_o.2.2 h.w5 (out_ge (Nat.le_refl _) (by omega))]
    rfl
  unfold f_L_request
  rw [e]
  rfl
theorem L_checksum (hY : YO Y B) (h : IK B N ops d k p hd) : f_X7_checksum Y B N = some (sSumAll d, N) := by
  obtain ⟨h1, -, ⟨P, h3⟩, -⟩ := h
  exact C_checksum hY.1.2.2.2.1 hY.2.2.2.1 h1 h3
/-! calls out of place -/
theorem L_calmX (hY : YO Y B) (h : IK B N ops d k p hd) : f_L_calm Y B (-1) N = some (-2000000097, N) := by
  have e : f_X7_calm Y B (-1) N = some (.inr IOB, N) := by
    unfold f_X7_calm
    rw [hY.1.2.2.2.1, nI_lit, K_has_o.2.1 h.w3 out_m1]
    rfl
  unfold f_L_calm
  rw [e]
  rfl
theorem L_endsAtX (hY : YO Y B) (h : IK B N ops d k p hd) : f_L_endsAt Y B 60 N = some (-2000000097, N) := by
  have h60 := h.1.R60
  have e : f_X7_endsAt Y B 60 N = some (.inr IOB, N) := by
    unfold f_X7_endsAt
    rw [hY.1.2.2.2.1, nI_lit, K_has_o.2.2 h.w5 (out_ge h60 (by omega))]
    rfl
  unfold f_L_endsAt
  rw [e]
  rfl
theorem L_bankruptInX (hY : YO Y B) (h : IK B N ops d k p hd) : f_L_bankruptIn Y B 6 N = some (-2000000097, N) := by
  have h6 := h.1.H6
  have e : f_X7_bankruptIn Y B 6 N = some (.inr IOB, N) := by
    unfold f_X7_bankruptIn
    rw [hY.1.2.2.2.1, nI_lit, K_has_o.1 h.w1 (out_ge h6 (by omega))]
    rfl
  unfold f_L_bankruptIn
  rw [e]
  rfl
theorem L_adviseX (hY : YO Y B) (h : IK B N ops d k p hd) : f_L_advise Y B (-1) N = some (-2000000097, N) := by
  have e : f_X7_advise Y B (-1) N = some (.inr IOB, N) := by
    unfold f_X7_advise
    rw [hY.1.2.2.2.1, nI_lit, K_has_o.2.1 h.w3 out_m1]
    rfl
  unfold f_L_advise
  rw [e]
  rfl
theorem L_fundO (hY : YO Y B) (h : IK B N ops d k p hd) {x y : Int32} (hx : outR x (nH d)) : f_L_fund Y B x y N = some (-2000000097, N) := by
  have e : f_X7_fund Y B x y N = some (.inr IOB, N) := by
    unfold f_X7_fund
    rw [hY.1.2.2.2.1, K_has_o.1 h.w1 hx]
    rfl
  unfold f_L_fund
  rw [e]
  rfl
theorem L_raiseO (hY : YO Y B) (h : IK B N ops d k p hd) {x y : Int32} (hx : outR x (nL d)) : f_L_raise Y B x y N = some (-2000000097, N) := by
  have e : f_X7_raise Y B x y N = some (.inr IOB, N) := by
    unfold f_X7_raise
    rw [hY.1.2.2.2.1, K_has_o.2.1 h.w3 hx]
    rfl
  unfold f_L_raise
  rw [e]
  rfl
theorem L_leaseO (hY : YO Y B) (h : IK B N ops d k p hd) {x y : Int32} (hx : outR x (nH d) ∨ ((∃ i, i < nH d ∧ x = nI i) ∧ outR y (nL d))) : f_L_lease Y B x y N = some (-2000000097, N) := by
  have h6 := h.1.H6
  have e : f_X7_lease Y B x y N = some (.inr IOB, N) := by
    unfold f_X7_lease
    rcases hx with hx | ⟨⟨i, i1, rfl⟩, hy⟩
    · rw [hY.1.2.2.2.1, K_has_o.1 h.w1 hx]
      rfl
    · rw [hY.1.2.2.2.1, K_has_in.1 h.w1 h6 i1, K_has_o.2.1 h.w3 hy]
      simp only [nI_lit, nz10, if_true, if_false]
  unfold f_L_lease
  rw [e]
  rfl
theorem L_releaseO (hY : YO Y B) (h : IK B N ops d k p hd) {x y : Int32} (hx : outR x (nH d) ∨ ((∃ i, i < nH d ∧ x = nI i) ∧ outR y (nL d))) : f_L_release Y B x y N = some (-2000000097, N) := by
  have h6 := h.1.H6
  have e : f_X7_release Y B x y N = some (.inr IOB, N) := by
    unfold f_X7_release
    rcases hx with hx | ⟨⟨i, i1, rfl⟩, hy⟩
    · rw [hY.1.2.2.2.1, K_has_o.1 h.w1 hx]
      rfl
    · rw [hY.1.2.2.2.1, K_has_in.1 h.w1 h6 i1, K_has_o.2.1 h.w3 hy]
      simp only [nI_lit, nz10, if_true, if_false]
  unfold f_L_release
  rw [e]
  rfl
theorem L_loadX (hB : gi N B 1 = nI 0) : f_L_loadx Y B 1 N = some (-2000000098, N) := by
  have e : f_X7_load Y B 1 N = some (.inr IAE, N) := by
    unfold f_X7_load
    simp (disch := omega) only [nI_lit, hB, ↓reduceIte, pLEt, pLEf, pLTt, pLTf, pEQf, pML, pMG, pMf, pMg]
  unfold f_L_loadx
  rw [e]
  rfl
theorem L_finesInX : f_L_finesIn Y B 1101 N = some (-2000000098, N) := by
  have e : f_X7_finesIn Y B 1101 N = some (.inr IAE, N) := by
    unfold f_X7_finesIn
    simp (disch := omega) only [nI_lit, ↓reduceIte, pLEt, pLEf, pLTt, pLTf, pEQf, pML, pMG, pMf, pMg]
  unfold f_L_finesIn
  rw [e]
  rfl
theorem L_pass0 : f_L_pass Y B 0 N = some (-2000000098, N) := by
  have e : f_X7_pass Y B 0 N = some (.inr IAE, N) := by
    unfold f_X7_pass
    simp (disch := omega) only [nI_lit, ↓reduceIte, pLEt, pLEf, pLTt, pLTf, pEQf, pML, pMG, pMf, pMg]
  unfold f_L_pass
  rw [e]
  rfl
theorem L_fundN (hY : YO Y B) (h : IK B N ops d k p hd) {i c : Nat} (hi : i < nH d) (hc : c = 0 ∨ (9999 < c ∧ c < 2 ^ 31)) : f_L_fund Y B (nI i) (nI c) N = some (-2000000098, N) := by
  have h6 := h.1.H6
  have h5 := hY.1.2.2.2.1
  have e2 := (K_has_in (Y := Y) (N := N) (w := B + 7) (d := d) (j := i)).1 h.w1 h6 hi
  have e : f_X7_fund Y B (nI i) (nI c) N = some (.inr IAE, N) := by
    unfold f_X7_fund
    rcases hc with rfl | hc
    · simp (disch := omega) only [nI_lit, ↓reduceIte, pLEt, pLEf, pLTt, pLTf, pEQf, pML, pMG, pMf, pMg, h5, e2, nz10]
    · simp (disch := omega) only [nI_lit, ↓reduceIte, pLEt, pLEf, pLTt, pLTf, pEQf, pML, pMG, pMf, pMg, h5, e2, nz10]
  unfold f_L_fund
  rw [e]
  rfl
theorem L_raiseN (hY : YO Y B) (h : IK B N ops d k p hd) {i c : Nat} (hi : i < nL d) (hc : c = 0 ∨ (99 < c ∧ c < 2 ^ 31)) : f_L_raise Y B (nI i) (nI c) N = some (-2000000098, N) := by
  have h8 := h.1.L8
  have h5 := hY.1.2.2.2.1
  have e2 := (K_has_in (Y := Y) (N := N) (w := B + 7) (d := d) (j := i)).2.1 h.w3 h8 hi
  have e : f_X7_raise Y B (nI i) (nI c) N = some (.inr IAE, N) := by
    unfold f_X7_raise
    rcases hc with rfl | hc
    · simp (disch := omega) only [nI_lit, ↓reduceIte, pLEt, pLEf, pLTt, pLTf, pEQf, pML, pMG, pMf, pMg, h5, e2, nz10]
    · simp (disch := omega) only [nI_lit, ↓reduceIte, pLEt, pLEf, pLTt, pLTf, pEQf, pML, pMG, pMf, pMg, h5, e2, nz10]
  unfold f_L_raise
  rw [e]
  rfl
/-! changes -/
theorem keepK (hY : YO Y B) (h : IK B N ops d k p hd) : ∃ Nk Q P, f_X7_keepPresent Y B N = some Nk ∧ kept1 B p k N Nk ∧ CR Q ops d (wc Nk (B + (188 + 90 * p))) ∧ CR P ops d (wc Nk (B + 7)) := by
  obtain ⟨hD, hT, ⟨P, hC⟩, ⟨a1, a2, a3, a4, a5⟩⟩ := h
  obtain ⟨Nk, Q, b1, b2, b3⟩ := K_keep hY hD hC a1 a2 a3 a4
  exact ⟨Nk, Q, P, b1, b2, b3, hC.cells hD.H6 hD.L8 hD.R60 (fun o j ho => by unfold wc; rw [b2.2.1 _ (by omega) (by omega)])⟩
theorem IK.change (h : IK B N ops d k p hd) {Nk : XN} {c' : Nat → Nat → Int32} {Q Q' : Nat → Int32} {ops' : List Int32} {d' : XD} (h1 : kept1 B p k N Nk) (hC1 : CR Q ops d (wc Nk (B + (188 + 90 * p)))) (hC' : CR Q' ops' d' c') : (DJ ops' d' → tM d' ≤ 9999 → IK B (sw Nk (B + 7) c') ops' d' (min (k + 1) 8) ((p + 1) % 8) (nhd k hd d)) ∧ FB B N (sw Nk (B + 7) c') ∧ gi (sw Nk (B + 7) c') B 1 = gi N B 1 := by
  obtain ⟨hD, hT, -, hr⟩ := h
  have hp := hr.2.1
  have hrn := ring_next hr h1 hD hT hC1
  obtain ⟨b1, b2, b3, b4, b5⟩ := h1
  refine ⟨fun hD' hT' => ⟨hD', hT', ⟨Q', hC'.cells hD'.H6 hD'.L8 hD'.R60 (fun o j ho => gi_sw Nk (B + 7) c' j ho)⟩, hrn.same (gi_sw_ne 8 (by omega)) (gi_sw_ne 9 (by omega)) (fun _ _ => rfl) (fun o j ho => gi_sw_ne j (by omega))⟩, fun a ha => ?_, ?_⟩
  · rw [show (sw Nk (B + 7) c').1 a = Nk.1 a from funext (fun j => gi_sw_ne j (by omega))]
    exact b2 a (by omega) (by omega)
  · rw [gi_sw_ne 1 (by omega)]
    exact b3 1 (by omega) (by omega)
theorem sTicks_keep : ∀ (n : Nat) (d : XD), DJ ops d → tM d + n ≤ 1000000 → DJ ops (sTicks ops n d) ∧ nH (sTicks ops n d) = nH d ∧ nL (sTicks ops n d) = nL d ∧ nR (sTicks ops n d) = nR d ∧ tM (sTicks ops n d) = tM d + n := by
  intro n
  induction n with
  | zero => intro d hD _; exact ⟨hD, rfl, rfl, rfl, rfl⟩
  | succ n ih =>
    intro d hD hT
    obtain ⟨a1, a2, a3, a4, a5, a6⟩ := hD.tick (by omega)
    rw [sTicks_1]
    obtain ⟨b1, b2, b3, b4, b5⟩ := ih (sTick ops d) a1 (by omega)
    exact ⟨b1, b2.trans (nH_same a2), b3.trans (nL_same a3), b4.trans (nR_same a4), by omega⟩
theorem L_pass (hY : YO Y B) (h : IK B N ops d k p hd) {t : Nat} (h1 : 1 ≤ t ∧ t ≤ 200) (hT9 : tM d + t ≤ 9999) : ∃ N', f_L_pass Y B (nI t) N = some (nI (sCount (sTicks ops t d) (nI 2)) - nI (sCount d (nI 2)), N') ∧ IK B N' ops (sTicks ops t d) (min (k + 1) 8) ((p + 1) % 8) (nhd k hd d) ∧ FB B N N' ∧ gi N' B 1 = gi N B 1 := by
  have h5 := hY.1.2.2.2.1
  have hW := hY.2.2.2.1
  obtain ⟨Nk, Q, P1, b1, b2, b3, b4⟩ := keepK hY h
  obtain ⟨q1, q2, q3, q4, q5⟩ := sTicks_keep (ops := ops) t d h.1 (by omega)
  have e6 : gi N (B + 7) 6 = nI (tM d) := by
    obtain ⟨g1, -, ⟨P, g3⟩, -⟩ := h
    exact (g3.1.w6).trans g1.T
  have rq := C_requestsIn (N := Nk) (s := nI 2) hW h.1 b4
  rw [sw_wc] at rq
  obtain ⟨Q2, c4, l1, l2⟩ := C_pass_L (N := Nk) (q := B) h5 hW (t := t) (by omega) (bf := nI (sCount d (nI 2))) t 0 FU d P1 _ h.1 (by omega) b4 (by omega) (by unfold FU; omega)
  rw [sw_wc] at l1
  obtain ⟨z1, z2, z3⟩ := h.change b2 b3 l2
  refine ⟨_, ?_, z1 q1 (by omega), z2, z3⟩
  have e : f_X7_pass Y B (nI t) N = some (.inl (nI (sCount (sTicks ops t d) (nI 2)) - nI (sCount d (nI 2))), sw Nk (B + 7) c4) := by
    unfold f_X7_pass
    simp (disch := omega) only [nI_lit, nI_add, ↓reduceIte, pLEt, pLEf, pLTt, pLTf, pEQf, pML, pMG, pMf, pMg, h5, e6, b1, bd_some, rq]
    exact l1
  unfold f_L_pass
  rw [e]
theorem L_lease (hY : YO Y B) (h : IK B N ops d k p hd) {x l : Nat} (hx : x < nH d) (hl : l < nL d) : ∃ N', f_L_lease Y B (nI x) (nI l) N = some ((if sMay d x l = true then nI (sLease d x l).1 else -nI 1), N') ∧ (∀ d', d' = (if sMay d x l = true then (sLease d x l).2 else d) → DJ ops d' → tM d' ≤ 9999 → IK B N' ops d' (min (k + 1) 8) ((p + 1) % 8) (nhd k hd d)) ∧ FB B N N' ∧ gi N' B 1 = gi N B 1 := by
  have h5 := hY.1.2.2.2.1
  have hW := hY.2.2.2.1
  have h8 := h.1.L8
  have hh6 := h.1.H6
  have e2 := (K_has_in (Y := Y) (N := N) (w := B + 7) (d := d) (j := x)).1 h.w1 hh6 hx
  have e4 := (K_has_in (Y := Y) (N := N) (w := B + 7) (d := d) (j := l)).2.1 h.w3 h8 hl
  obtain ⟨Nk, Q, P1, b1, b2, b3, b4⟩ := keepK hY h
  have ml := C_mayLease (N := Nk) hW h.1 b4 (h := x) hx hl
  rw [sw_wc] at ml
  by_cases q : sMay d x l = true
  · obtain ⟨c2, w1, w2⟩ := C_letLease (N := Nk) hW h.1 b4 (h := x) hx hl q
    rw [sw_wc] at w1
    obtain ⟨z1, z2, z3⟩ := h.change b2 b3 w2
    rw [if_pos q, if_pos q]
    refine ⟨_, ?_, fun d' e => by rw [e]; exact z1, z2, z3⟩
    have e : f_X7_lease Y B (nI x) (nI l) N = some (.inl (nI (sLease d x l).1), sw Nk (B + 7) c2) := by
      unfold f_X7_lease
      simp (disch := omega) only [nI_lit, ↓reduceIte, pLEt, pLEf, pLTt, pLTf, pEQf, pML, pMG, pMf, pMg, h5, e2, e4, nz10, b1, bd_some, ml, q, w1, bd2_some]
    unfold f_L_lease
    rw [e]
  · obtain ⟨z1, z2, z3⟩ := h.change b2 b3 b4
    rw [if_neg q, if_neg q]
    refine ⟨_, ?_, fun d' e => by rw [e]; exact z1, z2, z3⟩
    have e : f_X7_lease Y B (nI x) (nI l) N = some (.inl (-nI 1), sw Nk (B + 7) (wc Nk (B + 7))) := by
      unfold f_X7_lease
      simp (disch := omega) only [nI_lit, ↓reduceIte, pLEt, pLEf, pLTt, pLTf, pEQf, pML, pMG, pMf, pMg, h5, e2, e4, nz10, b1, bd_some, ml, eq_false q, Bool.false_eq_true]
      rw [sw_wc]
    unfold f_L_lease
    rw [e]
theorem L_release (hY : YO Y B) (h : IK B N ops d k p hd) {x l : Nat} (hx : x < nH d) (hl : l < nL d) : ∃ N', f_L_release Y B (nI x) (nI l) N = some ((if (sTP d l (nI x)).isSome = true then nI (sRelease d x l).1 else -nI 1), N') ∧ (∀ d', d' = (if (sTP d l (nI x)).isSome = true then (sRelease d x l).2 else d) → DJ ops d' → tM d' ≤ 9999 → IK B N' ops d' (min (k + 1) 8) ((p + 1) % 8) (nhd k hd d)) ∧ FB B N N' ∧ gi N' B 1 = gi N B 1 := by
  have h5 := hY.1.2.2.2.1
  have hW := hY.2.2.2.1
  have h8 := h.1.L8
  have hh6 := h.1.H6
  have e2 := (K_has_in (Y := Y) (N := N) (w := B + 7) (d := d) (j := x)).1 h.w1 hh6 hx
  have e4 := (K_has_in (Y := Y) (N := N) (w := B + 7) (d := d) (j := l)).2.1 h.w3 h8 hl
  obtain ⟨t1, t2, t3, t4⟩ := h.1.ln l hl
  obtain ⟨Nk, Q, P1, b1, b2, b3, b4⟩ := keepK hY h
  have ml := C_placeOf (N := Nk) hW b4.1 (h := nI x) hl h8 t1 (Nat.le_refl _) t2
  rw [sw_wc] at ml
  obtain ⟨u, hu⟩ : ∃ u, B + 7 = u := ⟨_, rfl⟩
  by_cases q : (sTP d l (nI x)).isSome = true
  · have q0 : (pI (sTP d l (nI x)) < nI 0) = False := eq_false (fun z => by rw [(pI_neg _ sTP_lt).1.mp z] at q; cases q)
    obtain ⟨c2, w1, w2⟩ := C_letRelease (N := Nk) hW h.1 b4 (h := x) hx hl
    rw [sw_wc] at w1
    obtain ⟨z1, z2, z3⟩ := h.change b2 b3 w2
    rw [if_pos q, if_pos q]
    refine ⟨_, ?_, fun d' e => by rw [e]; exact z1, z2, z3⟩
    have e : f_X7_release Y B (nI x) (nI l) N = some (.inl (nI (sRelease d x l).1), sw Nk (B + 7) c2) := by
      unfold f_X7_release
      rw [hu] at h5 e2 e4 hW ml w1 ⊢
      simp (disch := omega) only [nI_lit, ↓reduceIte, pLEt, pLEf, pLTt, pLTf, pEQf, pML, pMG, pMf, pMg, h5, e2, e4, nz10, b1, bd_some, xb_nI, nI_clamp, if_true, hW.g2, hW.l, ml, q0, w1, bd2_some]
    unfold f_L_release
    rw [e]
  · have q0 : (pI (sTP d l (nI x)) < nI 0) = True := eq_true ((pI_neg _ sTP_lt).1.mpr (by cases z : sTP d l (nI x) with | none => rfl | some k => rw [z] at q; exact absurd rfl q))
    obtain ⟨z1, z2, z3⟩ := h.change b2 b3 b4
    rw [if_neg q, if_neg q]
    refine ⟨_, ?_, fun d' e => by rw [e]; exact z1, z2, z3⟩
    have e : f_X7_release Y B (nI x) (nI l) N = some (.inl (-nI 1), sw Nk (B + 7) (wc Nk (B + 7))) := by
      unfold f_X7_release
      rw [sw_wc]
      rw [hu] at h5 e2 e4 hW ml
      simp (disch := omega) only [nI_lit, ↓reduceIte, pLEt, pLEf, pLTt, pLTf, pEQf, pML, pMG, pMf, pMg, h5, e2, e4, nz10, b1, bd_some, xb_nI, nI_clamp, if_true, hW.g2, hW.l, ml, q0]
    unfold f_L_release
    rw [e]
def sFund (d : XD) (h : Nat) (v : Int32) : XD := upd (upd d (12 + 6 * h) (d (12 + 6 * h) + v)) (14 + 6 * h) (nI 0)
theorem DJ.fund (hD : DJ ops d) {x : Nat} {v : Int32} (hx : x < nH d) : DJ ops (sFund d x v) ∧ tM (sFund d x v) = tM d := by
  have h6 := hD.H6
  have hD1 : DJ ops (upd d (12 + 6 * x) (d (12 + 6 * x) + v)) := DJ_F hD (fun j hj => by unfold FX at hj; exact upd_n (by omega))
  refine ⟨DJ_H hD1 (i := x) (by rw [nH_same (upd_n (by omega))]; exact hx) (fun j _ q => upd_n q) (Or.inl (upd_s _ _ _)), tM_same ?_⟩
  unfold sFund
  rw [upd_n (by omega), upd_n (by omega)]
theorem L_fund (hY : YO Y B) (h : IK B N ops d k p hd) {x j : Nat} (hx : x < nH d) (hj : 1 ≤ j ∧ j ≤ 9999) : ∃ N', f_L_fund Y B (nI x) (nI j) N = some (d (12 + 6 * x) + nI j, N') ∧ IK B N' ops (sFund d x (nI j)) (min (k + 1) 8) ((p + 1) % 8) (nhd k hd d) ∧ FB B N N' ∧ gi N' B 1 = gi N B 1 := by
  have h5 := hY.1.2.2.2.1
  have hW := hY.2.2.2.1
  have hh6 := h.1.H6
  have hD := h.1
  have e2 := (K_has_in (Y := Y) (N := N) (w := B + 7) (d := d) (j := x)).1 h.w1 hh6 hx
  obtain ⟨Nk, Q, P1, b1, b2, b3, b4⟩ := keepK hY h
  have hD1 : DJ ops (upd d (12 + 6 * x) (d (12 + 6 * x) + nI j)) := DJ_F hD (fun y hy => by unfold FX at hy; exact upd_n (by omega))
  have C1 := b4.free_h hD (i := x) (k := 0) (j := 12) (v := d (12 + 6 * x) + nI j) hx (by unfold Hp; decide)
  have C2 := C1.free_h hD1 (i := x) (k := 2) (j := 14) (v := nI 0) (by rw [nH_same (upd_n (by omega))]; exact hx) (by unfold Hp; decide)
  have fh0 : gi Nk (B + 7 + (8 + x)) 0 = d (12 + 6 * x) := b4.1.h0 hx
  obtain ⟨z1, z2, z3⟩ := h.change b2 b3 C2
  obtain ⟨f1, f2⟩ := hD.fund (v := nI j) hx
  refine ⟨_, ?_, z1 f1 (by show tM (sFund d x (nI j)) ≤ 9999; rw [f2]; exact h.2.1), z2, z3⟩
  have e : f_X7_fund Y B (nI x) (nI j) N = some (.inl (d (12 + 6 * x) + nI j), sw Nk (B + 7) (up2 (up2 (wc Nk (B + 7)) (8 + x) 0 (d (12 + 6 * x) + nI j)) (8 + x) 2 (nI 0))) := by
    have es : sw Nk (B + 7) (up2 (up2 (wc Nk (B + 7)) (8 + x) 0 (d (12 + 6 * x) + nI j)) (8 + x) 2 (nI 0)) = si (si Nk (B + 7 + (8 + x)) 0 (d (12 + 6 * x) + nI j)) (B + 7 + (8 + x)) 2 (nI 0) := by
      rw [← si_sw _ _ _ _ _ (by omega), ← si_sw _ _ _ _ _ (by omega), sw_wc]
    rw [es]
    unfold f_X7_fund
    obtain ⟨u, hu⟩ : ∃ u, B + 7 = u := ⟨_, rfl⟩
    rw [hu] at h5 e2 hW fh0 ⊢
    have g9 : gi (si (si Nk (u + (8 + x)) 0 (d (12 + 6 * x) + nI j)) (u + (8 + x)) 2 (nI 0)) (u + (8 + x)) 0 = d (12 + 6 * x) + nI j := by rw [gi_si_n (Or.inr (by omega)), gi_si]
    simp (disch := omega) only [↓lt_eq, nI_lit, ↓reduceIte, pLEt, pLEf, pLTt, pLTf, pEQf, pML, pMG, pMf, pMg, h5, e2, nz10, b1, bd_some, xb_nI, nI_clamp, if_true, hW.g0, hW.h, fh0, g9]
  unfold f_L_fund
  rw [e]
/-- a request of one's own -/
def sRaise (d : XD) (l w : Nat) : XD := sRaiseNow (sPut d (nI l) (d 0) (nI w)) (nR d)
theorem DJ.raise (hD : DJ ops d) {l w : Nat} (hl : l < nL d) (hw : w ≤ 99) (h60 : nR d < 60) : DJ ops (sRaise d l w) ∧ tM (sRaise d l w) = tM d ∧ nR (sRaise d l w) = nR d + 1 ∧ nL (sRaise d l w) = nL d ∧ nH (sRaise d l w) = nH d := by
  obtain ⟨p3, pf, p0, p1, p2, p4, p5, p6, p7, p8⟩ := sPut_at (d := d) (nI l) (d 0) (nI w)
  obtain ⟨u1, u2⟩ := hD.put (l := l) (k := w) (t := d 0) hl hw (by omega)
  have hr2 : nR d < nR (sPut d (nI l) (d 0) (nI w)) := by omega
  have kp := raiseNow_kept u1 hr2
  exact ⟨u1.raiseNow hr2 p4, kp.T.trans (tM_same (pf 0 (by omega) (by omega))), kp.R.trans u2, kp.L.trans (nL_same (pf 2 (by omega) (by omega))), kp.H.trans (nH_same (pf 1 (by omega) (by omega)))⟩
theorem L_raise (hY : YO Y B) (h : IK B N ops d k p hd) {l j : Nat} (hl : l < nL d) (hj : 1 ≤ j ∧ j ≤ 99) (h60' : nR d < 60) : ∃ N', f_L_raise Y B (nI l) (nI j) N = some (nI (nR d), N') ∧ IK B N' ops (sRaise d l j) (min (k + 1) 8) ((p + 1) % 8) (nhd k hd d) ∧ FB B N N' ∧ gi N' B 1 = gi N B 1 := by
  have h5 := hY.1.2.2.2.1
  have hW := hY.2.2.2.1
  have h8 := h.1.L8
  have h60 := h.1.R60
  have hD := h.1
  have e5 := h.w5
  have e2 := (K_has_in (Y := Y) (N := N) (w := B + 7) (d := d) (j := l)).2.1 h.w3 h8 hl
  obtain ⟨Nk, Q, P1, b1, b2, b3, b4⟩ := keepK hY h
  obtain ⟨p3, pf, p0, p1, p2, p4, p5, p6, p7, p8⟩ := sPut_at (d := d) (nI l) (d 0) (nI j)
  obtain ⟨u1, u2⟩ := hD.put (l := l) (k := j) (t := d 0) hl hj.2 (by omega)
  obtain ⟨c1, v1, v2⟩ := C_addRequest (N := Nk) hW hD b4 (l := l) (k := j) (t := d 0) hl (by omega)
  rw [sw_wc] at v1
  have hr2 : nR d < nR (sPut d (nI l) (d 0) (nI j)) := by omega
  obtain ⟨c2, w1, w2⟩ := C_openOrRefuse (N := Nk) hW u1 v2 (r := nR d) hr2 p4
  have e5k : gi Nk (B + 7) 5 = nI (nR d) := (b4.1.w5).trans hD.R
  have e6k : gi Nk (B + 7) 6 = d 0 := b4.1.w6
  obtain ⟨z1, z2, z3⟩ := h.change b2 b3 w2
  obtain ⟨f1, f2, -, -, -⟩ := hD.raise hl hj.2 h60'
  refine ⟨_, ?_, z1 f1 (by show tM (sRaise d l j) ≤ 9999; rw [f2]; exact h.2.1), z2, z3⟩
  have e : f_X7_raise Y B (nI l) (nI j) N = some (.inl (nI (nR d)), sw Nk (B + 7) c2) := by
    unfold f_X7_raise
    obtain ⟨u, hu⟩ : ∃ u, B + 7 = u := ⟨_, rfl⟩
    rw [hu] at h5 e2 e5 hW v1 w1 e5k e6k ⊢
    simp (disch := omega) only [nI_lit, nI_add, ↓reduceIte, pLEt, pLEf, pLTt, pLTf, pEQf, pML, pMG, pMf, pMg, h5, e2, nz10, e5, b1, bd_some, e6k, e5k, v1, xb_nI, nI_clamp, if_true, hW.g4, hW.r, w1]
  unfold f_L_raise
  rw [e]
theorem L_undo0 (h : IK B N ops d 0 p hd) : f_X7_undo Y B N = some (-nI 1, N) := by
  unfold f_X7_undo
  have e : (gi N B 8 = nI 0) = True := eq_true h.2.2.2.2.2.1
  simp only [nI_lit, e, if_true]
theorem L_undo (hY : YO Y B) (h : IK B N ops d k p hd) (k0 : k ≠ 0) : ∃ N' ops', f_X7_undo Y B N = some (nI (k - 1), N') ∧ IK B N' ops' (hd (k - 1)) (k - 1) ((p + 7) % 8) hd ∧ FB B N N' ∧ gi N' B 1 = gi N B 1 := by
  obtain ⟨⟨g0, g3, g4, h5, h6, g7⟩, gr, -, hW, hW2, hWr, hM, -⟩ := hY
  obtain ⟨hD, hT, -, hr⟩ := h
  have hr' := hr
  obtain ⟨a1, a2, a3, a4, a5⟩ := hr'
  obtain ⟨ops', hD', hT', P', hC'⟩ := a5 (k - 1) (by omega)
  obtain ⟨p', hp'⟩ : ∃ p', (p + 7) % 8 = p' := ⟨_, rfl⟩
  have hp8 : p' < 8 := by omega
  have es : slot B p k (k - 1) = B + (188 + 90 * p') := by unfold slot; omega
  rw [es] at hC'
  obtain ⟨u, hu⟩ : ∃ u, B + (188 + 90 * p') = u := ⟨_, rfl⟩
  obtain ⟨M1, hM1⟩ : ∃ M1, si (si N B 9 (nI p')) B 8 (nI (k - 1)) = M1 := ⟨_, rfl⟩
  have m1r : ∀ a, a ≠ B → M1.1 a = N.1 a := fun a q => by rw [← hM1, si_row q, si_row q]
  have m1B : ∀ j, j ≠ 8 → j ≠ 9 → gi M1 B j = gi N B j := fun j q1 q2 => by rw [← hM1, gi_si_n (Or.inr q1), gi_si_n (Or.inr q2)]
  have m18 : gi M1 B 8 = nI (k - 1) := by rw [← hM1, gi_si]
  have m19 : gi M1 B 9 = nI p' := by rw [← hM1, gi_si_n (Or.inr (by omega)), gi_si]
  have hC2 : CR P' ops' (hd (k - 1)) (wc M1 u) := hC'.cells hD'.H6 hD'.L8 hD'.R60 (fun o j ho => by unfold wc; rw [← hu, m1r _ (by omega)])
  have hWu := hWr p' hp8
  rw [hu] at hWu
  obtain ⟨Q, c1, k1, k2⟩ := C_copyOf (N := M1) hW hWu (Or.inr (by omega)) hD' hC2 (wc M1 (B + 7))
  rw [sw_wc] at k1
  have gu : gp Y (B + 187) p' = u := (gr p' hp8).trans hu
  have f8 : gi (sw M1 (B + 7) c1) B 8 = nI (k - 1) := (gi_sw_ne 8 (by omega)).trans m18
  rw [hp']
  refine ⟨sw M1 (B + 7) c1, ops', ?_, ⟨hD', hT', ⟨Q, k2.cells hD'.H6 hD'.L8 hD'.R60 (fun o j ho => gi_sw M1 (B + 7) c1 j ho)⟩, ⟨by omega, hp8, f8, (gi_sw_ne 9 (by omega)).trans m19, fun i hi => ?_⟩⟩, fun a ha => ?_, ?_⟩
  · have ne : (gi N B 8 = nI 0) = False := eq_false (fun z => by rw [a3] at z; have := (nI_eq (by omega) (by omega)).mp z; omega)
    have kk : nI k - nI 1 = nI (k - 1) := pk_sub (by omega)
    unfold f_X7_undo
    by_cases p0 : p = 0
    · have pp : p' = 7 := by omega
      have s87 : (nI 8 - nI 1 : Int32) = nI 7 := pk_sub (by omega)
      have e9 : (gi N B 9 ≤ nI 0) = True := eq_true (by rw [a4, p0]; exact nI_le (Nat.le_refl _) (by omega))
      have hx : si (si N B 9 (nI 7)) B 8 (nI (k - 1)) = M1 := by rw [← hM1, pp]
      have gx : gi (si N B 9 (nI 7)) B 8 = nI k := by rw [gi_si_n (Or.inr (by omega))]; exact a3
      simp (disch := omega) only [↓lt_eq, nI_lit, ne, e9, ↓reduceIte, s87, gx, kk, hx, m19, xb_nI, nI_clamp, if_true, g7, gu, h5, k1, bd_some, f8]
    · have pp : p' = p - 1 := by omega
      have s9 : nI p - nI 1 = nI p' := by rw [pk_sub (by omega), pp]
      have e9 : (nI p ≤ nI 0) = False := eq_false (nI_ge (by omega) (by omega))
      have gx : gi (si N B 9 (nI p')) B 8 = nI k := by rw [gi_si_n (Or.inr (by omega))]; exact a3
      simp (disch := omega) only [↓lt_eq, nI_lit, ne, e9, ↓reduceIte, a4, s9, gx, kk, hM1, m19, xb_nI, nI_clamp, if_true, g7, gu, h5, k1, bd_some, f8]
  · obtain ⟨o2, b1, b2, P2, b3⟩ := a5 i (by omega)
    refine ⟨o2, b1, b2, P2, ?_⟩
    have es2 : slot B p' (k - 1) i = slot B p k i := by unfold slot; omega
    rw [es2]
    refine b3.cells b1.H6 b1.L8 b1.R60 (fun o j ho => ?_)
    show gi (sw M1 (B + 7) c1) (slot B p k i + o) j = _
    rw [gi_sw_ne j (by unfold slot; omega)]
    unfold gi wc
    rw [m1r _ (by unfold slot; omega)]
  · rw [show (sw M1 (B + 7) c1).1 a = M1.1 a from funext (fun j => gi_sw_ne j (by omega))]
    exact m1r a (by omega)
  · rw [gi_sw_ne 1 (by omega)]
    exact m1B 1 (by omega) (by omega)
end CF
