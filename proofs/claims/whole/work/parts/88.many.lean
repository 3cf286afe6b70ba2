/-! MANY TICKS, PREDICTIONS -/
theorem sd_comm {N : XN} {a b : Nat} {f g : XD} (h : a ≠ b) : sd (sd N a f) b g = sd (sd N b g) a f := by
  refine Prod.ext ?_ rfl
  funext x
  show (if x = b then g else if x = a then f else N.1 x) = (if x = a then f else if x = b then g else N.1 x)
  by_cases q : x = b
  · rw [if_pos q, if_neg (fun z => h (z.symm.trans q)), if_pos q]
  · rw [if_neg q, if_neg q]
theorem sd_ne {N : XN} {a b : Nat} {f : XD} (h : b ≠ a) : (sd N a f).1 b = N.1 b := if_neg h
def sTicks (ops : List Int32) (n : Nat) (d : XD) : XD := fo (fun _ e => sTick ops e) 0 n d
theorem sTicks_S (ops : List Int32) (n i : Nat) (d : XD) : fo (fun _ e => sTick ops e) i n d = sTicks ops n d := by
  induction n generalizing i d with
  | zero => rfl
  | succ n ih => unfold sTicks; rw [fo, fo, ih, ih]
theorem sTicks_1 (ops : List Int32) (n : Nat) (d : XD) : sTicks ops (n + 1) d = sTicks ops n (sTick ops d) := by
  show fo _ 0 (n + 1) d = _
  rw [fo]
  exact sTicks_S ops n 1 _
def sFines (d : XD) : Int32 := sSum d 15 6 (nH d) (nI 0)
def sFW (ops : List Int32) (t : Nat) (d : XD) : Int32 := sFines (sTicks ops t d) - sFines d
/-- the memory but for the rows that predictions work in -/
def jn2 (Y : XY) (m : Nat) (N N' : XN) : Prop := (∀ a, a ≠ gp Y m 18 → a ≠ gp Y m 10 → a ≠ gp Y m 11 → N'.1 a = N.1 a) ∧ ∀ a, a ≠ gp Y m 17 → N'.2 a = N.2 a
theorem jn.to2 {Y : XY} {m : Nat} {N N' : XN} (h : jn Y m N N') : jn2 Y m N N' := ⟨fun a q _ _ => h.1 a q, h.2⟩
theorem jn2.rfl' {Y : XY} {m : Nat} {N : XN} : jn2 Y m N N := ⟨fun _ _ _ _ => rfl, fun _ _ => rfl⟩
theorem jn2.trans {Y : XY} {m : Nat} {N N' N'' : XN} (h : jn2 Y m N N') (h' : jn2 Y m N' N'') : jn2 Y m N N'' := ⟨fun a q q1 q2 => (h'.1 a q q1 q2).trans (h.1 a q q1 q2), fun a q => (h'.2 a q).trans (h.2 a q)⟩
section MT
variable {P : Nat → Int32} {Y : XY} {m w : Nat} {N : XN} {d : XD} {ops : List Int32} {c : Nat → Nat → Int32}
theorem tick_code (hD : DJ ops d) (j : Nat) (hj : 584 ≤ j) : sTick ops d j = d j := by
  obtain ⟨a1, a2⟩ := t1_keep hD
  obtain ⟨b1, b2⟩ := t2_keep a1
  obtain ⟨c1, c2⟩ := t3_keep b1
  have k := (a2.trans b2).trans c2
  have kc : ∀ e, kept d e → e j = d j := fun e h => by
    have := h.2.2.2.2.2.2.1 (j - 584)
    rw [show 584 + (j - 584) = j by omega] at this
    exact this
  unfold sTick
  split
  · obtain ⟨f1, f2⟩ := t4_keep c1
    show upd _ 0 _ j = _
    rw [upd_n (by omega)]
    exact kc _ (k.trans f2)
  · show upd _ 0 _ j = _
    rw [upd_n (by omega)]
    exact kc _ k
theorem ticks_keep : ∀ (n : Nat) (d : XD), DJ ops d → tM d + n ≤ 1000000 → DJ ops (sTicks ops n d) ∧ nH (sTicks ops n d) = nH d ∧ nL (sTicks ops n d) = nL d ∧ nR (sTicks ops n d) = nR d ∧ tM (sTicks ops n d) = tM d + n ∧ ∀ j, 584 ≤ j → sTicks ops n d j = d j := by
  intro n
  induction n with
  | zero => intro d hD _; exact ⟨hD, rfl, rfl, rfl, rfl, fun _ _ => rfl⟩
  | succ n ih =>
    intro d hD hT
    obtain ⟨a1, a2, a3, a4, a5, a6⟩ := hD.tick (by omega)
    rw [sTicks_1]
    obtain ⟨b1, b2, b3, b4, b5, b6⟩ := ih (sTick ops d) a1 (by omega)
    exact ⟨b1, b2.trans (nH_same a2), b3.trans (nL_same a3), b4.trans (nR_same a4), by omega, fun j hj => (b6 j hj).trans (tick_code hD j hj)⟩
theorem cpR_back {A d e : XD} (h1 : ∀ k, k < 584 → A k = d k) (h2 : ∀ k, 584 ≤ k → e k = d k) : cpR 584 A e = d := by
  funext k
  unfold cpR
  by_cases q : k < 584
  · rw [if_pos q, h1 k q]
  · rw [if_neg q, h2 k (by omega)]
theorem MY.e8 {Y : XY} {m : Nat} (h : MY Y m) : gp Y m 11 ≠ gp Y m 8 ∧ gp Y m 10 ≠ gp Y m 8 ∧ gp Y m 10 ≠ gp Y m 11 ∧ gp Y m 11 ≠ gp Y m 18 ∧ gp Y m 10 ≠ gp Y m 18 ∧ gp Y m 8 ≠ gp Y m 18 := by
  rw [h.g11, h.g8, h.g10, h.g18]; omega
theorem MY.kk {Y : XY} {m : Nat} (h : MY Y m) : kn Y (gp Y m 10) = 584 ∧ kn Y (gp Y m 11) = 584 := by
  rw [h.g10, h.g11]; exact ⟨h.2.2.1.2.2.1, h.2.2.1.2.2.2⟩
/-- the row laid back -/
theorem M_back (hM : MY Y m) {a : Nat} (ha : a = gp Y m 10 ∨ a = gp Y m 11) {e : XD} (h1 : ∀ k, k < 584 → N.1 a k = d k) (h2 : ∀ k, 584 ≤ k → e k = d k) : f_X8_copy Y a (gp Y m 8) (nI 584) (sd N (gp Y m 8) e) = some (sd N (gp Y m 8) d) := by
  obtain ⟨e1, e2, e3, e4, e5, e6⟩ := hM.e8
  obtain ⟨k1, k2⟩ := hM.kk
  have k3 := hM.k8
  have hab : a ≠ gp Y m 8 := by rcases ha with rfl | rfl <;> assumption
  have hka : kn Y a = 584 := by rcases ha with rfl | rfl <;> assumption
  rw [M_copy hab (by omega) (by omega) (by omega) (by omega) (by omega), sd_at, sd_ne hab, sd_sd, cpR_back h1 h2]
/-- the row laid aside -/
theorem M_aside (hM : MY Y m) {a : Nat} (ha : a = gp Y m 10 ∨ a = gp Y m 11) : f_X8_copy Y (gp Y m 8) a (nI 584) (sd N (gp Y m 8) d) = some (sd (sd N a (cpR 584 d (N.1 a))) (gp Y m 8) d) := by
  obtain ⟨e1, e2, e3, e4, e5, e6⟩ := hM.e8
  obtain ⟨k1, k2⟩ := hM.kk
  have k3 := hM.k8
  have hab : a ≠ gp Y m 8 := by rcases ha with rfl | rfl <;> assumption
  have hka : kn Y a = 584 := by rcases ha with rfl | rfl <;> assumption
  rw [M_copy (fun q => hab q.symm) (by omega) (by omega) (by omega) (by omega) (by omega), sd_at, sd_ne hab, sd_comm (fun q => hab q.symm)]
theorem M_fw_L (hM : MY Y m) {t : Nat} (ht : t ≤ 1100) {bf : Int32} : ∀ (z i D9 : Nat) (e : XD) (N : XN), DJ ops e → tM e + z ≤ 1000000 → i + z = t → z < D9 → (∀ k, k < 584 → N.1 (gp Y m 11) k = d k) → (∀ k, 584 ≤ k → e k = d k) → ∃ N', jn Y m N N' ∧ f_X8_finesWithin_21 Y D9 m (nI t) bf (nI i) (sd N (gp Y m 8) e) = some (sFines (sTicks ops z e) - bf, sd N' (gp Y m 8) d) := by
  obtain ⟨e1, e2, e3, e4, e5, e6⟩ := hM.e8
  intro z
  induction z with
  | zero =>
    intro i D9 e N hE hT hi hD9 h1 h2
    obtain ⟨D8, rfl⟩ : ∃ z, D9 = z + 1 := ⟨D9 - 1, by omega⟩
    refine ⟨N, jn.rfl', ?_⟩
    have mb := M_back (N := N) hM (Or.inr rfl) h1 h2
    rw [f_X8_finesWithin_21]
    simp (disch := omega) only [↓lt_eq, bd, bd2, Option.bind_some, f_X8_handlerAt, f_X8_lineAt, f_X8_requestAt, nI_lit, pk_mul, nI_add, aN1, aN2, aN3, aN4, aN5, aN6, aN7, Nat.add_zero, Nat.reduceAdd, xb_nI, nI_clamp, gi_sd, si_sd, if_true, ↓reduceIte, pLEt, pLEf, pLTt, pLTf, pEQf, pML, pMG, pMf, pMg, M_finesPaid hE, mb]
    rfl
  | succ z ih =>
    intro i D9 e N hE hT hi hD9 h1 h2
    obtain ⟨D8, rfl⟩ : ∃ z, D9 = z + 1 := ⟨D9 - 1, by omega⟩
    obtain ⟨N1, j1, j2⟩ := M_tick (N := N) hM hE (by omega)
    obtain ⟨a1, a2, a3, a4, a5, a6⟩ := hE.tick (by omega)
    obtain ⟨N2, i1, i2⟩ := ih (i + 1) D8 (sTick ops e) N1 a1 (by omega) (by omega) (by omega) (fun k hk => by rw [j1.1 _ e4]; exact h1 k hk) (fun k hk => (tick_code hE k hk).trans (h2 k hk))
    refine ⟨N2, j1.trans i1, ?_⟩
    rw [f_X8_finesWithin_21, sTicks_1]
    simp (disch := omega) only [↓lt_eq, bd, bd2, Option.bind_some, f_X8_handlerAt, f_X8_lineAt, f_X8_requestAt, nI_lit, pk_mul, nI_add, aN1, aN2, aN3, aN4, aN5, aN6, aN7, Nat.add_zero, Nat.reduceAdd, xb_nI, nI_clamp, gi_sd, si_sd, if_true, ↓reduceIte, pLEt, pLEf, pLTt, pLTf, pEQf, pML, pMG, pMf, pMg, j2]
    exact i2
theorem M_finesWithin (hM : MY Y m) (hD : DJ ops d) {t : Nat} (ht : t ≤ 1100) (hT : tM d + t ≤ 1000000) : ∃ N', jn2 Y m N N' ∧ (∀ k, N'.1 (gp Y m 10) k = N.1 (gp Y m 10) k) ∧ f_X8_finesWithin Y m (nI t) (sd N (gp Y m 8) d) = some (sFW ops t d, sd N' (gp Y m 8) d) := by
  obtain ⟨e1, e2, e3, e4, e5, e6⟩ := hM.e8
  have ma := M_aside (N := N) (d := d) hM (a := gp Y m 11) (Or.inr rfl)
  obtain ⟨N1, j1, j2⟩ := M_fw_L (d := d) hM ht (bf := sFines d) t 0 FU d (sd N (gp Y m 11) (cpR 584 d (N.1 (gp Y m 11)))) hD hT (by omega) (by unfold FU; omega) (fun k hk => by rw [sd_at]; exact if_pos hk) (fun k hk => rfl)
  refine ⟨N1, ⟨fun a q q1 q2 => (j1.1 a q).trans (sd_ne q2), fun a q => j1.2 a q⟩, fun k => by rw [j1.1 _ e5, sd_ne e3], ?_⟩
  unfold f_X8_finesWithin
  simp (disch := omega) only [↓lt_eq, bd, bd2, Option.bind_some, f_X8_handlerAt, f_X8_lineAt, f_X8_requestAt, nI_lit, pk_mul, nI_add, aN1, aN2, aN3, aN4, aN5, aN6, aN7, Nat.add_zero, Nat.reduceAdd, xb_nI, nI_clamp, gi_sd, si_sd, if_true, ↓reduceIte, pLEt, pLEf, pLTt, pLTf, pEQf, pML, pMG, pMf, pMg, ma, M_finesPaid hD]
  exact j2
theorem C_fw_L (hY : WY Y w) {t : Nat} (ht : t ≤ 1100) {bf : Int32} : ∀ (z i D9 : Nat) (e : XD) (P : Nat → Int32) (c : Nat → Nat → Int32), DJ ops e → tM e + z ≤ 1000000 → CR P ops e c → i + z = t → z < D9 → ∃ Q c', f_X6_finesWithin_7 Y D9 w (nI t) bf (nI i) (sw N w c) = some (sFines (sTicks ops z e) - bf, sw N w c') ∧ CR Q ops (sTicks ops z e) c' := by
  intro z
  induction z with
  | zero =>
    intro i D9 e P c hE hT hC hi hD9
    obtain ⟨D8, rfl⟩ : ∃ z, D9 = z + 1 := ⟨D9 - 1, by omega⟩
    refine ⟨P, c, ?_, hC⟩
    rw [f_X6_finesWithin_7]
    simp (disch := omega) only [↓lt_eq, bd, bd2, Option.bind_some, nI_lit, nI_clamp, nI_add, xb_nI, if_true, gi_sw, gi_sw0, si_sw, si_sw0, hY.g0, hY.g2, hY.g4, hY.g13, hY.g14, hY.f0, hY.f2, hY.h, hY.l, hY.t, hY.r, ↓reduceIte, pLEt, pLEf, pLTt, pLTf, pEQf, pML, pMG, pMf, pMg, C_allFines hY hE hC]
    rfl
  | succ z ih =>
    intro i D9 e P c hE hT hC hi hD9
    obtain ⟨D8, rfl⟩ : ∃ z, D9 = z + 1 := ⟨D9 - 1, by omega⟩
    obtain ⟨Q1, c1, b1, b2⟩ := C_passTick (N := N) hY hE (by omega) hC
    obtain ⟨a1, a2, a3, a4, a5, a6⟩ := hE.tick (by omega)
    obtain ⟨Q2, c2, f1, f2⟩ := ih (i + 1) D8 (sTick ops e) Q1 c1 a1 (by omega) b2 (by omega) (by omega)
    refine ⟨Q2, c2, ?_, by rw [sTicks_1]; exact f2⟩
    rw [f_X6_finesWithin_7, sTicks_1]
    simp (disch := omega) only [↓lt_eq, bd, bd2, Option.bind_some, nI_lit, nI_clamp, nI_add, xb_nI, if_true, gi_sw, gi_sw0, si_sw, si_sw0, hY.g0, hY.g2, hY.g4, hY.g13, hY.g14, hY.f0, hY.f2, hY.h, hY.l, hY.t, hY.r, ↓reduceIte, pLEt, pLEf, pLTt, pLTf, pEQf, pML, pMG, pMf, pMg, b1]
    exact f1
theorem C_finesWithin (hY : WY Y w) (hD : DJ ops d) {t : Nat} (ht : t ≤ 1100) (hT : tM d + t ≤ 1000000) (hC : CR P ops d c) : ∃ Q c', f_X6_finesWithin Y w (nI t) (sw N w c) = some (sFW ops t d, sw N w c') ∧ CR Q ops (sTicks ops t d) c' := by
  obtain ⟨Q1, c1, b1, b2⟩ := C_fw_L (N := N) hY ht (bf := sFines d) t 0 FU d P c hD hT hC (by omega) (by unfold FU; omega)
  refine ⟨Q1, c1, ?_, b2⟩
  unfold f_X6_finesWithin
  simp (disch := omega) only [↓lt_eq, bd, bd2, Option.bind_some, nI_lit, nI_clamp, nI_add, xb_nI, if_true, gi_sw, gi_sw0, si_sw, si_sw0, hY.g0, hY.g2, hY.g4, hY.g13, hY.g14, hY.f0, hY.f2, hY.h, hY.l, hY.t, hY.r, ↓reduceIte, pLEt, pLEf, pLTt, pLTf, pEQf, pML, pMG, pMf, pMg, C_allFines hY hD hC]
  exact b1
/-- when a request ends -/
def sEnds (ops : List Int32) (r : Nat) : Nat → XD → Int32
  | 0, e => e (110 + 8 * r)
  | n + 1, e => if nI 2 ≤ e (107 + 8 * r) then e (110 + 8 * r) else sEnds ops r n (sTick ops e)
theorem M_ends_L (hM : MY Y m) {r : Nat} (hr : r < 60) : ∀ (z i D9 : Nat) (e : XD) (N : XN), DJ ops e → tM e + z ≤ 1000000 → i + z = 1100 → z < D9 → (∀ k, k < 584 → N.1 (gp Y m 10) k = d k) → (∀ k, 584 ≤ k → e k = d k) → ∃ N', jn Y m N N' ∧ f_X8_endsAt_31 Y D9 m (nI r) (nI i) (sd N (gp Y m 8) e) = some (sEnds ops r z e, sd N' (gp Y m 8) d) := by
  obtain ⟨e1, e2, e3, e4, e5, e6⟩ := hM.e8
  intro z
  induction z with
  | zero =>
    intro i D9 e N hE hT hi hD9 h1 h2
    obtain ⟨D8, rfl⟩ : ∃ z, D9 = z + 1 := ⟨D9 - 1, by omega⟩
    refine ⟨N, jn.rfl', ?_⟩
    have mb := M_back (N := N) hM (Or.inl rfl) h1 h2
    rw [f_X8_endsAt_31]
    simp (disch := omega) only [↓lt_eq, bd, bd2, Option.bind_some, f_X8_handlerAt, f_X8_lineAt, f_X8_requestAt, nI_lit, pk_mul, nI_add, aN1, aN2, aN3, aN4, aN5, aN6, aN7, Nat.add_zero, Nat.reduceAdd, xb_nI, nI_clamp, gi_sd, si_sd, if_true, ↓reduceIte, pLEt, pLEf, pLTt, pLTf, pEQf, pML, pMG, pMf, pMg, M_ofRequest, mb]
    rfl
  | succ z ih =>
    intro i D9 e N hE hT hi hD9 h1 h2
    obtain ⟨D8, rfl⟩ : ∃ z, D9 = z + 1 := ⟨D9 - 1, by omega⟩
    rw [f_X8_endsAt_31, sEnds]
    by_cases q : nI 2 ≤ e (107 + 8 * r)
    · refine ⟨N, jn.rfl', ?_⟩
      have mb := M_back (N := N) hM (Or.inl rfl) h1 h2
      rw [if_pos q]
      simp (disch := omega) only [↓lt_eq, bd, bd2, Option.bind_some, f_X8_handlerAt, f_X8_lineAt, f_X8_requestAt, nI_lit, pk_mul, nI_add, aN1, aN2, aN3, aN4, aN5, aN6, aN7, Nat.add_zero, Nat.reduceAdd, xb_nI, nI_clamp, gi_sd, si_sd, if_true, ↓reduceIte, pLEt, pLEf, pLTt, pLTf, pEQf, pML, pMG, pMf, pMg, M_ofRequest, eq_true q, mb]
    · obtain ⟨N1, j1, j2⟩ := M_tick (N := N) hM hE (by omega)
      obtain ⟨a1, a2, a3, a4, a5, a6⟩ := hE.tick (by omega)
      obtain ⟨N2, i1, i2⟩ := ih (i + 1) D8 (sTick ops e) N1 a1 (by omega) (by omega) (by omega) (fun k hk => by rw [j1.1 _ e5]; exact h1 k hk) (fun k hk => (tick_code hE k hk).trans (h2 k hk))
      refine ⟨N2, j1.trans i1, ?_⟩
      rw [if_neg q]
      simp (disch := omega) only [↓lt_eq, bd, bd2, Option.bind_some, f_X8_handlerAt, f_X8_lineAt, f_X8_requestAt, nI_lit, pk_mul, nI_add, aN1, aN2, aN3, aN4, aN5, aN6, aN7, Nat.add_zero, Nat.reduceAdd, xb_nI, nI_clamp, gi_sd, si_sd, if_true, ↓reduceIte, pLEt, pLEf, pLTt, pLTf, pEQf, pML, pMG, pMf, pMg, M_ofRequest, eq_false q, j2]
      exact i2
theorem C_ends_L {p : Nat} (hY : WY Y w) (hp : gp Y p 6 = w) {r : Nat} : ∀ (z i D9 : Nat) (e : XD) (P : Nat → Int32) (c : Nat → Nat → Int32), DJ ops e → r < nR e → tM e + z ≤ 1000000 → CR P ops e c → i + z = 1100 → z < D9 → ∃ c', f_X7_endsAt_44 Y D9 p (w + (30 + r)) (nI i) (sw N w c) = some (.inl (sEnds ops r z e), sw N w c') := by
  intro z
  induction z with
  | zero =>
    intro i D9 e P c hE hr hT hC hi hD9
    have h60 := hE.R60
    obtain ⟨D8, rfl⟩ : ∃ z, D9 = z + 1 := ⟨D9 - 1, by omega⟩
    refine ⟨c, ?_⟩
    rw [f_X7_endsAt_44]
    simp (disch := omega) only [↓lt_eq, bd, bd2, Option.bind_some, nI_lit, nI_clamp, nI_add, xb_nI, if_true, gi_sw, gi_sw0, si_sw, si_sw0, hY.g0, hY.g2, hY.g4, hY.g13, hY.g14, hY.f0, hY.f2, hY.h, hY.l, hY.t, hY.r, ↓reduceIte, pLEt, pLEf, pLTt, pLTf, pEQf, pML, pMG, pMf, pMg, hC.1.r7]
    rfl
  | succ z ih =>
    intro i D9 e P c hE hr hT hC hi hD9
    have h60 := hE.R60
    obtain ⟨D8, rfl⟩ : ∃ z, D9 = z + 1 := ⟨D9 - 1, by omega⟩
    have hq : nI 2 ≤ e (107 + 8 * r) ↔ nI 0 ≤ e (110 + 8 * r) := by
      obtain ⟨-, -, -, -, a5⟩ := hE.rq r hr
      rcases a5 with ⟨x1, x2, x3⟩ | ⟨x1, x2, x3⟩ | ⟨x1, x2, ⟨y, y1, y2⟩⟩
      · rw [x1, x3]; exact ⟨fun z => absurd z (by decide), fun z => absurd z (by decide)⟩
      · rw [x1, x3]; exact ⟨fun z => absurd z (by decide), fun z => absurd z (by decide)⟩
      · rw [y2]
        refine ⟨fun _ => nI_le (Nat.zero_le y) y1, fun _ => ?_⟩
        rcases x1 with x1 | x1 <;> rw [x1] <;> decide
    rw [f_X7_endsAt_44, sEnds]
    by_cases q : nI 2 ≤ e (107 + 8 * r)
    · refine ⟨c, ?_⟩
      rw [if_pos q]
      simp (disch := omega) only [↓lt_eq, bd, bd2, Option.bind_some, nI_lit, nI_clamp, nI_add, xb_nI, if_true, gi_sw, gi_sw0, si_sw, si_sw0, hY.g0, hY.g2, hY.g4, hY.g13, hY.g14, hY.f0, hY.f2, hY.h, hY.l, hY.t, hY.r, ↓reduceIte, pLEt, pLEf, pLTt, pLTf, pEQf, pML, pMG, pMf, pMg, hC.1.r7, eq_true (hq.mp q)]
    · obtain ⟨Q1, c1, b1, b2⟩ := C_passTick (N := N) hY hE (by omega) hC
      obtain ⟨a1, a2, a3, a4, a5, a6⟩ := hE.tick (by omega)
      obtain ⟨c2, f1⟩ := ih (i + 1) D8 (sTick ops e) Q1 c1 a1 (by rw [nR_same a4]; exact hr) (by omega) b2 (by omega) (by omega)
      refine ⟨c2, ?_⟩
      rw [if_neg q]
      simp (disch := omega) only [↓lt_eq, bd, bd2, Option.bind_some, nI_lit, nI_clamp, nI_add, xb_nI, if_true, gi_sw, gi_sw0, si_sw, si_sw0, hY.g0, hY.g2, hY.g4, hY.g13, hY.g14, hY.f0, hY.f2, hY.h, hY.l, hY.t, hY.r, ↓reduceIte, pLEt, pLEf, pLTt, pLTf, pEQf, pML, pMG, pMf, pMg, hC.1.r7, eq_false (fun z => q (hq.mpr z)), hp, b1]
      exact f1
/-- when a handler is bankrupt -/
def sBank (ops : List Int32) (h : Nat) : Nat → Nat → XD → Int32
  | 0, i, e => if e (14 + 6 * h) = nI 1 then nI i else -nI 1
  | n + 1, i, e => if e (14 + 6 * h) = nI 0 then sBank ops h n (i + 1) (sTick ops e) else nI i
theorem M_bank_L (hM : MY Y m) {h : Nat} : ∀ (z i D9 : Nat) (e : XD) (N : XN), DJ ops e → h < nH e → tM e + z ≤ 1000000 → i + z = 1100 → z < D9 → (∀ k, k < 584 → N.1 (gp Y m 10) k = d k) → (∀ k, 584 ≤ k → e k = d k) → ∃ N', jn Y m N N' ∧ f_X8_bankruptIn_31 Y D9 m (nI h) (nI i) (sd N (gp Y m 8) e) = some (sBank ops h z i e, sd N' (gp Y m 8) d) := by
  obtain ⟨e1, e2, e3, e4, e5, e6⟩ := hM.e8
  intro z
  induction z with
  | zero =>
    intro i D9 e N hE hh hT hi hD9 h1 h2
    have h6 := hE.H6
    obtain ⟨D8, rfl⟩ : ∃ z, D9 = z + 1 := ⟨D9 - 1, by omega⟩
    refine ⟨N, jn.rfl', ?_⟩
    have mb := M_back (N := N) hM (Or.inl rfl) h1 h2
    rw [f_X8_bankruptIn_31, sBank]
    by_cases q : e (14 + 6 * h) = nI 1
    · rw [if_pos q]
      simp (disch := omega) only [↓lt_eq, bd, bd2, Option.bind_some, f_X8_handlerAt, f_X8_lineAt, f_X8_requestAt, nI_lit, pk_mul, nI_add, aN1, aN2, aN3, aN4, aN5, aN6, aN7, Nat.add_zero, Nat.reduceAdd, xb_nI, nI_clamp, gi_sd, si_sd, if_true, ↓reduceIte, pLEt, pLEf, pLTt, pLTf, pEQf, pML, pMG, pMf, pMg, f_X8_ofHandler, eq_true q, mb]
    · rw [if_neg q]
      simp (disch := omega) only [↓lt_eq, bd, bd2, Option.bind_some, f_X8_handlerAt, f_X8_lineAt, f_X8_requestAt, nI_lit, pk_mul, nI_add, aN1, aN2, aN3, aN4, aN5, aN6, aN7, Nat.add_zero, Nat.reduceAdd, xb_nI, nI_clamp, gi_sd, si_sd, if_true, ↓reduceIte, pLEt, pLEf, pLTt, pLTf, pEQf, pML, pMG, pMf, pMg, f_X8_ofHandler, eq_false q, mb]
  | succ z ih =>
    intro i D9 e N hE hh hT hi hD9 h1 h2
    have h6 := hE.H6
    obtain ⟨D8, rfl⟩ : ∃ z, D9 = z + 1 := ⟨D9 - 1, by omega⟩
    rw [f_X8_bankruptIn_31, sBank]
    rcases hE.B h hh with q | q
    · obtain ⟨N1, j1, j2⟩ := M_tick (N := N) hM hE (by omega)
      obtain ⟨a1, a2, a3, a4, a5, a6⟩ := hE.tick (by omega)
      obtain ⟨N2, i1, i2⟩ := ih (i + 1) D8 (sTick ops e) N1 a1 (by rw [nH_same a2]; exact hh) (by omega) (by omega) (by omega) (fun k hk => by rw [j1.1 _ e5]; exact h1 k hk) (fun k hk => (tick_code hE k hk).trans (h2 k hk))
      refine ⟨N2, j1.trans i1, ?_⟩
      rw [if_pos q]
      simp (disch := omega) only [↓lt_eq, bd, bd2, Option.bind_some, f_X8_handlerAt, f_X8_lineAt, f_X8_requestAt, nI_lit, pk_mul, nI_add, aN1, aN2, aN3, aN4, aN5, aN6, aN7, Nat.add_zero, Nat.reduceAdd, xb_nI, nI_clamp, gi_sd, si_sd, if_true, ↓reduceIte, pLEt, pLEf, pLTt, pLTf, pEQf, pML, pMG, pMf, pMg, f_X8_ofHandler, q, j2]
      exact i2
    · refine ⟨N, jn.rfl', ?_⟩
      have mb := M_back (N := N) hM (Or.inl rfl) h1 h2
      rw [if_neg (c := e (14 + 6 * h) = nI 0) (by rw [q]; decide)]
      simp (disch := omega) only [↓lt_eq, bd, bd2, Option.bind_some, f_X8_handlerAt, f_X8_lineAt, f_X8_requestAt, nI_lit, pk_mul, nI_add, aN1, aN2, aN3, aN4, aN5, aN6, aN7, Nat.add_zero, Nat.reduceAdd, xb_nI, nI_clamp, gi_sd, si_sd, if_true, ↓reduceIte, pLEt, pLEf, pLTt, pLTf, pEQf, pML, pMG, pMf, pMg, f_X8_ofHandler, q, mb]
theorem C_bank_L {p : Nat} (hY : WY Y w) (hp : gp Y p 6 = w) {h : Nat} : ∀ (z i D9 : Nat) (e : XD) (P : Nat → Int32) (c : Nat → Nat → Int32), DJ ops e → h < nH e → tM e + z ≤ 1000000 → CR P ops e c → i + z = 1100 → z < D9 → ∃ c', f_X7_bankruptIn_44 Y D9 p (w + (8 + h)) (nI i) (sw N w c) = some (.inl (sBank ops h z i e), sw N w c') := by
  intro z
  induction z with
  | zero =>
    intro i D9 e P c hE hh hT hC hi hD9
    have h6 := hE.H6
    obtain ⟨D8, rfl⟩ : ∃ z, D9 = z + 1 := ⟨D9 - 1, by omega⟩
    refine ⟨c, ?_⟩
    rw [f_X7_bankruptIn_44, sBank]
    rcases hE.B h hh with q | q
    · rw [if_neg (c := e (14 + 6 * h) = nI 1) (by rw [q]; decide)]
      simp (disch := omega) only [↓lt_eq, bd, bd2, Option.bind_some, nI_lit, nI_clamp, nI_add, xb_nI, if_true, gi_sw, gi_sw0, si_sw, si_sw0, hY.g0, hY.g2, hY.g4, hY.g13, hY.g14, hY.f0, hY.f2, hY.h, hY.l, hY.t, hY.r, ↓reduceIte, pLEt, pLEf, pLTt, pLTf, pEQf, pML, pMG, pMf, pMg, hC.1.h2, q]
    · rw [if_pos q]
      simp (disch := omega) only [↓lt_eq, bd, bd2, Option.bind_some, nI_lit, nI_clamp, nI_add, xb_nI, if_true, gi_sw, gi_sw0, si_sw, si_sw0, hY.g0, hY.g2, hY.g4, hY.g13, hY.g14, hY.f0, hY.f2, hY.h, hY.l, hY.t, hY.r, ↓reduceIte, pLEt, pLEf, pLTt, pLTf, pEQf, pML, pMG, pMf, pMg, hC.1.h2, q]
  | succ z ih =>
    intro i D9 e P c hE hh hT hC hi hD9
    have h6 := hE.H6
    obtain ⟨D8, rfl⟩ : ∃ z, D9 = z + 1 := ⟨D9 - 1, by omega⟩
    rw [f_X7_bankruptIn_44, sBank]
    rcases hE.B h hh with q | q
    · obtain ⟨Q1, c1, b1, b2⟩ := C_passTick (N := N) hY hE (by omega) hC
      obtain ⟨a1, a2, a3, a4, a5, a6⟩ := hE.tick (by omega)
      obtain ⟨c2, f1⟩ := ih (i + 1) D8 (sTick ops e) Q1 c1 a1 (by rw [nH_same a2]; exact hh) (by omega) b2 (by omega) (by omega)
      refine ⟨c2, ?_⟩
      rw [if_pos q]
      simp (disch := omega) only [↓lt_eq, bd, bd2, Option.bind_some, nI_lit, nI_clamp, nI_add, xb_nI, if_true, gi_sw, gi_sw0, si_sw, si_sw0, hY.g0, hY.g2, hY.g4, hY.g13, hY.g14, hY.f0, hY.f2, hY.h, hY.l, hY.t, hY.r, ↓reduceIte, pLEt, pLEf, pLTt, pLTf, pEQf, pML, pMG, pMf, pMg, hC.1.h2, q, hp, b1]
      exact f1
    · refine ⟨c, ?_⟩
      rw [if_neg (c := e (14 + 6 * h) = nI 0) (by rw [q]; decide)]
      simp (disch := omega) only [↓lt_eq, bd, bd2, Option.bind_some, nI_lit, nI_clamp, nI_add, xb_nI, if_true, gi_sw, gi_sw0, si_sw, si_sw0, hY.g0, hY.g2, hY.g4, hY.g13, hY.g14, hY.f0, hY.f2, hY.h, hY.l, hY.t, hY.r, ↓reduceIte, pLEt, pLEf, pLTt, pLTf, pEQf, pML, pMG, pMf, pMg, hC.1.h2, q]
end MT
