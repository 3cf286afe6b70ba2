/-! THE FACE'S CHANGES: pass, raise, lease, release, fund -/
section CG
variable {P : Nat → Int32} {Y : XY} {B m w : Nat} {N : XN} {d : XD} {ops : List Int32} {k p n : Nat}
theorem keep_all (hY : YO Y B) (hd : IVd B N ops d) (hh : IVh B N k p) : ∃ Nk Q P, f_X7_keepPresent Y B N = some Nk ∧ kept1 B p k N Nk ∧ CR Q ops d (wc Nk (B + (188 + 90 * p))) ∧ CR P ops d (wc Nk (B + 7)) := by
  obtain ⟨hD, hz, hT, hr, P, hC⟩ := hd
  obtain ⟨⟨a1, a2, a3, a4, a5⟩, -, -⟩ := hh
  obtain ⟨Nk, Q, b1, b2, b3⟩ := K_keep hY hD hC a1 a2 a3 a4
  exact ⟨Nk, Q, P, b1, b2, b3, hC.cells hD.H6 hD.L8 hD.R60 (fun o j ho => by unfold wc; rw [b2.2.1 _ (by omega) (by omega)])⟩
theorem rem_all (hY : YO Y B) (hd : IVd B N ops d) (hh : IVh B N k p) {Nk N' : XN} {c' : Nat → Nat → Int32} (h1 : kept1 B p k N Nk) (hN' : N'.1 = (sw Nk (B + 7) c').1) : ∃ Nr, f_X8_remember Y (B + 908) (mm N' B (nI 0)) = some Nr ∧ kept2 B k d (mm N' B (nI 0)) Nr ∧ Nr.1 (B + 910) = d := by
  obtain ⟨hD, hz, hT, hr, P, hC⟩ := hd
  obtain ⟨⟨a1, a2, a3, a4, a5⟩, a6, a7⟩ := hh
  obtain ⟨-, b2, b3, b4, b5⟩ := h1
  have far : ∀ a, B + 908 ≤ a → N'.1 a = N.1 a := fun a ha => by
    rw [hN', show (sw Nk (B + 7) c').1 a = Nk.1 a from funext (fun j => gi_sw_ne j (by omega))]
    exact b2 a (by omega) (by omega)
  have hd' : (mm N' B (nI 0)).1 (B + 910) = d := by rw [mm_row, far _ (by omega)]; exact hr
  have hrr : ∀ j, j < 8 → hrow B (mm N' B (nI 0)) j = hrow B N j := fun j hj => by
    have : (mm N' B (nI 0)).1 (B + (915 + j)) = N'.1 (B + (915 + j)) := si_row (by omega)
    unfold hrow
    rw [this, far _ (by omega)]
  have h13 : gi (mm N' B (nI 0)) (B + 908) 13 = nI k := by
    have : gi (mm N' B (nI 0)) (B + 908) 13 = gi N' (B + 908) 13 := gi_si_n (Or.inr (by omega))
    rw [this]
    unfold gi
    rw [far _ (by omega)]
    exact a6
  obtain ⟨Nr, c1, c2⟩ := M_remember (Y := Y) hY.2.2.2.2.2.2.1 hd' hz a1 h13 (fun j hj => by rw [hrr j hj]; exact a7 j hj)
  refine ⟨Nr, c1, c2, ?_⟩
  funext j
  rw [c2.2.2.2 _ _ (by omega) (by omega), hd']
theorem nhd_ZZ {hd : Nat → XD} (h : ∀ i, i < 8 → ZZ (hd i)) (hz : ZZ d) {i : Nat} (hi : i < 8) : ZZ (nhd k hd d i) := by
  unfold nhd
  split
  · split
    · exact h _ (by omega)
    · exact hz
  · split
    · exact hz
    · exact h _ hi
theorem nhd_cong {hd hd' : Nat → XD} (h : ∀ i, i < 8 → hd' i = hd i) {i : Nat} (hi : i < 8) : nhd k hd' d i = nhd k hd d i := by
  unfold nhd
  split
  · split
    · exact h _ (by omega)
    · rfl
  · split
    · rfl
    · exact h _ hi
/-- what holds behind a change -/
theorem IV_change (hY : YO Y B) (hd : IVd B N ops d) (hh : IVh B N k p) (ht : IVt B N n) {Nk N' Nr Ns : XN} {c' : Nat → Nat → Int32} {Q Q' : Nat → Int32} {ops' : List Int32} {d' : XD}
    (h1 : kept1 B p k N Nk) (hC1 : CR Q ops d (wc Nk (B + (188 + 90 * p)))) (hC' : CR Q' ops' d' c') (hD' : DJ ops' d') (hz' : ZZ d') (hT' : tM d' ≤ 9999) (hN' : N'.1 = (sw Nk (B + 7) c').1) (h2 : kept2 B k d (mm N' B (nI 0)) Nr) (hj : jn2 Y (B + 908) Nr Ns) :
    IV B (sd Ns (gp Y (B + 908) 8) d') ∧ (∀ a, a ≠ B + 923 → (sd Ns (gp Y (B + 908) 8) d').2 a = N'.2 a) ∧ gi (sd Ns (gp Y (B + 908) 8) d') (B + 908) 0 = nI 0 := by
  have hM := hY.2.2.2.2.2.2.1
  have k8 : gp Y (B + 908) 8 = B + 910 := hM.g8
  have k18 : gp Y (B + 908) 18 = B + 924 := hM.g18
  have k10 : gp Y (B + 908) 10 = B + 912 := hM.g10
  have k11 : gp Y (B + 908) 11 = B + 913 := hM.g11
  have k17 : gp Y (B + 908) 17 = B + 923 := hM.g17
  obtain ⟨hD, hz, hT, hr, P, hC⟩ := hd
  have hh' := hh
  obtain ⟨a0, a6, a7⟩ := hh'
  have hrn := ring_next a0 h1 hD hT hC1
  obtain ⟨h1a, h1b, h1c, h1d, h1e⟩ := h1
  obtain ⟨h2a, h2b, h2c, h2d⟩ := h2
  obtain ⟨j1, j2⟩ := hj
  rw [k18, k10, k11] at j1
  rw [k17] at j2
  rw [k8]
  have path : ∀ a j, a ≠ B + 910 → a ≠ B + 912 → a ≠ B + 913 → a ≠ B + 924 → ¬ (a = B + 908 ∧ j = 13) → ¬ (a = B + 908 ∧ j = 0) → (a < B + 915 ∨ B + 923 ≤ a) → (sd Ns (B + 910) d').1 a j = (sw Nk (B + 7) c').1 a j := by
    intro a j q1 q2 q3 q4 q5 q6 q7
    rw [sd_ne q1, j1 a q4 q2 q3, h2d a j q5 q7, ← hN']
    exact si_cell q6
  have pathk : ∀ a j, a ≠ B + 910 → a ≠ B + 912 → a ≠ B + 913 → a ≠ B + 924 → ¬ (a = B + 908 ∧ j = 13) → ¬ (a = B + 908 ∧ j = 0) → (a < B + 915 ∨ B + 923 ≤ a) → (a < B + 7 ∨ B + 97 ≤ a) → (sd Ns (B + 910) d').1 a j = Nk.1 a j := by
    intro a j q1 q2 q3 q4 q5 q6 q7 q8
    rw [path a j q1 q2 q3 q4 q5 q6 q7]
    exact gi_sw_ne j (by omega)
  have pathB : ∀ j, j ≠ 8 → j ≠ 9 → gi (sd Ns (B + 910) d') B j = gi N B j := fun j q1 q2 => (pathk B j (by omega) (by omega) (by omega) (by omega) (by omega) (by omega) (by omega) (by omega)).trans (h1c j q1 q2)
  have pathN : ∀ a j, a ≠ B + 910 → a ≠ B + 912 → a ≠ B + 913 → a ≠ B + 924 → ¬ (a = B + 908 ∧ j = 13) → ¬ (a = B + 908 ∧ j = 0) → (a < B + 915 ∨ B + 923 ≤ a) → (a < B + 7 ∨ B + 97 ≤ a) → a ≠ B → (a < B + (188 + 90 * p) ∨ B + (188 + 90 * p) + 90 ≤ a) → (sd Ns (B + 910) d').1 a j = N.1 a j := by
    intro a j q1 q2 q3 q4 q5 q6 q7 q8 q9 q10
    rw [pathk a j q1 q2 q3 q4 q5 q6 q7 q8, h1b a q9 q10]
  have hp := a0.2.1
  have hrowN' : ∀ i, i < 8 → hrow B (mm N' B (nI 0)) i = hrow B N i := fun i hi => by
    have e1 : (mm N' B (nI 0)).1 (B + (915 + i)) = N'.1 (B + (915 + i)) := si_row (by omega)
    unfold hrow
    rw [e1, hN', show (sw Nk (B + 7) c').1 (B + (915 + i)) = Nk.1 (B + (915 + i)) from funext (fun j => gi_sw_ne j (by omega)), h1b _ (by omega) (by omega)]
  have hrow2 : ∀ i, i < 8 → hrow B (sd Ns (B + 910) d') i = nhd k (hrow B N) d i := fun i hi => by
    have e1 : hrow B (sd Ns (B + 910) d') i = hrow B Nr i := by
      unfold hrow
      rw [sd_ne (by omega), j1 _ (by omega) (by omega) (by omega)]
    rw [e1, h2b i hi]
    exact nhd_cong hrowN' hi
  refine ⟨⟨⟨ops', d', hD', hz', hT', sd_at _ _ _, Q', hC'.cells hD'.H6 hD'.L8 hD'.R60 (fun o j ho => ?_)⟩, ⟨min (k + 1) 8, (p + 1) % 8, ?_, ?_, fun i hi => by rw [hrow2 i hi]; exact nhd_ZZ a7 hz hi⟩, n, ?_⟩, fun a q => ?_, ?_⟩
  · unfold wc
    rw [path _ _ (by omega) (by omega) (by omega) (by omega) (by omega) (by omega) (by omega)]
    exact gi_sw Nk (B + 7) c' j ho
  · refine hrn.same ?_ ?_ (fun i hi => hrow2 i (by omega)) (fun o j ho => ?_)
    · exact pathk B 8 (by omega) (by omega) (by omega) (by omega) (by omega) (by omega) (by omega) (by omega)
    · exact pathk B 9 (by omega) (by omega) (by omega) (by omega) (by omega) (by omega) (by omega) (by omega)
    · exact pathk _ _ (by omega) (by omega) (by omega) (by omega) (by omega) (by omega) (by omega) (by omega)
  · rw [gi_sd_ne (by omega)]
    unfold gi
    rw [j1 _ (by omega) (by omega) (by omega)]
    exact h2c
  · refine ht.same (pathB 1 (by omega) (by omega)) ?_ (fun i => ?_) (fun i => ?_) (pathB 2 (by omega) (by omega)) ?_
    · exact pathN _ _ (by omega) (by omega) (by omega) (by omega) (by omega) (by omega) (by omega) (by omega) (by omega) (by omega)
    · exact pathN _ _ (by omega) (by omega) (by omega) (by omega) (by omega) (by omega) (by omega) (by omega) (by omega) (by omega)
    · exact pathN _ _ (by omega) (by omega) (by omega) (by omega) (by omega) (by omega) (by omega) (by omega) (by omega) (by omega)
    · exact pathN _ _ (by omega) (by omega) (by omega) (by omega) (by omega) (by omega) (by omega) (by omega) (by omega) (by omega)
  · show Ns.2 a = N'.2 a
    rw [j2 a q, h2a]
    rfl
  · rw [gi_sd_ne (by omega)]
    unfold gi
    rw [j1 _ (by omega) (by omega) (by omega), h2d _ _ (by omega) (by omega)]
    exact gi_mm _ _ _
theorem ZZ_code {e : XD} (hz : ZZ d) (h : ∀ j, 584 ≤ j → e j = d j) : ZZ e := fun j hj => (h j (by omega)).trans (hz j hj)
theorem row_sd (hM : MY Y (B + 908)) {Nr : XN} (h : Nr.1 (B + 910) = d) : Nr = sd Nr (gp Y (B + 908) 8) d := by
  have k8 : gp Y (B + 908) 8 = B + 910 := hM.g8
  rw [k8, ← h]
  exact (sd_self _ _).symm
theorem sd_sd' (N : XN) (a : Nat) (f g : XD) : sd (sd N a f) a g = sd N a g := sd_sd N a f g
/-- passing -/
def sPass (ops : List Int32) (t : Nat) (d : XD) : Int32 := nI (sCount (sTicks ops t d) (nI 2)) - nI (sCount d (nI 2))
theorem M_pass_L (hM : MY Y m) {t : Nat} (ht : t ≤ 200) {bf : Int32} : ∀ (z i D9 : Nat) (e : XD) (N : XN), DJ ops e → tM e + z ≤ 1000000 → i + z = t → z < D9 → ∃ N', jn Y m N N' ∧ f_X8_pass_57 Y D9 m (nI t) bf (nI i) (sd N (gp Y m 8) e) = some (nI (sCount (sTicks ops z e) (nI 2)) - bf, sd N' (gp Y m 8) (sTicks ops z e)) := by
  intro z
  induction z with
  | zero =>
    intro i D9 e N hE hT hi hD9
    obtain ⟨D8, rfl⟩ : ∃ z, D9 = z + 1 := ⟨D9 - 1, by omega⟩
    refine ⟨N, jn.rfl', ?_⟩
    rw [f_X8_pass_57]
    simp (disch := omega) only [↓lt_eq, nI_lit, ↓reduceIte, pLEt, pLEf, pLTt, pLTf, pEQf, pML, pMG, pMf, pMg, M_countOf hE, bd_some]
    rfl
  | succ z ih =>
    intro i D9 e N hE hT hi hD9
    obtain ⟨D8, rfl⟩ : ∃ z, D9 = z + 1 := ⟨D9 - 1, by omega⟩
    obtain ⟨N1, j1, j2⟩ := M_tick (N := N) hM hE (by omega)
    obtain ⟨a1, a2, a3, a4, a5, a6⟩ := hE.tick (by omega)
    obtain ⟨N2, i1, i2⟩ := ih (i + 1) D8 (sTick ops e) N1 a1 (by omega) (by omega) (by omega)
    refine ⟨N2, j1.trans i1, ?_⟩
    rw [f_X8_pass_57, sTicks_1]
    simp (disch := omega) only [↓lt_eq, nI_lit, nI_add, ↓reduceIte, pLEt, pLEf, pLTt, pLTf, pEQf, pML, pMG, pMf, pMg, j2, bd_some]
    exact i2
theorem C_pass_L {q : Nat} (h5 : gp Y q 5 = w) (hY : WY Y w) {t : Nat} (ht : t ≤ 200) {bf : Int32} : ∀ (z i D9 : Nat) (e : XD) (P : Nat → Int32) (c : Nat → Nat → Int32), DJ ops e → tM e + z ≤ 1000000 → CR P ops e c → i + z = t → z < D9 → ∃ Q c', f_X7_pass_52 Y D9 q (nI t) bf (nI i) (sw N w c) = some (.inl (nI (sCount (sTicks ops z e) (nI 2)) - bf), sw N w c') ∧ CR Q ops (sTicks ops z e) c' := by
  intro z
  induction z with
  | zero =>
    intro i D9 e P c hE hT hC hi hD9
    obtain ⟨D8, rfl⟩ : ∃ z, D9 = z + 1 := ⟨D9 - 1, by omega⟩
    refine ⟨P, c, ?_, hC⟩
    rw [f_X7_pass_52]
    simp (disch := omega) only [↓lt_eq, nI_lit, ↓reduceIte, pLEt, pLEf, pLTt, pLTf, pEQf, pML, pMG, pMf, pMg, h5, C_requestsIn hY hE hC, bd_some]
    rfl
  | succ z ih =>
    intro i D9 e P c hE hT hC hi hD9
    obtain ⟨D8, rfl⟩ : ∃ z, D9 = z + 1 := ⟨D9 - 1, by omega⟩
    obtain ⟨Q1, c1, b1, b2⟩ := C_passTick (N := N) hY hE (by omega) hC
    obtain ⟨a1, a2, a3, a4, a5, a6⟩ := hE.tick (by omega)
    obtain ⟨Q2, c2, f1, f2⟩ := ih (i + 1) D8 (sTick ops e) Q1 c1 a1 (by omega) b2 (by omega) (by omega)
    refine ⟨Q2, c2, ?_, by rw [sTicks_1]; exact f2⟩
    rw [f_X7_pass_52, sTicks_1]
    simp (disch := omega) only [↓lt_eq, nI_lit, nI_add, ↓reduceIte, pLEt, pLEf, pLTt, pLTf, pEQf, pML, pMG, pMf, pMg, h5, b1, bd_some]
    exact f1
theorem F_pass (hY : YO Y B) (hI : IV B N) (x : Int32) : FC2 Y B [IAE] (f_X7_pass Y B x) (f_X8_pass Y (B + 908) x) N := by
  have hY' := hY
  obtain ⟨⟨g0, g3, g4, h5, h6, g7⟩, -, -, hW, hW2, -, hM, -⟩ := hY'
  have hI' := hI
  obtain ⟨⟨ops, d, hdd⟩, ⟨k, p, hh⟩, n, ht⟩ := hI'
  have hdd' := hdd
  obtain ⟨hD, hz, hT, hr, P, hC⟩ := hdd'
  have e0 : ∀ N' : XN, si N' (B + 908) 0 (nI 0) = mm N' B (nI 0) := fun _ => rfl
  have e6 : gi N (B + 7) 6 = nI (tM d) := (hC.1.w6).trans hD.T
  have em : ∀ N' : XN, N'.1 = N.1 → gi (mm N' B (nI 0)) (gp Y (B + 908) 8) 0 = nI (tM d) := fun N' hN' => by rw [mm_sd hM (row_ints hN' hr), gi_sd]; exact hD.T
  have out : f_X7_pass Y B x N = some (.inr IAE, N) → (∀ N' : XN, N'.1 = N.1 → f_X8_pass Y (B + 908) x N' = some (nI 0, mm N' B (nI 1))) → FC2 Y B [IAE] (f_X7_pass Y B x) (f_X8_pass Y (B + 908) x) N := fun a b => ⟨_, N, a, fun N' hN' => ⟨_, _, b N' hN', (after_read hN' hI _).1, (after_read hN' hI _).2, 0, by decide, rfl, gi_mm _ _ _⟩⟩
  have c0 : (nI 0).toInt = 0 := by decide
  have c1 : (nI 1).toInt = 1 := by decide
  have c2 : (nI 200).toInt = 200 := by decide
  have c3 : (nI 201).toInt = 201 := by decide
  rcases ix_or x (n := 201) (by omega) with h | ⟨t, hr', rfl⟩
  · rcases h with h | h
    · have q1 : (x < nI 1) = True := eq_true (by rw [Int32.lt_iff_toInt_lt] at h ⊢; omega)
      refine out ?_ (fun N' hN' => ?_)
      · unfold f_X7_pass
        simp only [nI_lit, q1, if_true]
        rfl
      · unfold f_X8_pass f_X8_in
        simp (disch := omega) only [↓lt_eq, nI_lit, e0, q1, if_true, fails_t (c := 1), bd2_some, nz10, if_false]
    · have q1 : (x < nI 1) = False := eq_false (fun z => by rw [Int32.lt_iff_toInt_lt] at z; rw [Int32.le_iff_toInt_le] at h; omega)
      have q2 : (nI 200 < x) = True := eq_true (by rw [Int32.lt_iff_toInt_lt]; rw [Int32.le_iff_toInt_le] at h; omega)
      refine out ?_ (fun N' hN' => ?_)
      · unfold f_X7_pass
        simp only [nI_lit, q1, q2, if_true, if_false]
        rfl
      · unfold f_X8_pass f_X8_in
        simp (disch := omega) only [↓lt_eq, nI_lit, e0, q1, q2, if_true, if_false, fails_t (c := 1), bd2_some, nz10]
  · by_cases t0 : t = 0
    · subst t0
      refine out ?_ (fun N' hN' => ?_)
      · unfold f_X7_pass
        simp (disch := omega) only [nI_lit, ↓reduceIte, pLEt, pLEf, pLTt, pLTf, pEQf, pML, pMG, pMf, pMg]
        rfl
      · unfold f_X8_pass f_X8_in
        simp (disch := omega) only [↓lt_eq, nI_lit, e0, ↓reduceIte, pLEt, pLEf, pLTt, pLTf, pEQf, pML, pMG, pMf, pMg, fails_t (c := 1), bd2_some, nz10]
    · by_cases tt : tM d + t ≤ 9999
      · obtain ⟨Nk, Q, P1, b1, b2, b3, b4⟩ := keep_all hY hdd hh
        obtain ⟨q1, q2, q3, q4, q5, q6⟩ := ticks_keep (ops := ops) t d hD (by omega)
        have rq := C_requestsIn (N := Nk) (s := nI 2) hW hD b4
        rw [sw_wc] at rq
        obtain ⟨Q2, c4, l1, l2⟩ := C_pass_L (N := Nk) (q := B) h5 hW (t := t) (by omega) (bf := nI (sCount d (nI 2))) t 0 FU d P1 _ hD (by omega) b4 (by omega) (by unfold FU; omega)
        rw [sw_wc] at l1
        refine ⟨.inl (sPass ops t d), sw Nk (B + 7) c4, ?_, fun N' hN' => ?_⟩
        · unfold f_X7_pass
          simp (disch := omega) only [nI_lit, nI_add, ↓reduceIte, pLEt, pLEf, pLTt, pLTf, pEQf, pML, pMG, pMf, pMg, h5, e6, b1, bd_some, rq]
          exact l1
        · obtain ⟨Nr, r1, r2, r3⟩ := rem_all hY hdd hh b2 hN'
          have rc := M_countOf (Y := Y) (m := B + 908) (N := Nr) (s := nI 2) hD
          rw [← row_sd hM r3] at rc
          obtain ⟨Ns, s1, s2⟩ := M_pass_L (m := B + 908) hM (t := t) (by omega) (bf := nI (sCount d (nI 2))) t 0 FU d Nr hD (by omega) (by omega) (by unfold FU; omega)
          rw [← row_sd hM r3] at s2
          obtain ⟨z1, z2, z3⟩ := IV_change hY hdd hh ht b2 b3 l2 q1 (ZZ_code hz q6) (by omega) hN' r2 s1.to2
          have et : gi (mm N' B (nI 0)) (gp Y (B + 908) 8) 0 = nI (tM d) := by
            have k8 : gp Y (B + 908) 8 = B + 910 := hM.g8
            rw [k8]
            show (mm N' B (nI 0)).1 (B + 910) 0 = _
            rw [mm_row, hN', show (sw Nk (B + 7) c4).1 (B + 910) = Nk.1 (B + 910) from funext (fun j => gi_sw_ne j (by omega)), b2.2.1 _ (by omega) (by have := hh.1.2.1; omega), hr]
            exact hD.T
          refine ⟨_, _, ?_, z1, z2, z3, rfl⟩
          unfold f_X8_pass f_X8_in
          simp (disch := omega) only [↓lt_eq, nI_lit, nI_add, e0, ↓reduceIte, pLEt, pLEf, pLTt, pLTf, pEQf, pML, pMG, pMf, pMg, et, fails_f, bd2_some, bd_some, nz10, r1, rc]
          exact s2
      · refine out ?_ (fun N' hN' => ?_)
        · unfold f_X7_pass
          simp (disch := omega) only [nI_lit, nI_add, ↓reduceIte, pLEt, pLEf, pLTt, pLTf, pEQf, pML, pMG, pMf, pMg, h5, e6]
          rfl
        · unfold f_X8_pass f_X8_in
          simp (disch := omega) only [↓lt_eq, nI_lit, nI_add, e0, ↓reduceIte, pLEt, pLEf, pLTt, pLTf, pEQf, pML, pMG, pMf, pMg, em N' hN', fails_t (c := 1), bd2_some, nz10]
end CG
