/-! STRING BUILDERS -/
/-- below q all is as it was -/
def TF (q : Nat) (Y : XY) (N : XN) (Y' : XY) (N' : XN) : Prop := ∀ a, a < q → (kc Y' a = kc Y a ∧ kn Y' a = kn Y a) ∧ (∀ j, gr Y' a j = gr Y a j) ∧ ∀ j, gi N' a j = gi N a j
theorem TF.rfl' {q : Nat} {Y : XY} {N : XN} : TF q Y N Y N := fun _ _ => ⟨⟨rfl, rfl⟩, fun _ => rfl, fun _ => rfl⟩
theorem TF.trans {q q2 : Nat} {Y Y' Y'' : XY} {N N' N'' : XN} (h : TF q Y N Y' N') (h' : TF q2 Y' N' Y'' N'') (hq : q ≤ q2) : TF q Y N Y'' N'' := fun a ha => by
  have x := h a ha
  have y := h' a (by omega)
  exact ⟨⟨y.1.1.trans x.1.1, y.1.2.trans x.1.2⟩, fun j => (y.2.1 j).trans (x.2.1 j), fun j => (y.2.2 j).trans (x.2.2 j)⟩
theorem TF.le {q q2 : Nat} {Y Y' : XY} {N N' : XN} (h : TF q2 Y N Y' N') (hq : q ≤ q2) : TF q Y N Y' N' := fun a ha => h a (by omega)
theorem fits_b : ∀ b, b < 128 → fits .byte (.int (nI b)) = true := by decide +kernel
theorem vpn_b : ∀ b, b < 128 → vp_nar .byte (nI b) = nI b := by decide +kernel
theorem shl0 : ∀ m, m < 300 → nI m <<< (nI 0 &&& nI 31) = nI m := by decide +kernel
theorem isB2 {k : Nat} (h : k = 2) : isB k = true := by rw [h]; rfl
theorem isB41 {k : Nat} (h : k = 41) : isB k = true := by rw [h]; rfl
theorem isS22 {k : Nat} (h : k = 21) : isS k = true := by rw [h]; rfl
theorem gd_ap {bs cs : List Nat} {j : Nat} : gd (bs ++ cs) j = if j < bs.length then gd bs j else gd cs (j - bs.length) := by
  unfold gd
  rw [List.getD_eq_getElem?_getD, List.getD_eq_getElem?_getD, List.getD_eq_getElem?_getD]
  by_cases h : j < bs.length
  · rw [if_pos h, List.getElem?_append_left h]
  · rw [if_neg h, List.getElem?_append_right (by omega)]
section SBS
variable {Y : XY} {q q0 a v B s : Nat} {N : XN} {ws ss : List Nat}
theorem WT.nx2 (h : WT Y) (hm : MK Y q) {m : Nat} : WT (yK Y q 2 m) := by
  refine h.keep (fun a ha => ?_) (fun b hb => ?_)
  · by_cases e : a = q
    · subst e; rw [kcq rfl] at ha; omega
    · by_cases e2 : a = q + 1
      · have : kc (yK Y q 2 m) a = 9 := by rw [e2]; exact hm.nx.1
        omega
      · exact ⟨(yK_ne e e2).1.symm, (yK_ne e e2).2.symm, fun j => yK_gr e j⟩
  · have e1 : b ≠ q := fun e => by rw [e, hm.1] at hb; rcases hb with hb | hb | hb <;> omega
    have e2 : b ≠ q + 1 := fun e => by rw [e, hm.2 _ (Nat.lt_succ_self q)] at hb; rcases hb with hb | hb | hb <;> omega
    exact yK_ne e1 e2
theorem TF.nx {c m : Nat} : TF q Y N (yK Y q c m) (n0 N q) := fun a ha => ⟨yK_ne (by omega) (by omega), fun j => yK_gr (by omega) j, fun j => n0_ne (by omega) j⟩
/-- a builder at a, its bytes at v -/
def SBd (q0 : Nat) (Y : XY) (N : XN) (a : Nat) (ws : List Nat) (v : Nat) : Prop := (kc Y a = 22 ∧ q0 ≤ a ∧ gi N a 1 = nI 0 ∧ gi N a 3 = nI ws.length) ∧ (gr Y a 0 = some v ∧ kc Y v = 2 ∧ q0 ≤ v ∧ ws.length ≤ kn Y v ∧ kn Y v ≤ 100) ∧ (∀ j, j < kn Y v → gi N v j = nI (gd ws j)) ∧ ∀ j, gd ws j < 128
theorem SBd.tf {q2 : Nat} {Y' : XY} {N' : XN} (h : SBd q0 Y N a ws v) (hf : TF q2 Y N Y' N') (ha : a < q2) (hv : v < q2) : SBd q0 Y' N' a ws v := by
  obtain ⟨⟨a1, a2, a3, a4⟩, ⟨b1, b2, b3, b4, b5⟩, c, d⟩ := h
  have x := hf a ha
  have y := hf v hv
  exact ⟨⟨x.1.1.trans a1, a2, (x.2.2 1).trans a3, (x.2.2 3).trans a4⟩, ⟨(x.2.1 0).trans b1, y.1.1.trans b2, b3, by rw [y.1.2]; exact b4, by rw [y.1.2]; exact b5⟩, fun j hj => (y.2.2 j).trans (c j (by rw [← y.1.2]; exact hj)), d⟩
theorem SR.tf {q2 : Nat} {Y' : XY} {N' : XN} (h : SR Y N B s ws) (hm : MK Y q2) (hf : TF q2 Y N Y' N') : SR Y' N' B s ws ∧ gp Y' s 0 = gp Y s 0 ∧ kc Y' (gp Y s 0) = kc Y (gp Y s 0) := by
  obtain ⟨⟨h1, h2⟩, w, ⟨h3, h4, h5, h6⟩, h7, h8, h9, h10⟩ := h
  have k1 := isS_ne h1
  have k2 := isB_ne h4
  have x := hf s (hm.inn (by omega) (by omega))
  have y := hf w (hm.inn (by omega) (by omega))
  refine ⟨⟨⟨by rw [x.1.1]; exact h1, h2⟩, w, ⟨(x.2.1 0).trans h3, by rw [y.1.1]; exact h4, y.1.2.trans h5, h6⟩, (x.2.2 1).trans h7, fun j hj => (y.2.2 j).trans (h8 j hj), h9, h10⟩, gp_gr (x.2.1 0), ?_⟩
  rw [gp_of h3]
  exact y.1.1
theorem B_init (hm : MK Y q) : ∃ Y' N', f_J4_init_da8c8 (yK Y q 22 0) (q + 1) q (n0 N q) = some (Y', q + 1 + 1, N') ∧ MK Y' (q + 2) ∧ TF q Y N Y' N' ∧ (WT Y → WT Y') ∧ SBd q Y' N' q [] (q + 1) := by
  have m1 := hm.nx (c := 22) (m := 0)
  have m2 := m1.nx (c := 2) (m := 16)
  have k1 : kc (yK Y q 22 0) (q + 1) = 9 ∧ kc (yK Y q 22 0) (q + 1 + 1) = 0 := ⟨m1.1, m1.2 _ (Nat.lt_succ_self _)⟩
  have kq : kc (yK Y q 22 0) q = 22 := kcq rfl
  have kq2 : kc (yK (yK Y q 22 0) (q + 1) 2 16) q = 22 := (yK_ne (by omega) (by omega)).1.trans kq
  have c16 : ¬ nI 16 < nI 0 ∧ 16 ≤ 65536 := ⟨by decide, by omega⟩
  refine ⟨sr (yK (yK Y q 22 0) (q + 1) 2 16) q 0 (some (q + 1)), si (n0 (n0 N q) (q + 1)) q 1 (nI 0), ?_, m2, fun a ha => ⟨?_, fun j => ?_, fun j => ?_⟩, fun w => ((w.nx hm (Or.inr (Or.inr (Or.inr (by omega))))).nx2 m1).sr8 (Or.inr (by omega)), ⟨kq2, Nat.le_refl _, gi_si _ _ _ _, ?_⟩, ⟨gr_sr_s, kcq rfl, by omega, Nat.zero_le _, ?_⟩, fun j hj => ?_, fun j => ?_⟩
  · unfold f_J4_init_da8c8 f_J5_init_d00df
    simp (disch := omega) only [↓ck, ↓lt_eq, nI_lit, nI_clamp, ↓reduceIte, pLEt, pLEf, pLTt, pLTf, pEQf, pML, pMG, pMf, pMg, ↓bd_ite, ↓bd2_ite, ↓bd3_ite, ↓bd4_ite, Option.isSome_some, Option.getD_some, eq_true k1, eq_true c16.2, not_false_eq_true, kq2, Nat.zero_add, Nat.le_refl, and_self]
  · have x := yK_ne (Y := Y) (q := q) (c := 22) (m := 0) (b := a) (by omega) (by omega)
    have y := yK_ne (Y := yK Y q 22 0) (q := q + 1) (c := 2) (m := 16) (b := a) (by omega) (by omega)
    exact ⟨y.1.trans x.1, y.2.trans x.2⟩
  · rw [gr_sr_ne (by omega), yK_gr (by omega), yK_gr (by omega)]
  · rw [gi_si_n (Or.inl (by omega)), n0_ne (by omega), n0_ne (by omega)]
  · rw [gi_si_n (Or.inr (by decide)), n0_ne (by omega), n0_q]; rfl
  · show kn (yK (yK Y q 22 0) (q + 1) 2 16) (q + 1) ≤ 100
    rw [knq rfl]; omega
  · rw [gi_si_n (Or.inl (by omega)), n0_q, gd_ge (Nat.zero_le _)]; rfl
  · rw [gd_ge (Nat.zero_le _)]; omega
theorem cap_le : ∀ m, m < 60 → ∀ c, c ≤ 100 → (nI m - nI c ≤ nI 0 ↔ m ≤ c) := by decide +kernel
/-- room for m bytes -/
theorem B_ensure (hm : MK Y q) (h : SBd q0 Y N a ws v) {m : Nat} (hw : m < 50) (hl : ws.length ≤ m) (hq : q0 ≤ q) : ∃ Y' q' N' v', f_J5_ensureCapacityInternal_d00df Y q a (nI m) N = some (Y', q', N') ∧ MK Y' q' ∧ q ≤ q' ∧ (WT Y → WT Y') ∧ (∀ b, b < q → (kc Y' b = kc Y b ∧ kn Y' b = kn Y b) ∧ (b ≠ a → ∀ j, gr Y' b j = gr Y b j) ∧ ∀ j, gi N' b j = gi N b j) ∧ SBd q0 Y' N' a ws v' ∧ m ≤ kn Y' v' ∧ (v' = v ∨ q ≤ v') := by
  have h' := h
  obtain ⟨⟨a1, a2, a3, a4⟩, ⟨b1, b2, b3, b4, b5⟩, c, d⟩ := h'
  have g := gp_of b1
  have kb := isB2 b2
  obtain ⟨n, hn⟩ : ∃ n, n = kn Y v := ⟨_, rfl⟩
  have cl := cap_le m (by omega) n (by omega)
  have sn := shr0 (n := n) (by omega)
  by_cases e : m ≤ n
  · refine ⟨Y, q, N, v, ?_, hm, Nat.le_refl _, fun w => w, fun b hb => ⟨⟨rfl, rfl⟩, fun _ _ => rfl, fun _ => rfl⟩, h, by omega, Or.inl rfl⟩
    unfold f_J5_ensureCapacityInternal_d00df
    simp (disch := omega) only [↓ck, ↓lt_eq, nI_lit, ofN, ↓reduceIte, pLEt, pLEf, pLTt, pLTf, pEQf, pML, pMG, pMf, pMg, ↓bd_ite, ↓bd2_ite, ↓bd3_ite, ↓bd4_ite, Option.isSome_some, Option.getD_some, a1, b1, g, kb, a3, ← hn, sn, eq_true (cl.mpr e)]
  · have av := hm.inn (a := a) (by omega) (by omega)
    have vv := hm.inn (a := v) (by omega) (by omega)
    have nav : a ≠ v := fun z => by rw [z, b2] at a1; omega
    have kq : kc Y q = 9 ∧ kc Y (q + 1) = 0 := ⟨hm.1, hm.2 _ (Nat.lt_succ_self _)⟩
    obtain ⟨r, hr⟩ : ∃ r, r = if m < 2 * n + 2 then 2 * n + 2 else m := ⟨_, rfl⟩
    have hr2 : m ≤ r ∧ n < r ∧ r ≤ 100 := by rw [hr]; split <;> omega
    have en : nI m - nI n = nI (m - n) := nI_sub (by omega)
    have nl : f_J8_newLength_cabcc Y (nI n) (nI (m - n)) (nI (n + 2)) N = some (nI r, N) := by
      unfold f_J8_newLength_cabcc f_J9_max_7cf53
      have em : (if nI (m - n) < nI (n + 2) then nI (n + 2) else nI (m - n)) = nI (r - n) := by
        by_cases z : m - n < n + 2
        · rw [if_pos (nI_lt z (by omega)), hr, if_pos (by omega)]; congr 1; omega
        · rw [if_neg (nI_nlt (by omega) (by omega)), hr, if_neg (by omega)]
      have es : nI n + nI (r - n) = nI r := by rw [nI_add]; congr 1; omega
      simp (disch := omega) only [nI_lit, ↓reduceIte, pLEt, pLEf, pLTt, pLTf, pEQf, pML, pMG, pMf, pMg, ↓bd_ite, ↓bd2_ite, ↓bd3_ite, ↓bd4_ite, Option.isSome_some, Option.getD_some, em, es]
    have nm : (nI r = nI 2147483647) = False := eq_false (fun z => by have := (nI_eq (by omega) (by omega)).mp z; omega)
    have sr' := shr0 (n := r) (by omega)
    have sl := shl0 r (by omega)
    have slm := shl0 m (by omega)
    have sl2 := shl0 2 (by omega)
    have cr : ¬ nI r < nI 0 ∧ r ≤ 65536 := ⟨nI_nlt (Nat.zero_le _) (by omega), by omega⟩
    have ner : (nI r = nI n) = False := eq_false (fun z => by have := (nI_eq (by omega) (by omega)).mp z; omega)
    have cb : 1 ≤ 1 ∧ 0 + r ≤ 400 := ⟨by omega, by omega⟩
    have kb1 : isB (kc (yK Y q 2 r) v) = true := isB2 ((yK_ne (by omega) (by omega)).1.trans b2)
    have kn1 : kn (yK Y q 2 r) v = n := (yK_ne (by omega) (by omega)).2.trans hn.symm
    have knr : kn (yK Y q 2 r) q = r := knq rfl
    have ka1 : kc (yK Y q 2 r) a = 22 := (yK_ne (by omega) (by omega)).1.trans a1
    have xf : xfb (n0 N q) v 0 n := fun i hi => by
      show fits .byte (.int (gi (n0 N q) v (0 + i))) = true
      rw [n0_ne (by omega), Nat.zero_add, c i (by omega)]
      exact fits_b _ (d i)
    have mn1 : f_J9_min_7cf53 (yK Y q 2 r) (nI n) (nI r) (n0 N q) = some (nI n, n0 N q) := by
      unfold f_J9_min_7cf53
      rw [if_neg (nI_nlt (by omega) (by omega))]
    have c0 : ¬ nI n < nI 0 := nI_nlt (Nat.zero_le _) (by omega)
    have e2 : nI n + nI 2 = nI (n + 2) := nI_add _ _
    have gs : ∀ b j, b ≠ q → gi (sb8 (n0 N q) v q 0 0 n) b j = gi N b j := fun b j hb => by
      show (if b = q then _ else (n0 N q).1 b j) = _
      rw [if_neg hb]
      exact n0_ne hb j
    refine ⟨sr (yK Y q 2 r) a 0 (some q), q + 1, sb8 (n0 N q) v q 0 0 n, q, ?_, hm.nx, by omega, fun w => (w.nx2 hm).sr8 (Or.inr (by omega)), fun b hb => ⟨yK_ne (by omega) (by omega), fun hba j => ?_, fun j => gs b j (by omega)⟩, ⟨⟨ka1, a2, (gs _ _ (by omega)).trans a3, (gs _ _ (by omega)).trans a4⟩, ⟨gr_sr_s, kcq rfl, hq, ?_, ?_⟩, fun j hj => ?_, d⟩, ?_, Or.inr (Nat.le_refl _)⟩
    · unfold f_J5_ensureCapacityInternal_d00df f_J5_newCapacity_0f7a4 f_J7_copyOf_9075b
      simp (disch := omega) only [↓ck, ↓lt_eq, nI_lit, nI_clamp, ofN, ↓reduceIte, pLEt, pLEf, pLTt, pLTf, pEQf, pML, pMG, pMf, pMg, ↓bd_ite, ↓bd2_ite, ↓bd3_ite, ↓bd4_ite, Option.isSome_some, Option.getD_some, a1, b1, g, kb, a3, ← hn, sn, eq_false (fun z => e (cl.mp z)), slm, en, sl2, e2, nl, nm, sr', sl, ner, eq_true cr.2, eq_true kq, eq_true (show r ≤ 400 by omega), eq_true (show n ≤ r by omega), true_and, kb1, kn1, mn1, not_false_eq_true, and_self, Nat.zero_add, Nat.le_refl, knr, ckF_t xf, ka1]
    · exact (gr_sr_ne hba j).trans (yK_gr (by omega) j)
    · show ws.length ≤ kn (yK Y q 2 r) q
      rw [knr]; omega
    · show kn (yK Y q 2 r) q ≤ 100
      rw [knr]; omega
    · show (if q = q then va_cpy ((n0 N q).1 v) ((n0 N q).1 q) 0 0 n j else _) = _
      rw [if_pos rfl]
      unfold va_cpy
      by_cases z : 0 ≤ j ∧ j < 0 + n
      · rw [if_pos z, Nat.zero_add, Nat.sub_zero]
        show gi (n0 N q) v j = _
        rw [n0_ne (by omega), c j (by omega)]
      · rw [if_neg z]
        show gi (n0 N q) q j = _
        rw [n0_q, gd_ge (by omega)]; rfl
    · show m ≤ kn (yK Y q 2 r) q
      rw [knr]; omega
/-- a string more -/
theorem B_append (hm : MK Y q) (h : SBd q0 Y N a ws v) (hs : SR Y N B s ss) (hsv : gp Y s 0 ≠ v) (hl : ws.length + ss.length < 50) (hq : q0 ≤ q) : ∃ Y' q' N' v', f_J4_append_15ec4 Y q a s N = some (a, Y', q', N') ∧ MK Y' q' ∧ q ≤ q' ∧ (WT Y → WT Y') ∧ TF q0 Y N Y' N' ∧ SBd q0 Y' N' a (ws ++ ss) v' ∧ (v' = v ∨ q ≤ v') := by
  obtain ⟨Y', q', N1, v', e1, e2, e3, e4, e5, e6, e7, e8⟩ := B_ensure hm h (m := ws.length + ss.length) hl (by omega) hq
  have av := hm.inn (a := a) (by rw [h.1.1]; omega) (by rw [h.1.1]; omega)
  have vv := hm.inn (a := v) (by rw [h.2.1.2.1]; omega) (by rw [h.2.1.2.1]; omega)
  have a10 := h.1.1
  have a40 := h.1.2.2.2
  have len := S_length hs
  have hs0 := hs
  obtain ⟨⟨h1, h2⟩, w, ⟨h3, h4, h5, h6⟩, h7, h8, h9, h10⟩ := hs0
  have k1 := isS_ne h1
  have k2 := isB_ne h4
  have x := e5 s (hm.inn (by omega) (by omega))
  have wq := hm.inn (a := w) (by omega) (by omega)
  have y := e5 w wq
  have nsa : s ≠ a := fun z => by rw [z, a10] at k1; omega
  obtain ⟨⟨a1, a2, a3, a4⟩, ⟨b1, b2, b3, b4, b5⟩, c, d⟩ := e6
  have gw := gp_of h3
  rw [gw] at hsv
  have nwv : w ≠ v' := by omega
  have nav : a ≠ v' := fun z => by rw [z, b2] at a1; omega
  have g := gp_of b1
  have is1 : isS (kc Y' s) = true := by rw [x.1.1]; exact h1
  have ib1 : isB (kc Y' w) = true := by rw [y.1.1]; exact h4
  have kn1 : kn Y' w = ss.length := y.1.2.trans h5
  have gr1 : gr Y' s 0 = some w := (x.2.1 nsa 0).trans h3
  have gw1 := gp_of gr1
  have c1 : gi N1 s 1 = nI 0 := (x.2.2 1).trans h7
  have sl := shl0 ws.length (by omega)
  have xf : xfb N1 w 0 ss.length := fun i hi => by
    show fits .byte (.int (gi N1 w (0 + i))) = true
    rw [y.2.2, Nat.zero_add, h8 i hi]
    exact fits_b _ (h9 i)
  have cz : ¬ nI ws.length < nI 0 := nI_nlt (Nat.zero_le _) (by omega)
  have cz2 : ¬ nI ss.length < nI 0 := nI_nlt (Nat.zero_le _) (by omega)
  have a3' : gi (sb8 N1 w v' 0 ws.length ss.length) a 3 = nI ws.length := by
    show (if a = v' then _ else N1.1 a 3) = _
    rw [if_neg nav]
    exact a4
  have ea : nI ws.length + nI ss.length = nI (ws.length + ss.length) := nI_add _ _
  have tf : TF q0 Y N Y' (si (sb8 N1 w v' 0 ws.length ss.length) a 3 (nI (ws.length + ss.length))) := fun b hb => by
    have z := e5 b (by omega)
    refine ⟨z.1, z.2.1 (by omega), fun j => ?_⟩
    rw [gi_si_n (Or.inl (by omega))]
    show (if b = v' then _ else N1.1 b j) = _
    rw [if_neg (by omega)]
    exact z.2.2 j
  refine ⟨Y', q', si (sb8 N1 w v' 0 ws.length ss.length) a 3 (nI (ws.length + ss.length)), v', ?_, e2, e3, e4, tf, ⟨⟨a1, a2, ?_, ?_⟩, ⟨b1, b2, b3, ?_, b5⟩, fun j hj => ?_, fun j => ?_⟩, e8⟩
  · unfold f_J4_append_15ec4 f_J5_append_cf1ce f_J5_putStringAt_47b60 f_J5_inflateIfNeededFor_a7421 f_J0_getBytes_840e7 f_J0_coder_7d493
    simp (disch := omega) only [↓ck, ↓lt_eq, nI_lit, nI_clamp, ofN, ↓reduceIte, pLEt, pLEf, pLTt, pLTf, pEQf, pML, pMG, pMf, pMg, ↓bd_ite, ↓bd2_ite, ↓bd3_ite, ↓bd4_ite, Option.isSome_some, Option.getD_some, a10, h1, len, a40, ea, e1, a1, is1, c1, xby0, a3, b1, g, b2, gr1, gw1, ib1, kn1, a4, sl, not_false_eq_true, and_self, Nat.zero_add, Nat.le_refl, ckF_t xf, a3', eq_true e7]
  · rw [gi_si_n (Or.inr (by decide))]
    show (if a = v' then _ else N1.1 a 1) = _
    rw [if_neg nav]
    exact a3
  · rw [gi_si, List.length_append]
  · rw [List.length_append]; exact e7
  · rw [gi_si_n (Or.inl (fun z => nav z.symm)), gd_ap]
    show (if v' = v' then va_cpy (N1.1 w) (N1.1 v') 0 ws.length ss.length j else _) = _
    rw [if_pos rfl]
    unfold va_cpy
    by_cases z : ws.length ≤ j ∧ j < ws.length + ss.length
    · rw [if_pos z, if_neg (by omega), Nat.zero_add]
      show gi N1 w (j - ws.length) = _
      rw [y.2.2, h8 _ (by omega)]
    · rw [if_neg z]
      show gi N1 v' j = _
      rw [c j hj]
      by_cases z2 : j < ws.length
      · rw [if_pos z2]
      · rw [if_neg z2, gd_ge (by omega), gd_ge (by omega)]
  · rw [gd_ap]
    split
    · exact d j
    · exact h9 _
/-- what was built -/
theorem B_string (hm : MK Y q) (h : SBd q0 Y N a ws v) (hl : ws.length < 50) (hB : B + 908 ≤ q) : ∃ Y' N', f_J4_toString_0e30d Y q a N = some (q, Y', q + 1 + 1, N') ∧ MK Y' (q + 2) ∧ (WT Y → WT Y') ∧ TF q Y N Y' N' ∧ SR Y' N' B q ws ∧ gp Y' q 0 = q + 1 := by
  obtain ⟨⟨a1, a2, a3, a4⟩, ⟨b1, b2, b3, b4, b5⟩, c, d⟩ := h
  have av := hm.inn (a := a) (by omega) (by omega)
  have vv := hm.inn (a := v) (by omega) (by omega)
  have kq : kc Y q = 9 ∧ kc Y (q + 1) = 0 := ⟨hm.1, hm.2 _ (Nat.lt_succ_self _)⟩
  have m1 := hm.nx (c := 21) (m := 0)
  have k1 : kc (yK Y q 21 0) (q + 1) = 9 ∧ kc (yK Y q 21 0) (q + 1 + 1) = 0 := ⟨m1.1, m1.2 _ (Nat.lt_succ_self _)⟩
  have ka : kc (yK Y q 21 0) a = 22 := (yK_ne (by omega) (by omega)).1.trans a1
  have kv : kc (yK Y q 21 0) v = 2 := (yK_ne (by omega) (by omega)).1.trans b2
  obtain ⟨n, hn⟩ : ∃ n, n = kn Y v := ⟨_, rfl⟩
  have nv : kn (yK Y q 21 0) v = n := (yK_ne (by omega) (by omega)).2.trans hn.symm
  have gr1 : gr (yK Y q 21 0) a 0 = some v := (yK_gr (by omega) 0).trans b1
  have g1 := gp_of gr1
  have kq1 : kc (yK Y q 21 0) q = 21 := kcq rfl
  have gb : ∀ b j, b ≠ q → gi (si (n0 N q) q 1 (nI 0)) b j = gi N b j := fun b j hb => (gi_si_n (Or.inl hb)).trans (n0_ne hb j)
  have g3 : gi (n0 N q) a 3 = nI ws.length := (n0_ne (by omega) 3).trans a4
  have g11 : gi (n0 N q) a 1 = nI 0 := (n0_ne (by omega) 1).trans a3
  have n10 : (nI 1 = nI 0) = False := eq_false (by decide)
  have xf : ∀ k, k ≤ n → xfb (si (n0 N q) q 1 (nI 0)) v 0 k := fun k hk i hi => by
    show fits .byte (.int (gi (si (n0 N q) q 1 (nI 0)) v (0 + i))) = true
    rw [gb _ _ (by omega), Nat.zero_add, c i (by omega)]
    exact fits_b _ (d i)
  have fin : ∀ (m : Nat) (M : XN), m = ws.length → (∀ b j, b ≠ q + 1 → gi M b j = gi (si (n0 N q) q 1 (nI 0)) b j) → (∀ j, j < m → gi M (q + 1) j = nI (gd ws j)) → MK (sr (yK (yK Y q 21 0) (q + 1) 2 m) q 0 (some (q + 1))) (q + 2) ∧ (WT Y → WT (sr (yK (yK Y q 21 0) (q + 1) 2 m) q 0 (some (q + 1)))) ∧ TF q Y N (sr (yK (yK Y q 21 0) (q + 1) 2 m) q 0 (some (q + 1))) M ∧ SR (sr (yK (yK Y q 21 0) (q + 1) 2 m) q 0 (some (q + 1))) M B q ws ∧ gp (sr (yK (yK Y q 21 0) (q + 1) 2 m) q 0 (some (q + 1))) q 0 = q + 1 := fun m M hmw hM hMv => by
    have kq2 : kc (yK (yK Y q 21 0) (q + 1) 2 m) q = 21 := (yK_ne (by omega) (by omega)).1.trans kq1
    refine ⟨m1.nx, fun w => ((w.nx hm (Or.inr (Or.inr (Or.inr (by omega))))).nx2 m1).sr8 (Or.inr (by omega)), fun b hb => ⟨?_, fun j => ?_, fun j => ?_⟩, ⟨⟨isS22 kq2, Or.inr hB⟩, q + 1, ⟨gr_sr_s, isB2 (kcq rfl), (knq rfl).trans hmw, Or.inr (by omega)⟩, ?_, fun j hj => hMv j (by omega), d, by omega⟩, gp_of gr_sr_s⟩
    · have x := yK_ne (Y := Y) (q := q) (c := 21) (m := 0) (b := b) (by omega) (by omega)
      have y := yK_ne (Y := yK Y q 21 0) (q := q + 1) (c := 2) (m := m) (b := b) (by omega) (by omega)
      exact ⟨y.1.trans x.1, y.2.trans x.2⟩
    · rw [gr_sr_ne (by omega), yK_gr (by omega), yK_gr (by omega)]
    · rw [hM _ _ (by omega), gb _ _ (by omega)]
    · rw [hM _ _ (by omega), gi_si]
  have kq22 : ∀ m, kc (yK (yK Y q 21 0) (q + 1) 2 m) q = 21 := fun m => (yK_ne (by omega) (by omega)).1.trans kq1
  have kb := isB2 kv
  by_cases e : ws.length = n
  · have cb : 1 ≤ 1 ∧ 0 + n ≤ 400 := ⟨by omega, by omega⟩
    have en : (nI ws.length = nI n) = True := eq_true (by rw [e])
    refine ⟨_, nC (si (n0 N q) q 1 (nI 0)) (q + 1) v, ?_, fin n _ e.symm (fun b j hb => nC_ne hb j) (fun j hj => ?_)⟩
    · unfold f_J4_toString_0e30d f_J0_init_81219 f_J0_init_db425 f_J5_getValue_6d5f1 f_J4_length_8abf5 f_J5_length_8abf5 f_J5_isLatin1_aae02 f_J7_copyOfRange_39247
      simp (disch := omega) only [↓ck, ↓lt_eq, nI_lit, ofN, ↓reduceIte, pLEt, pLEf, pLTt, pLTf, pEQf, pML, pMG, pMf, pMg, ↓bd_ite, ↓bd2_ite, ↓bd3_ite, ↓bd4_ite, Option.isSome_some, Option.getD_some, eq_true kq, ka, gr1, g1, g3, g11, n10, kq1, kb, nv, en, kv, ckF_t (xf n (Nat.le_refl _)), eq_true k1, show isB 2 = true from rfl, Nat.zero_add, Nat.le_refl, true_and, and_self, eq_true (show n ≤ 400 by omega), kq22]
    · rw [nC_q, gb _ _ (by omega), c j (by omega)]
  · have cb : 1 ≤ 1 ∧ 0 + ws.length ≤ 400 := ⟨by omega, by omega⟩
    have en : (nI ws.length = nI n) = False := eq_false (fun z => e ((nI_eq (by omega) (by omega)).mp z))
    have s0 : nI ws.length - nI 0 = nI ws.length := (nI_sub (Nat.zero_le _)).trans (by rw [Nat.sub_zero])
    have s1 : nI n - nI 0 = nI n := (nI_sub (Nat.zero_le _)).trans (by rw [Nat.sub_zero])
    have cw : ¬ nI ws.length < nI 0 ∧ ws.length ≤ 65536 := ⟨nI_nlt (Nat.zero_le _) (by omega), by omega⟩
    have kv2 : isB (kc (yK (yK Y q 21 0) (q + 1) 2 ws.length) v) = true := isB2 ((yK_ne (by omega) (by omega)).1.trans kv)
    have nv2 : kn (yK (yK Y q 21 0) (q + 1) 2 ws.length) v = n := (yK_ne (by omega) (by omega)).2.trans nv
    have nq2 : kn (yK (yK Y q 21 0) (q + 1) 2 ws.length) (q + 1) = ws.length := knq rfl
    have mn1 : f_J9_min_7cf53 (yK (yK Y q 21 0) (q + 1) 2 ws.length) (nI n) (nI ws.length) (n0 (si (n0 N q) q 1 (nI 0)) (q + 1)) = some (nI ws.length, n0 (si (n0 N q) q 1 (nI 0)) (q + 1)) := by
      unfold f_J9_min_7cf53
      rw [if_pos (nI_lt (by omega) (by omega))]
    have z00 : ¬ nI 0 < nI 0 := by decide
    have xf2 : xfb (n0 (si (n0 N q) q 1 (nI 0)) (q + 1)) v 0 ws.length := fun i hi => by
      show fits .byte (.int (gi (n0 (si (n0 N q) q 1 (nI 0)) (q + 1)) v (0 + i))) = true
      rw [n0_ne (by omega)]
      exact xf ws.length (by omega) i hi
    refine ⟨_, sb8 (n0 (si (n0 N q) q 1 (nI 0)) (q + 1)) v (q + 1) 0 0 ws.length, ?_, fin ws.length _ rfl (fun b j hb => ?_) (fun j hj => ?_)⟩
    · unfold f_J4_toString_0e30d f_J0_init_81219 f_J0_init_db425 f_J5_getValue_6d5f1 f_J4_length_8abf5 f_J5_length_8abf5 f_J5_isLatin1_aae02 f_J7_copyOfRange_39247 f_J7_copyOfRangeByte_39247 f_J7_checkLength_df160
      simp (disch := omega) only [↓ck, ↓lt_eq, nI_lit, nI_clamp, ofN, ↓reduceIte, pLEt, pLEf, pLTt, pLTf, pEQf, pML, pMG, pMf, pMg, ↓bd_ite, ↓bd2_ite, ↓bd3_ite, ↓bd4_ite, Option.isSome_some, Option.getD_some, eq_true kq, ka, gr1, g1, g3, g11, n10, kq1, kb, nv, en, s0, s1, eq_true cw.2, eq_true k1, eq_true (show ws.length ≤ 400 by omega), eq_true (show ws.length ≤ n by omega), true_and, kv2, nv2, mn1, not_false_eq_true, and_self, Nat.zero_add, Nat.le_refl, nq2, ckF_t xf2, kq22]
    · show (if b = q + 1 then _ else (n0 (si (n0 N q) q 1 (nI 0)) (q + 1)).1 b j) = _
      rw [if_neg hb]
      exact n0_ne hb j
    · show (if q + 1 = q + 1 then va_cpy ((n0 (si (n0 N q) q 1 (nI 0)) (q + 1)).1 v) ((n0 (si (n0 N q) q 1 (nI 0)) (q + 1)).1 (q + 1)) 0 0 ws.length j else _) = _
      rw [if_pos rfl]
      unfold va_cpy
      rw [if_pos (by omega), Nat.zero_add, Nat.sub_zero]
      show gi (n0 (si (n0 N q) q 1 (nI 0)) (q + 1)) v j = _
      rw [n0_ne (by omega), gb _ _ (by omega), c j (by omega)]
end SBS
