/-! THE FACE: append -/
theorem tI_or (x : Int32) : (x.toInt = (x.toBitVec.toNat : Int) ∧ x.toBitVec.toNat < 2 ^ 31) ∨ (x.toInt = (x.toBitVec.toNat : Int) - 2 ^ 32 ∧ 2 ^ 31 ≤ x.toBitVec.toNat ∧ x.toBitVec.toNat < 2 ^ 32) := by
  have h1 : x.toInt = if 2 * x.toBitVec.toNat < 2 ^ 32 then (x.toBitVec.toNat : Int) else (x.toBitVec.toNat : Int) - (2 ^ 32 : Nat) := BitVec.toInt_eq_toNat_cond x.toBitVec
  have h2 := x.toBitVec.isLt
  split at h1
  · exact Or.inl ⟨h1, by omega⟩
  · exact Or.inr ⟨by rw [h1]; rfl, by omega, h2⟩
def bC (x s : Int32) : Int32 := (x.toUInt32 >>> (s.toUInt32 &&& Int32.toUInt32 31)).toInt32.toInt8.toInt32
def bM (x s : Int32) : Int32 := (x >>> (s &&& nI 31)) &&& nI 255
theorem byR_sh (x : Int32) {k : Nat} (hk : k = 0 ∨ k = 8 ∨ k = 16 ∨ k = 24) : byR (bC x (nI k)) (bM x (nI k)) := by
  have hs1 : (((nI k).toUInt32 &&& Int32.toUInt32 31).toBitVec % 32).toNat = k := by rcases hk with rfl | rfl | rfl | rfl <;> decide
  have hs2 : ((nI k &&& nI 31).toBitVec.smod 32).toNat = k := by rcases hk with rfl | rfl | rfl | rfl <;> decide
  have hU := pk_ushr x (nI k) k hs1
  have hX := pk_shr x (nI k &&& nI 31) k hs2
  have hV := pk_and (x >>> (nI k &&& nI 31)) (m := nI 255) 8 (by decide)
  have hu := lg_i2b_toInt ((x.toUInt32 >>> ((nI k).toUInt32 &&& Int32.toUInt32 31)).toInt32)
  have tx := tI_or x
  have tX := tI_or (x >>> (nI k &&& nI 31))
  have tU := tI_or ((x.toUInt32 >>> ((nI k).toUInt32 &&& Int32.toUInt32 31)).toInt32)
  refine ⟨(x >>> (nI k &&& nI 31)).toBitVec.toNat % 256, Nat.mod_lt _ (by decide), hV, ?_⟩
  unfold bC
  generalize (x.toUInt32 >>> ((nI k).toUInt32 &&& Int32.toUInt32 31)).toInt32 = U at hU hu tU ⊢
  generalize x >>> (nI k &&& nI 31) = X at hX tX ⊢
  rw [hU] at tU
  generalize x.toBitVec.toNat = W at tx hU tU
  generalize hxn : X.toBitVec.toNat = Xn at tX ⊢
  rw [Int.shiftRight_eq_div_pow] at hX
  have e8 : ((2 ^ 8 : Nat) : Int) = 256 := by decide
  have hu2 : U.toInt8.toInt32.toInt = if U.toInt % 256 < 128 then U.toInt % 256 else U.toInt % 256 - 256 := by
    rw [hu, Int.bmod_def]
    rfl
  have hb : Xn % 256 = (W / 2 ^ k) % 256 := by
    rcases hk with rfl | rfl | rfl | rfl
    · simp only [Nat.pow_zero, Nat.div_one, Int.natCast_one, Int.ediv_one] at hX ⊢
      omega
    · have e : ((2 ^ 8 : Nat) : Int) = 256 := by decide
      rw [e] at hX
      omega
    · have e : ((2 ^ 16 : Nat) : Int) = 65536 := by decide
      rw [e] at hX
      omega
    · have e : ((2 ^ 24 : Nat) : Int) = 16777216 := by decide
      rw [e] at hX
      omega
  have hu3 : U.toInt % 256 = ((Xn % 256 : Nat) : Int) := by
    rw [hb]
    generalize W / 2 ^ k = V at tU
    omega
  rw [hu3] at hu2
  have hb3 : Xn % 256 < 256 := Nat.mod_lt _ (by decide)
  generalize Xn % 256 = b at hu2 hb3 ⊢
  refine Int32.toInt_inj.mp ?_
  by_cases q : b < 128
  · rw [if_pos q, hu2, if_pos (by omega), nI_toInt (by omega)]
  · rw [if_neg q, hu2, if_neg (by omega), pk_sub_toInt (by omega) (by omega)]
    rfl
/-- bytes laid into row A from place n on, their number into slot s of L -/
def apF (A L s : Nat) (f : Nat → Int32) (n : Nat) : Nat → Nat → XN → XN
  | 0, _, N => N
  | z + 1, k, N => apF A L s f n z (k + 1) (si (si N A (n + k) (f k)) L s (nI (n + (k + 1))))
theorem apF_add (A L s : Nat) (f : Nat → Int32) (n : Nat) : ∀ (a b k : Nat) (N : XN), apF A L s f n (a + b) k N = apF A L s f n b (k + a) (apF A L s f n a k N) := by
  intro a
  induction a with
  | zero => intro b k N; rw [Nat.zero_add]; rfl
  | succ a ih =>
    intro b k N
    rw [show a + 1 + b = (a + b) + 1 by omega]
    show apF A L s f n (a + b) (k + 1) _ = apF A L s f n b (k + (a + 1)) (apF A L s f n a (k + 1) _)
    rw [ih, show k + 1 + a = k + (a + 1) by omega]
theorem apF_at {A L s : Nat} (hAL : A ≠ L) (f : Nat → Int32) (n : Nat) : ∀ (z k : Nat) (N : XN), (apF A L s f n z k N).2 = N.2 ∧ (∀ a, a ≠ A → a ≠ L → (apF A L s f n z k N).1 a = N.1 a) ∧ (∀ j, gi (apF A L s f n z k N) A j = if n + k ≤ j ∧ j < n + k + z then f (j - n) else gi N A j) ∧ (∀ j, j ≠ s → gi (apF A L s f n z k N) L j = gi N L j) ∧ (gi N L s = nI (n + k) → gi (apF A L s f n z k N) L s = nI (n + k + z)) := by
  intro z
  induction z with
  | zero => intro k N; exact ⟨rfl, fun _ _ _ => rfl, fun j => by rw [if_neg (by omega)]; rfl, fun _ _ => rfl, fun h => h⟩
  | succ z ih =>
    intro k N
    obtain ⟨a1, a2, a3, a4, a5⟩ := ih (k + 1) (si (si N A (n + k) (f k)) L s (nI (n + (k + 1))))
    refine ⟨a1, fun a q1 q2 => ?_, fun j => ?_, fun j q => ?_, fun _ => ?_⟩
    · show (apF A L s f n z (k + 1) _).1 a = _
      rw [a2 a q1 q2, si_row q2, si_row q1]
    · show gi (apF A L s f n z (k + 1) _) A j = _
      rw [a3 j]
      by_cases q : n + (k + 1) ≤ j ∧ j < n + (k + 1) + z
      · rw [if_pos q, if_pos (by omega)]
      · rw [if_neg q, gi_si_n (Or.inl hAL)]
        by_cases q2 : j = n + k
        · rw [q2, gi_si, if_pos (by omega), show n + k - n = k by omega]
        · rw [gi_si_n (Or.inr q2), if_neg (by omega)]
    · show gi (apF A L s f n z (k + 1) _) L j = _
      rw [a4 j q, gi_si_n (Or.inr q), gi_si_n (Or.inl (fun z => hAL z.symm))]
    · show gi (apF A L s f n z (k + 1) _) L s = _
      rw [a5 (by rw [gi_si]), show n + (k + 1) + z = n + k + (z + 1) by omega]
def wdF (v1 v2 v3 v4 v5 : Int32) (k : Nat) : Int32 := if k < 4 then v1 else if k < 8 then v2 else if k < 12 then v3 else if k < 16 then v4 else v5
section AP
variable {Y : XY} {B : Nat} {N : XN}
theorem i32_addneg {a b : Nat} (h : b ≤ a) : nI a + -nI b = nI (a - b) := by rw [← Int32.sub_eq_add_neg]; exact pk_sub h
theorem K_put (h0 : gp Y B 0 = B + 1) {n q : Nat} {v : Int32} {f : Nat → Int32} (hf : ∀ j, j < 4 → f (4 * q + j) = bC v (nI (24 - 8 * j))) (hn : n + 4 * q + 4 ≤ 700) : ∀ (z j D9 : Nat) (N : XN), j + z = 4 → z < D9 → gi N B 1 = nI (n + (4 * q + j)) → f_X7_putBytes_3 Y D9 B v (if z = 0 then -nI 8 else nI (8 * (z - 1))) N = some (apF (B + 1) B 1 f n z (4 * q + j) N) := by
  intro z
  induction z with
  | zero =>
    intro j D9 N hi hD9 hN
    obtain ⟨D8, rfl⟩ : ∃ z, D9 = z + 1 := ⟨D9 - 1, by omega⟩
    have m8 : (-nI 8 < nI 0) = True := eq_true (by decide)
    rw [f_X7_putBytes_3, if_pos rfl]
    simp only [nI_lit, m8, if_true]
    rfl
  | succ z ih =>
    intro j D9 N hi hD9 hN
    obtain ⟨D8, rfl⟩ : ∃ z, D9 = z + 1 := ⟨D9 - 1, by omega⟩
    have IH := ih (j + 1) D8 (si (si N (B + 1) (n + (4 * q + j)) (f (4 * q + j))) B 1 (nI (n + (4 * q + j + 1)))) (by omega) (by omega) (by rw [gi_si]; congr 1)
    have es : nI (8 * z) + -nI 8 = if z = 0 then -nI 8 else nI (8 * (z - 1)) := by
      by_cases z0 : z = 0
      · subst z0; rw [if_pos rfl]; decide
      · rw [if_neg z0, i32_addneg (by omega)]; congr 1; omega
    have hb : vp_nar .byte (((v.toUInt32 >>> ((nI (8 * z)).toUInt32 &&& Int32.toUInt32 (nI 31))).toInt32).toInt8.toInt32) = f (4 * q + j) := by
      rw [pk_vb, hf j (by omega), show 24 - 8 * j = 8 * z by omega]
      rfl
    have g1 : gi (si N (B + 1) (n + (4 * q + j)) (f (4 * q + j))) B 1 = nI (n + (4 * q + j)) := by rw [gi_si_n (Or.inl (by omega))]; exact hN
    rw [show n + (4 * q + j + 1) = n + (4 * q + j) + 1 by omega] at IH
    rw [if_neg (c := z + 1 = 0) (by omega), show z + 1 - 1 = z by omega, f_X7_putBytes_3]
    simp (disch := omega) only [↓lt_eq, nI_lit, ↓reduceIte, pLEt, pLEf, pLTt, pLTf, pEQf, pML, pMG, pMf, pMg, hN, xb_nI, nI_clamp, if_true, h0, hb, g1, nI_add, es]
    rw [IH, show n + (4 * q + j) + 1 = n + (4 * q + j + 1) by omega]
    rfl
theorem K_append (h0 : gp Y B 0 = B + 1) {n : Nat} {v1 v2 v3 v4 v5 : Int32} (h1 : gi N B 1 = nI n) (hn : n + 20 ≤ 700) : f_X7_append Y B v1 v2 v3 v4 v5 N = some (nI (n + 20), apF (B + 1) B 1 (fun k => bC (wdF v1 v2 v3 v4 v5 k) (nI (24 - 8 * (k % 4)))) n 20 0 N) := by
  obtain ⟨f, hf⟩ : ∃ f, (fun k => bC (wdF v1 v2 v3 v4 v5 k) (nI (24 - 8 * (k % 4)))) = f := ⟨_, rfl⟩
  have hf' : ∀ k, f k = bC (wdF v1 v2 v3 v4 v5 k) (nI (24 - 8 * (k % 4))) := fun k => by rw [← hf]
  have put : ∀ (q : Nat) (v : Int32) (M : XN), q < 5 → (∀ j, j < 4 → wdF v1 v2 v3 v4 v5 (4 * q + j) = v) → gi M B 1 = nI (n + 4 * q) → f_X7_putBytes Y B v M = some (apF (B + 1) B 1 f n 4 (4 * q) M) ∧ gi (apF (B + 1) B 1 f n 4 (4 * q) M) B 1 = nI (n + 4 * (q + 1)) := by
    intro q v M hq hv hM
    have a := K_put (Y := Y) (B := B) h0 (n := n) (q := q) (v := v) (f := f) (fun j hj => by rw [hf', hv j hj, show (4 * q + j) % 4 = j by omega]) (by omega) 4 0 FU M (by omega) (by unfold FU; omega) (by rw [hM, Nat.add_zero])
    rw [Nat.add_zero] at a
    refine ⟨a, ?_⟩
    rw [(apF_at (s := 1) (show B + 1 ≠ B by omega) f n 4 (4 * q) M).2.2.2.2 hM]
    congr 1
  rw [hf]
  obtain ⟨p1, g1⟩ := put 0 v1 N (by omega) (fun j hj => by unfold wdF; rw [if_pos (by omega)]) h1
  obtain ⟨p2, g2⟩ := put 1 v2 _ (by omega) (fun j hj => by unfold wdF; rw [if_neg (by omega), if_pos (by omega)]) g1
  obtain ⟨p3, g3⟩ := put 2 v3 _ (by omega) (fun j hj => by unfold wdF; rw [if_neg (by omega), if_neg (by omega), if_pos (by omega)]) g2
  obtain ⟨p4, g4⟩ := put 3 v4 _ (by omega) (fun j hj => by unfold wdF; rw [if_neg (by omega), if_neg (by omega), if_neg (by omega), if_pos (by omega)]) g3
  obtain ⟨p5, g5⟩ := put 4 v5 _ (by omega) (fun j hj => by unfold wdF; rw [if_neg (by omega), if_neg (by omega), if_neg (by omega), if_neg (by omega)]) g4
  have e : apF (B + 1) B 1 f n 20 0 N = apF (B + 1) B 1 f n 4 (4 * 4) (apF (B + 1) B 1 f n 4 (4 * 3) (apF (B + 1) B 1 f n 4 (4 * 2) (apF (B + 1) B 1 f n 4 (4 * 1) (apF (B + 1) B 1 f n 4 (4 * 0) N)))) := by
    rw [show 20 = 4 + (4 + (4 + (4 + 4))) from rfl, apF_add, apF_add, apF_add, apF_add]
  rw [e]
  have hle : (nI n ≤ nI 680) = True := eq_true (nI_le (by omega) (by omega))
  unfold f_X7_append
  simp only [nI_lit, h1, hle, if_true, p1, p2, p3, p4, p5, bd_some, g5]
theorem M_app_L {m n : Nat} (h1 : gp Y m 1 = m + 1) {v1 v2 v3 v4 v5 : Int32} (hn : n + 20 ≤ 700) : ∀ (z k D9 : Nat) (N : XN), k + z = 20 → z < D9 → gi N m 2 = nI (n + k) → f_X8_append_23 Y D9 m v1 v2 v3 v4 v5 (nI k) N = some (nI (n + 20), apF (m + 1) m 2 (fun k => bM (wdF v1 v2 v3 v4 v5 k) (nI (24 - 8 * (k % 4)))) n z k N) := by
  intro z
  induction z with
  | zero =>
    intro k D9 N hi hD9 hN
    obtain ⟨D8, rfl⟩ : ∃ z, D9 = z + 1 := ⟨D9 - 1, by omega⟩
    rw [f_X8_append_23]
    simp (disch := omega) only [nI_lit, ↓reduceIte, pLEt, pLEf, pLTt, pLTf, pEQf, pML, pMG, pMf, pMg, hN]
    rw [show n + k = n + 20 by omega]
    rfl
  | succ z ih =>
    intro k D9 N hi hD9 hN
    obtain ⟨D8, rfl⟩ : ∃ z, D9 = z + 1 := ⟨D9 - 1, by omega⟩
    have es : ∀ k, k < 20 → nI 24 - nI 8 * (nI k - nI k / nI 4 * nI 4) = nI (24 - 8 * (k % 4)) := by decide +kernel
    have IH := fun v (hv : v = bM (wdF v1 v2 v3 v4 v5 k) (nI (24 - 8 * (k % 4)))) => ih (k + 1) D8 (si (si N (m + 1) (n + k) v) m 2 (nI (n + (k + 1)))) (by omega) (by omega) (gi_si _ _ _ _)
    have g1 : ∀ v, gi (si N (m + 1) (n + k) v) m 2 = nI (n + k) := fun v => by rw [gi_si_n (Or.inl (by omega))]; exact hN
    rw [f_X8_append_23]
    have fin : ∀ v (hv : v = bM (wdF v1 v2 v3 v4 v5 k) (nI (24 - 8 * (k % 4)))), f_X8_append_23 Y D8 m v1 v2 v3 v4 v5 (nI (k + 1)) (si (si N (m + 1) (n + k) v) m 2 (nI (n + k + 1))) = some (nI (n + 20), apF (m + 1) m 2 (fun k => bM (wdF v1 v2 v3 v4 v5 k) (nI (24 - 8 * (k % 4)))) n (z + 1) k N) := by
      intro v hv
      have := IH v hv
      rw [hv] at this ⊢
      exact this
    by_cases q4 : k < 4
    · simp (disch := omega) only [↓lt_eq, nI_lit, ↓reduceIte, pLEt, pLEf, pLTt, pLTf, pEQf, pML, pMG, pMf, pMg, hN, xb_nI, nI_clamp, if_true, h1, es, g1, nI_add]
      exact fin _ (by unfold bM wdF; rw [if_pos q4])
    · by_cases q8 : k < 8
      · simp (disch := omega) only [↓lt_eq, nI_lit, ↓reduceIte, pLEt, pLEf, pLTt, pLTf, pEQf, pML, pMG, pMf, pMg, hN, xb_nI, nI_clamp, if_true, h1, es, g1, nI_add]
        exact fin _ (by unfold bM wdF; rw [if_neg q4, if_pos q8])
      · by_cases q12 : k < 12
        · simp (disch := omega) only [↓lt_eq, nI_lit, ↓reduceIte, pLEt, pLEf, pLTt, pLTf, pEQf, pML, pMG, pMf, pMg, hN, xb_nI, nI_clamp, if_true, h1, es, g1, nI_add]
          exact fin _ (by unfold bM wdF; rw [if_neg q4, if_neg q8, if_pos q12])
        · by_cases q16 : k < 16
          · simp (disch := omega) only [↓lt_eq, nI_lit, ↓reduceIte, pLEt, pLEf, pLTt, pLTf, pEQf, pML, pMG, pMf, pMg, hN, xb_nI, nI_clamp, if_true, h1, es, g1, nI_add]
            exact fin _ (by unfold bM wdF; rw [if_neg q4, if_neg q8, if_neg q12, if_pos q16])
          · simp (disch := omega) only [↓lt_eq, nI_lit, ↓reduceIte, pLEt, pLEf, pLTt, pLTf, pEQf, pML, pMG, pMf, pMg, hN, xb_nI, nI_clamp, if_true, h1, es, g1, nI_add]
            exact fin _ (by unfold bM wdF; rw [if_neg q4, if_neg q8, if_neg q12, if_neg q16])
theorem F_append (hY : YO Y B) (hI : IV B N) (v1 v2 v3 v4 v5 : Int32) : FC3 Y B (f_X7_append Y B v1 v2 v3 v4 v5) (f_X8_append Y (B + 908) v1 v2 v3 v4 v5) N := by
  obtain ⟨⟨g0, g3, g4, g5, g6, g7⟩, -, -, hW, hW2, -, hM, -⟩ := hY
  have hI' := hI
  obtain ⟨⟨ops, d, hdd⟩, ⟨k, p, hh⟩, n, ht⟩ := hI'
  have ht' := ht
  obtain ⟨t1, t2, t3, t4, t5⟩ := ht'
  have e0 : ∀ N' : XN, si N' (B + 908) 0 (nI 0) = mm N' B (nI 0) := fun _ => rfl
  have e2 : ∀ N' : XN, gi N' (B + 908) 2 = nI n → gi (mm N' B (nI 0)) (B + 908) 2 = nI n := fun N' h => by
    rw [show gi (mm N' B (nI 0)) (B + 908) 2 = gi N' (B + 908) 2 from gi_si_n (Or.inr (by omega))]
    exact h
  by_cases hn : n + 20 ≤ 700
  · obtain ⟨N1, hN1⟩ : ∃ N1, apF (B + 1) B 1 (fun k => bC (wdF v1 v2 v3 v4 v5 k) (nI (24 - 8 * (k % 4)))) n 20 0 N = N1 := ⟨_, rfl⟩
    have K := K_append (Y := Y) (N := N) g0 (v1 := v1) (v2 := v2) (v3 := v3) (v4 := v4) (v5 := v5) t2 hn
    obtain ⟨a1, a2, a3, a4, a5⟩ := apF_at (s := 1) (show B + 1 ≠ B by omega) (fun k => bC (wdF v1 v2 v3 v4 v5 k) (nI (24 - 8 * (k % 4)))) n 20 0 N
    rw [hN1] at K a1 a2 a3 a4 a5
    refine ⟨nI (n + 20), N1, K, fun N' hN' => ?_⟩
    have m2 : gi N' (B + 908) 2 = nI n := by unfold gi; rw [hN', a2 _ (by omega) (by omega)]; exact t3
    have ML := M_app_L (Y := Y) (m := B + 908) hM.g1 (v1 := v1) (v2 := v2) (v3 := v3) (v4 := v4) (v5 := v5) hn 20 0 FU (mm N' B (nI 0)) (by omega) (by unfold FU; omega) (e2 N' m2)
    obtain ⟨b1, b2, b3, b4, b5⟩ := apF_at (s := 2) (show B + 908 + 1 ≠ B + 908 by omega) (fun k => bM (wdF v1 v2 v3 v4 v5 k) (nI (24 - 8 * (k % 4)))) n 20 0 (mm N' B (nI 0))
    obtain ⟨N2, hN2⟩ : ∃ N2, apF (B + 908 + 1) (B + 908) 2 (fun k => bM (wdF v1 v2 v3 v4 v5 k) (nI (24 - 8 * (k % 4)))) n 20 0 (mm N' B (nI 0)) = N2 := ⟨_, rfl⟩
    rw [hN2] at ML b1 b2 b3 b4 b5
    have far : ∀ a, a ≠ B → a ≠ B + 1 → a ≠ B + 908 → a ≠ B + 909 → N2.1 a = N.1 a := fun a q1 q2 q3 q4 => by
      rw [b2 a q4 q3, show (mm N' B (nI 0)).1 a = N'.1 a from si_row q3, hN', a2 a q2 q1]
    have farB : ∀ a, a = B ∨ a = B + 1 → N2.1 a = N1.1 a := fun a q => by
      rw [b2 a (by omega) (by omega), show (mm N' B (nI 0)).1 a = N'.1 a from si_row (by omega), hN']
    have farM : ∀ j, j ≠ 0 → j ≠ 2 → gi N2 (B + 908) j = gi N (B + 908) j := fun j q1 q2 => by
      rw [b4 j q2, show gi (mm N' B (nI 0)) (B + 908) j = gi N' (B + 908) j from gi_si_n (Or.inr q1)]
      unfold gi
      rw [hN', a2 _ (by omega) (by omega)]
    have gB : ∀ j, gi N2 B j = gi N1 B j := fun j => by unfold gi; rw [farB B (Or.inl rfl)]
    refine ⟨N2, ?_, ⟨⟨ops, d, hdd.same (fun k => by rw [far _ (by omega) (by omega) (by omega) (by omega)]) (fun o k ho => by unfold wc; rw [far _ (by omega) (by omega) (by omega) (by omega)])⟩, ⟨k, p, hh.same (farM 13 (by omega) (by omega)) ((gB 8).trans (a4 8 (by omega))) ((gB 9).trans (a4 9 (by omega))) (fun i j hi => by rw [far _ (by omega) (by omega) (by omega) (by omega)]) (fun o j ho => by unfold wc; rw [far _ (by omega) (by omega) (by omega) (by omega)])⟩, n + 20, hn, ?_, ?_, fun i hi => ?_, ?_⟩, fun a q => by rw [b1]; rfl⟩
    · have hle : (nI (n + 20) ≤ nI 700) = True := eq_true (nI_le hn (by omega))
      unfold f_X8_append
      simp (disch := omega) only [↓lt_eq, nI_lit, e0, e2 N' m2, nI_add, hle, if_true]
      exact ML
    · rw [gB]; exact a5 t2
    · exact b5 (e2 N' m2)
    · have u1 : gi N2 (B + 1) i = gi N1 (B + 1) i := by unfold gi; rw [farB _ (Or.inr rfl)]
      rw [u1, a3 i, show B + 909 = B + 908 + 1 by omega, b3 i]
      by_cases q : i < n
      · rw [if_neg (by omega), if_neg (by omega), show gi (mm N' B (nI 0)) (B + 908 + 1) i = gi N (B + 909) i by
          unfold gi
          rw [show (mm N' B (nI 0)).1 (B + 908 + 1) = N'.1 (B + 908 + 1) from si_row (by omega), hN', a2 _ (by omega) (by omega)]]
        exact t4 i q
      · rw [if_pos (by omega), if_pos (by omega)]
        exact byR_sh _ (by have : (i - n) % 4 < 4 := Nat.mod_lt _ (by decide); omega)
    · rw [gB, a4 2 (by omega), farM 7 (by omega) (by omega)]
      exact t5
  · refine ⟨-nI 1, N, ?_, fun N' hN' => ⟨mm N' B (nI 0), ?_, (after_read hN' hI _).1, (after_read hN' hI _).2⟩⟩
    · have hle : (nI n ≤ nI 680) = False := eq_false (nI_ge (by omega) (by omega))
      unfold f_X7_append
      simp only [nI_lit, t2, hle, if_false]
    · have m2 : gi N' (B + 908) 2 = nI n := by unfold gi; rw [hN']; exact t3
      have hle : (nI (n + 20) ≤ nI 700) = False := eq_false (nI_ge (by omega) (by omega))
      unfold f_X8_append
      simp only [↓lt_eq, nI_lit, e0, e2 N' m2, nI_add, hle, if_false]
end AP
