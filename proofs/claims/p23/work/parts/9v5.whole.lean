/-! THE WHOLE TEXT, READ (first rows: of whole) -/
section US
variable {Y : XY} {N : XN} {B w a : Nat} {c : Nat → Nat → Int32} {e : XD}
def eZero (e : XD) (i : Nat) : XD := fun j => if j < i then nI 0 else e j
def eUsual (e : XD) : XD := upd (upd (upd (upd (upd (eZero e 1784) 5 (nI 5)) 6 (nI 10)) 7 (nI 10)) 8 (nI 10)) 9 (nI 1)
theorem eUsual_at : (∀ j, j < 1784 → j < 5 ∨ 9 < j → eUsual e j = nI 0) ∧ eUsual e 5 = nI 5 ∧ eUsual e 6 = nI 10 ∧ eUsual e 7 = nI 10 ∧ eUsual e 8 = nI 10 ∧ eUsual e 9 = nI 1 := by
  unfold eUsual
  refine ⟨fun j h1 h2 => ?_, ?_, ?_, ?_, ?_, upd_s _ _ _⟩
  · rw [upd_n (by omega), upd_n (by omega), upd_n (by omega), upd_n (by omega), upd_n (by omega)]
    exact if_pos h1
  all_goals simp (disch := omega) only [upd_n, upd_s]
theorem QD_usual : QD (fun k => c 7 k) [] (eUsual e) (cUsual c) := by
  obtain ⟨z, p5, p6, p7, p8, p9⟩ := eUsual_at (e := e)
  have z1 := z 1 (by omega) (by omega)
  have z2 := z 2 (by omega) (by omega)
  have z3 := z 3 (by omega) (by omega)
  have z0 := z 0 (by omega) (by omega)
  have n0 : (nI 0).toNatClampNeg = 0 := nI_clamp (by omega)
  have eH : nH (eUsual e) = 0 := by unfold nH; rw [z1, n0]
  have eL : nL (eUsual e) = 0 := by unfold nL; rw [z2, n0]
  have eR : nR (eUsual e) = 0 := by unfold nR; rw [z3, n0]
  have eT : tM (eUsual e) = 0 := by unfold tM; rw [z0, n0]
  refine ⟨?_, ⟨?_, ⟨⟨?_, fun i hi => absurd hi (Nat.not_lt_zero i)⟩, fun k _ => ?_⟩, fun i hi => ?_⟩, z0, fun j h1 h2 => z j (by omega) (by omega), fun j h1 h2 => z j (by omega) (by omega), fun r hr => by omega⟩
  · unfold DJ
    rw [eH, eL, eR, eT, z1, z2, z3, z0, p8]
    exact ⟨⟨rfl, by omega⟩, ⟨rfl, by omega⟩, ⟨rfl, by omega⟩, rfl, ⟨10, by omega, by omega, rfl⟩, fun i hi => by omega, fun i hi => by omega, fun i hi => by omega, ⟨⟨0, rfl⟩, Nat.zero_le _, Nat.zero_le _, z 11 (by omega) (by omega), fun i hi => absurd hi (Nat.not_lt_zero i)⟩⟩
  · rw [eH, eL, eR]
    refine ⟨fun k j hp => ?_, fun i k j hi => by omega, fun i k j hi => by omega, fun i k hi => by omega, fun i k j hi => by omega⟩
    unfold Wp at hp
    rcases hp with ⟨rfl, rfl⟩ | ⟨rfl, rfl⟩ | ⟨rfl, rfl⟩ | ⟨rfl, rfl⟩ | ⟨rfl, rfl⟩ | ⟨rfl, rfl⟩ | ⟨rfl, rfl⟩ | ⟨rfl, rfl⟩ | ⟨rfl, rfl⟩ | ⟨rfl, rfl⟩
    all_goals unfold cUsual
    · rw [z1]; simp (disch := omega) only [up2_n, up2_s]
    · rw [z2]; simp (disch := omega) only [up2_n, up2_s]
    · rw [z3]; simp (disch := omega) only [up2_n, up2_s]
    · rw [z0]; simp (disch := omega) only [up2_n, up2_s]
    · rw [z 4 (by omega) (by omega)]; simp (disch := omega) only [up2_n, up2_s]
    · rw [p5]; simp (disch := omega) only [up2_n, up2_s]
    · rw [p6]; simp (disch := omega) only [up2_n, up2_s]
    · rw [p7]; simp (disch := omega) only [up2_n, up2_s]
    · rw [p8]; simp (disch := omega) only [up2_n, up2_s]
    · rw [p9]; simp (disch := omega) only [up2_n, up2_s]
  · unfold cUsual; rw [up2_s]; rfl
  · unfold cUsual; simp (disch := omega) only [up2_n]
  · rw [eH] at hi; omega
theorem sd_self (N : XN) (a : Nat) : sd N a (N.1 a) = N := by
  refine Prod.ext ?_ rfl
  funext b
  by_cases hb : b = a
  · subst hb; simp [sd]
  · simp [sd, hb]
theorem KS_self : KS N B (wc N (B + 97)) (N.1 (B + 6)) = N := by
  unfold KS
  rw [sw_wc, sd_self]
theorem load_head {Y : XY} {N : XN} {B n L : Nat} {t : Nat → Nat} (hY : YO Y B) (h1 : gi N B 1 = nI n) (hn : n ≤ 700) (hL : L ≤ n) (hT : TB N (B + 1) L t) : ∃ N' T, f_X7_load Y B (nI L) N = (bd2 (f_X4_reads (yrd Y (B + 6) (B + 2) (B + 97)) (B + 6) N') fun r N16 => f_X7_loadB (yrd Y (B + 6) (B + 2) (B + 97)) B r N16) ∧ TK9 N' B T L t ∧ tokf (B + 2) (si N B 1 (nI 0)) N' := by
  obtain ⟨⟨a1, a2, a3, a4, a5, a6⟩, b, ⟨t0, t1, t2⟩, hW, hW2, hW3, hM, hk⟩ := hY
  have hT2 : TB (si N B 1 (nI 0)) (B + 1) L t := fun i hi => ⟨(hT i hi).1, by rw [gi_si_n (Or.inl (by omega))]; exact (hT i hi).2⟩
  obtain ⟨N', T, s1, s2, s3, s4, s5, s6⟩ := K_split (Y := Y) (N := si N B 1 (nI 0)) (Q := B + 2) (A := B + 1) t0 t1 t2 hk (show L ≤ 700 by omega) (by omega) hT2
  refine ⟨N', T, ?_, ⟨s2, s4, s5, s6⟩, s3⟩
  have q1 : (nI L < nI 0) = False := pLTf (Nat.zero_le L) (by omega)
  have q2 : (nI L ≤ nI n) = True := pLEt hL (by omega)
  unfold f_X7_load
  simp only [nI_lit, q1, h1, q2, ↓reduceIte]
  rw [lt_eq, a2, a1, s1, bd_some, a3, a5]
end US
section VS
variable {Y : XY} {N : XN} {B T L a : Nat} {t : Nat → Nat} {c c' : Nat → Nat → Int32} {g g' e : XD} {P : Nat → Int32} {ops : List Int32} {ts rest : List (Nat × Nat)}
/-- a statement and its sign -/
theorem V_iter (hR : RD Y B) (hT : TK9 N B T L t) (ha : a ≤ T) (h4 : g 4 = nI a) {k n : Nat} (hk : k ≠ 0 ∧ k < 24) (hs : TSQ t L (tS t L a) ((k, n) :: ts)) (st : f_X4_readsStatement Y (B + 6) (KS N B c g) = some (nI 1, KS N B c' g')) {a' : Nat} (ha' : a' ≤ T) (h4' : g' 4 = nI a') (hs' : TSQ t L (tS t L a') ((3, 0) :: rest)) {v D9 : Nat} (hv : v < 700) : f_X4_reads_63 Y (D9 + 1) (B + 6) (nI 1) (nI v) (KS N B c g) = f_X4_reads_63 Y D9 (B + 6) (nI 1) (nI (v + 1)) (KS N B c' (upd g' 4 (nI (a' + 1)))) := by
  have kd := V_kind (N := N) (c := c) hR hT ha h4 hs
  have tk := V_take (N := N) (c := c') hR hT ha' h4' (by decide) hs'
  have k0 : (nI k = nI 0) = False := eq_false (fun z => hk.1 ((nI_eq (by omega) (by omega)).mp z))
  rw [f_X4_reads_63]
  simp (disch := omega) only [nI_lit, ↓reduceIte, pLEt, pLEf, pLTt, pLTf, pEQf, pML, pMG, pMf, pMg, nz10, kd, bd_some, k0, st, bd2_some, tk, nI_add]
/-- a statement's tokens, what it makes of the row -/
def STEP (ts : List (Nat × Nat)) (e : XD) (b : Nat) (e' : XD) (b' : Nat) : Prop :=
  (∃ x y, ts = [(11, 0), (2, x), (2, y), (3, 0)] ∧ nH e < 6 ∧ x ≤ 9999 ∧ (1 ≤ y ∧ y ≤ 20) ∧ e' = eHd e (nI x) (nI y) ∧ b' = b) ∨
  (∃ x y z xs, ts = (12, 0) :: (2, x) :: (2, y) :: (2, z) :: (xs.map (fun x => (2, x)) ++ [(3, 0)]) ∧ nL e < 8 ∧ x ≤ 99 ∧ (1 ≤ y ∧ y ≤ 20) ∧ z ≤ 9999 ∧ xs.length ≤ 3 ∧ TV (eLn e (nI x) (nI y) (nI z)) (nL e) xs ∧ e' = eTn (eLn e (nI x) (nI y) (nI z)) (nL e) xs ∧ b' = b) ∨
  (∃ l x k, ts = [(13, 0), (2, l), (2, x), (2, k), (3, 0)] ∧ nR e < 60 ∧ l < nL e ∧ x ≤ 999 ∧ (1 ≤ k ∧ k ≤ 99) ∧ e' = sPut e (nI l) (nI x) (nI k) ∧ b' = b) ∨
  (∃ q v, ts = [(14 + q, 0), (2, v), (3, 0)] ∧ b ≤ q ∧ q < 5 ∧ (1 ≤ v ∧ v ≤ 20) ∧ e' = upd e (5 + q) (nI v) ∧ b' = q + 1)
/-- the usual world's row -/
def eU : XD := eUsual (fun _ => nI 0)
/-- these tokens make this row -/
def BLD (ts : List (Nat × Nat)) (e : XD) (b : Nat) : Prop := ∀ Q : List (Nat × Nat) → XD → Nat → Prop, Q [] eU 0 → (∀ ts e b us e' b', Q ts e b → STEP us e b e' b' → Q (ts ++ us) e' b') → Q ts e b
theorem BLD.nil : BLD [] eU 0 := fun _ h0 _ => h0
theorem BLD.step {us : List (Nat × Nat)} {e' : XD} {b b' : Nat} (h : BLD ts e b) (hs : STEP us e b e' b') : BLD (ts ++ us) e' b' := fun Q h0 h1 => h1 _ _ _ _ _ _ (h Q h0 h1) hs
/-- where the reader stands behind such tokens -/
def RDX (Y : XY) (N : XN) (B T L : Nat) (t : Nat → Nat) (P : Nat → Int32) (c0 : Nat → Nat → Int32) (g0 : XD) (ts : List (Nat × Nat)) (e : XD) (b : Nat) : Prop := b ≤ 5 ∧ ∀ rest, TSQ t L (tS t L 2) (ts ++ rest) → ∃ i a c g x, f_X4_reads_63 Y FU (B + 6) (nI 1) (nI 0) (KS N B c0 g0) = f_X4_reads_63 Y (FU - i) (B + 6) (nI 1) (nI i) (KS N B c g) ∧ i + 2 ≤ a ∧ a ≤ T ∧ g 4 = nI a ∧ g 6 = nI (16384 * x) ∧ x < 2 ^ b ∧ TSQ t L (tS t L a) rest ∧ QD P [] e c
theorem V_step (hR : RD Y B) (hT : TK9 N B T L t) {c0 : Nat → Nat → Int32} {g0 : XD} {us : List (Nat × Nat)} {e' : XD} {b b' : Nat} (h : RDX Y N B T L t P c0 g0 ts e b) (hs : STEP us e b e' b') : RDX Y N B T L t P c0 g0 (ts ++ us) e' b' := by
  have hT7 := hT.2.2.1
  obtain ⟨hb5, h⟩ := h
  -- one more turn of the loop
  have turn : ∀ (i a a' x' : Nat) (c c' : Nat → Nat → Int32) (g g' : XD) (k n : Nat) (us2 rest : List (Nat × Nat)), k ≠ 0 ∧ k < 24 → f_X4_reads_63 Y FU (B + 6) (nI 1) (nI 0) (KS N B c0 g0) = f_X4_reads_63 Y (FU - i) (B + 6) (nI 1) (nI i) (KS N B c g) → i + 2 ≤ a → a ≤ T → g 4 = nI a → TSQ t L (tS t L a) ((k, n) :: us2) → f_X4_readsStatement Y (B + 6) (KS N B c g) = some (nI 1, KS N B c' g') → a ≤ a' → a' ≤ T → g' 4 = nI a' → g' 6 = nI (16384 * x') → x' < 2 ^ b' → TSQ t L (tS t L a') ((3, 0) :: rest) → QD P [] e' c' → ∃ i a c g x, f_X4_reads_63 Y FU (B + 6) (nI 1) (nI 0) (KS N B c0 g0) = f_X4_reads_63 Y (FU - i) (B + 6) (nI 1) (nI i) (KS N B c g) ∧ i + 2 ≤ a ∧ a ≤ T ∧ g 4 = nI a ∧ g 6 = nI (16384 * x) ∧ x < 2 ^ b' ∧ TSQ t L (tS t L a) rest ∧ QD P [] e' c := by
    intro i a a' x' c c' g g' k n us2 rest hk q1 q2 q3 q4 q5 st w1 w2 w3 w4 w5 w6 w7
    obtain ⟨z, z1, z2⟩ := fu_1 0 i (by omega)
    obtain ⟨a2, -, -, s2⟩ := w6.hd hT w2 (by decide)
    refine ⟨i + 1, a' + 1, c', upd g' 4 (nI (a' + 1)), x', ?_, by omega, a2, upd_s _ _ _, (upd_n (by omega)).trans w4, w5, s2, w7⟩
    rw [q1, z1, z2]
    exact V_iter hR hT q3 q4 hk q5 st w2 w3 w6 (by omega)
  have conv : ∀ (us2 rest : List (Nat × Nat)), ts ++ us ++ rest = ts ++ (us ++ rest) := fun us2 rest => List.append_assoc _ _ _
  rcases hs with ⟨x, y, rfl, h6, hx, hy, rfl, rfl⟩ | ⟨x, y, z, xs, rfl, h8, hx, hy, hz, h3, hTV, rfl, rfl⟩ | ⟨l, x, k, rfl, h60, hl, hx, hk, rfl, rfl⟩ | ⟨q, v, rfl, hq, hq5, hv, rfl, rfl⟩
  · refine ⟨hb5, fun rest hs => ?_⟩
    rw [List.append_assoc] at hs
    obtain ⟨i, a, c, g, w, q1, q2, q3, q4, q5, q6, q7, q8⟩ := h _ hs
    obtain ⟨c', g', f1, f2, f3, f4, f5, f6⟩ := V_handler (ts := (3, 0) :: rest) hR hT q8 q3 q4 h6 hx hy q7
    refine turn i a (a + 3) w c c' g g' 11 0 _ rest (by omega) q1 q2 q3 q4 q7 ?_ (by omega) f2 f3 (f4.trans q5) q6 f5 f6
    have kd := V_kind (N := N) (c := c) hR hT q3 q4 q7
    unfold f_X4_readsStatement
    simp (disch := omega) only [nI_lit, ↓reduceIte, pLEt, pLEf, pLTt, pLTf, pEQf, pML, pMG, pMf, pMg, kd, bd_some, f1, bd2_some, xz1]
  · refine ⟨hb5, fun rest hs => ?_⟩
    rw [List.append_assoc] at hs
    have e1 : (12, 0) :: (2, x) :: (2, y) :: (2, z) :: (xs.map (fun x => ((2, x) : Nat × Nat)) ++ [(3, 0)]) ++ rest = (12, 0) :: (2, x) :: (2, y) :: (2, z) :: (xs.map (fun x => ((2, x) : Nat × Nat)) ++ (3, 0) :: rest) := by
      show (12, 0) :: (2, x) :: (2, y) :: (2, z) :: (xs.map (fun x => ((2, x) : Nat × Nat)) ++ [(3, 0)] ++ rest) = _
      rw [List.append_assoc]
      rfl
    rw [e1] at hs
    obtain ⟨i, a, c, g, w, q1, q2, q3, q4, q5, q6, q7, q8⟩ := h _ hs
    obtain ⟨c', g', f1, f2, f3, f4, f5, f6⟩ := V_line (ts := rest) hR hT q8 q3 q4 h8 hx hy hz h3 hTV q7
    refine turn i a (a + 4 + xs.length) w c c' g g' 12 0 _ rest (by omega) q1 q2 q3 q4 q7 ?_ (by omega) f2 f3 (f4.trans q5) q6 f5 f6
    have kd := V_kind (N := N) (c := c) hR hT q3 q4 q7
    unfold f_X4_readsStatement
    simp (disch := omega) only [nI_lit, ↓reduceIte, pLEt, pLEf, pLTt, pLTf, pEQf, pML, pMG, pMf, pMg, kd, bd_some, f1, bd2_some, xz1]
  · refine ⟨hb5, fun rest hs => ?_⟩
    rw [List.append_assoc] at hs
    obtain ⟨i, a, c, g, w, q1, q2, q3, q4, q5, q6, q7, q8⟩ := h _ hs
    obtain ⟨c', g', f1, f2, f3, f4, f5, f6⟩ := V_raise (ts := (3, 0) :: rest) hR hT q8 q3 q4 h60 hl hx hk q7
    refine turn i a (a + 4) w c c' g g' 13 0 _ rest (by omega) q1 q2 q3 q4 q7 ?_ (by omega) f2 f3 (f4.trans q5) q6 f5 f6
    have kd := V_kind (N := N) (c := c) hR hT q3 q4 q7
    unfold f_X4_readsStatement
    simp (disch := omega) only [nI_lit, ↓reduceIte, pLEt, pLEf, pLTt, pLTf, pEQf, pML, pMG, pMf, pMg, kd, bd_some, f1, bd2_some, xz1]
  · refine ⟨by omega, fun rest hs => ?_⟩
    rw [List.append_assoc] at hs
    obtain ⟨i, a, c, g, w, q1, q2, q3, q4, q5, q6, q7, q8⟩ := h _ hs
    have hpw : 2 ^ b ≤ 2 ^ q := Nat.pow_le_pow_right (by omega) hq
    have hps : 2 ^ (q + 1) = 2 ^ q * 2 := Nat.pow_succ 2 q
    obtain ⟨c', g', f1, f2, f3, f4, f5, f6⟩ := V_rule (ts := (3, 0) :: rest) hR hT q8 q3 q4 hq5 (show w < 2 ^ q by omega) q5 hv q7
    refine turn i a (a + 2) (w + 2 ^ q) c c' g g' (14 + q) 0 _ rest (by omega) q1 q2 q3 q4 q7 ?_ (by omega) f2 f3 f4 (by omega) f5 f6
    have kd := V_kind (N := N) (c := c) hR hT q3 q4 q7
    unfold f_X4_readsStatement
    rcases (by omega : q = 0 ∨ q = 1 ∨ q = 2 ∨ q = 3 ∨ q = 4) with rfl | rfl | rfl | rfl | rfl <;> (simp only [Nat.reduceAdd] at kd f1 ⊢; simp (disch := omega) only [nI_lit, ↓reduceIte, pLEt, pLEf, pLTt, pLTf, pEQf, pML, pMG, pMf, pMg, kd, bd_some]; exact f1)
theorem BLD.read {b : Nat} (h : BLD ts e b) (hR : RD Y B) (hT : TK9 N B T L t) {c0 : Nat → Nat → Int32} {g0 : XD} (ha : 2 ≤ T) (h4 : g0 4 = nI 2) (h6 : g0 6 = nI 0) (hQ : QD P [] eU c0) : RDX Y N B T L t P c0 g0 ts e b :=
  h (fun ts e b => RDX Y N B T L t P c0 g0 ts e b) ⟨by omega, fun rest hs => ⟨0, 2, c0, g0, 0, rfl, by omega, ha, h4, h6, by decide, hs, hQ⟩⟩ (fun ts e b us e' b' q1 q2 => V_step hR hT q1 q2)
/-- the end: nothing more -/
theorem V_end0 (hR : RD Y B) (hT : TK9 N B T L t) {b : Nat} {c0 : Nat → Nat → Int32} {g0 : XD} (h : RDX Y N B T L t P c0 g0 ts e b) (hs : TSQ t L (tS t L 2) ts) : ∃ c g, f_X4_reads_63 Y FU (B + 6) (nI 1) (nI 0) (KS N B c0 g0) = some (nI 1, KS N B c g) ∧ QD P [] e c := by
  have hT7 := hT.2.2.1
  obtain ⟨i, a, c, g, x, q1, q2, q3, q4, -, -, q7, q8⟩ := h.2 [] (by rw [List.append_nil]; exact hs)
  obtain ⟨z, z1, -⟩ := fu_1 0 i (by omega)
  have kd := K_kind (c := c) hR hT q3 q4
  rw [TSQ.end0 q7] at kd
  refine ⟨c, g, ?_, q8⟩
  rw [q1, z1, f_X4_reads_63]
  simp (disch := omega) only [nI_lit, ↓reduceIte, pLEt, pLEf, pLTt, pLTf, pEQf, pML, pMG, pMf, pMg, nz10, kd, bd_some, xz1]
/-- the end: a fine -/
theorem V_end1 (hR : RD Y B) (hT : TK9 N B T L t) {b : Nat} {c0 : Nat → Nat → Int32} {g0 : XD} (h : RDX Y N B T L t P c0 g0 ts e b) {tk : Nat → List (Nat × Nat)} {D0 : Nat} (h3 : D0 ≤ 3) (htk : tk 0 = tk 1) (hrd : RDT D0 tk ops) (hs : TSQ t L (tS t L 2) (ts ++ (19, 0) :: (tk 0 ++ [(3, 0)]))) : ∃ c g e', f_X4_reads_63 Y FU (B + 6) (nI 1) (nI 0) (KS N B c0 g0) = some (nI 1, KS N B c g) ∧ QD P ops e' c ∧ EQC e e' := by
  have hT7 := hT.2.2.1
  obtain ⟨hb5, h⟩ := h
  obtain ⟨i, a, c, g, x, q1, q2, q3, q4, q5, q6, q7, q8⟩ := h _ hs
  obtain ⟨z, z1, z2⟩ := fu_1 0 i (by omega)
  have hpw : 2 ^ b ≤ 2 ^ 5 := Nat.pow_le_pow_right (by omega) hb5
  obtain ⟨a1, -, -, s1⟩ := q7.hd hT q3 (by decide)
  obtain ⟨g2, m2, p4, p6⟩ := V_once (N := N) (c := c) hR q4 (b := 5) (by omega) (show x < 2 ^ 5 by omega) q5
  have sv : SV B T L t P e (nI (16384 * (x + 2 ^ 5))) 0 (a + 1) c g2 [] 0 (tk 1 ++ (3, 0) :: []) := ⟨⟨e, fun _ _ _ _ => rfl, q8⟩, rfl, by show 0 + 0 ≤ a + 1; omega, a1, p4, p6, by rw [← htk]; exact s1⟩
  obtain ⟨a', c', g', i', i1, i2, i3⟩ := (hrd Y N B T L t P e (nI (16384 * (x + 2 ^ 5))) hR hT 0 0 (by omega)).1 23 (by omega) (by omega) 0 (a + 1) c g2 [] 3 0 [] (by decide) (by decide) (by decide) sv
  obtain ⟨y, y1, -⟩ := fu_1 0 i' (by omega)
  have kd' := V_kind (N := N) (c := c') hR hT i3.2.2.2.1 i3.2.2.2.2.1 i3.2.2.2.2.2.2
  have eS : f_X4_S Y 24 0 (B + 6) (nI 0) (KS N B c g2) = some (nI 1, KS N B c' g') := by
    rw [show 24 = 23 + 1 from rfl, f_X4_S, if_pos rfl, i2, y1, f_X4_readsSum_8]
    simp (disch := omega) only [nI_lit, ↓reduceIte, pLEt, pLEf, pLTt, pLTf, pEQf, pML, pMG, pMf, pMg, nz10, kd', bd_some, xz1]
  have kd := V_kind (N := N) (c := c) hR hT q3 q4 q7
  have st : f_X4_readsStatement Y (B + 6) (KS N B c g) = some (nI 1, KS N B c' g') := by
    unfold f_X4_readsStatement
    simp only [Nat.reduceAdd] at m2
    simp (disch := omega) only [nI_lit, ↓reduceIte, pLEt, pLEf, pLTt, pLTf, pEQf, pML, pMG, pMf, pMg, kd, bd_some, m2, bd2_some, nz10, eS]
  obtain ⟨⟨e', w1, w2⟩, -, -, w4, w5, -, w7⟩ := i3
  obtain ⟨a2, -, -, s2⟩ := w7.hd hT w4 (by decide)
  have it := V_iter (v := i) (D9 := z) hR hT q3 q4 (by omega) q7 st w4 w5 w7 (by omega)
  obtain ⟨u, u1, -⟩ := fu_1 0 (i + 1) (by omega)
  have kd2 := K_kind (c := c') (g := upd g' 4 (nI (a' + 1))) hR hT a2 (upd_s _ _ _)
  rw [TSQ.end0 s2] at kd2
  refine ⟨c', upd g' 4 (nI (a' + 1)), e', ?_, w2, w1⟩
  have hai : i + 1 < 700 := by
    have := q2
    omega
  rw [q1, z1, it, ← z2, u1, f_X4_reads_63]
  simp (disch := omega) only [nI_lit, ↓reduceIte, pLEt, pLEf, pLTt, pLTf, pEQf, pML, pMG, pMf, pMg, nz10, kd2, bd_some, xz1]
/-- the reader's start -/
theorem V_reads (hR : RD Y B) (hT : TK9 N B T L t) (hs : TSQ t L (tS t L 0) ((10, 0) :: (3, 0) :: ts)) : ∃ G, f_X4_reads Y (B + 6) (KS N B c g) = f_X4_reads_63 Y FU (B + 6) (nI 1) (nI 0) (KS N B (cUsual c) G) ∧ 2 ≤ T ∧ G 4 = nI 2 ∧ G 6 = nI 0 ∧ TSQ t L (tS t L 2) ts ∧ QD (fun k => c 7 k) [] eU (cUsual c) := by
  obtain ⟨r1, r2, r3, r4, r5, hY⟩ := id hR
  have cb : f_X6_begin Y (B + 97) (KS N B c g) = some (KS N B (cUsual c) g) := by
    rw [KS_w, C_begin hY, ← KS_w]
  obtain ⟨a1, -, -, s1⟩ := hs.hd hT (Nat.zero_le _) (by decide)
  obtain ⟨a2, -, -, s2⟩ := s1.hd hT a1 (by decide)
  have p4 : (upd (upd (upd (upd g 4 (nI 0)) 6 (nI 0)) 0 (nI 0)) 1 (-nI 1)) 4 = nI 0 := by rw [upd_n (by omega), upd_n (by omega), upd_n (by omega), upd_s]
  have p6 : (upd (upd (upd (upd g 4 (nI 0)) 6 (nI 0)) 0 (nI 0)) 1 (-nI 1)) 6 = nI 0 := by rw [upd_n (by omega), upd_n (by omega), upd_s]
  generalize hG : upd (upd (upd (upd g 4 (nI 0)) 6 (nI 0)) 0 (nI 0)) 1 (-nI 1) = G at p4 p6
  have t1 := V_take (N := N) (c := cUsual c) hR hT (Nat.zero_le _) p4 (by decide) hs
  have t2 := V_take (N := N) (c := cUsual c) (g := upd G 4 (nI (0 + 1))) hR hT a1 (upd_s _ _ _) (by decide) s1
  refine ⟨upd (upd G 4 (nI (0 + 1))) 4 (nI (0 + 1 + 1)), ?_, a2, upd_s _ _ _, by rw [upd_n (by omega), upd_n (by omega)]; exact p6, s2, QD_usual⟩
  unfold f_X4_reads
  rw [r2, cb, bd_some]
  simp only [lt_eq, nI_lit, si_KS]
  rw [hG, t1, bd2_some]
  simp only [nz10, ↓reduceIte]
  rw [t2, bd2_some]
  simp only [nz10, ↓reduceIte]
end VS
