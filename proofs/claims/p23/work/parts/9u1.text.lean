/-! APPEND (of whole, by gen_app.py) -/
theorem apF_add (A L s : Nat) (f : Nat → Int32) (n : Nat) : ∀ (a b k : Nat) (N : XN), apF A L s f n (a + b) k N = apF A L s f n b (k + a) (apF A L s f n a k N) := by
  intro a
  induction a with
  | zero => intro b k N; rw [Nat.zero_add]; rfl
  | succ a ih =>
    intro b k N
    rw [show a + 1 + b = (a + b) + 1 by omega]
    show apF A L s f n (a + b) (k + 1) _ = apF A L s f n b (k + (a + 1)) (apF A L s f n a (k + 1) _)
    rw [ih, show k + 1 + a = k + (a + 1) by omega]
theorem apF_at {A L s : Nat} (hAL : A ≠ L) (f : Nat → Int32) (n : Nat) : ∀ (z k : Nat) (N : XN), (apF A L s f n z k N).2 = N.2 ∧ (∀ a, a ≠ A → a ≠ L → (apF A L s f n z k N).1 a = N.1 a) ∧ (∀ j, gi (apF A L s f n z k N) A j = if n + k ≤ j ∧ j < n + k + z then f (j - n) else gi N A j) ∧ (∀ j, j ≠ s → gi (apF A L s f n z k N) L j = gi N L j) ∧ (gi N L s = nI (n + k) → gi (apF A L s f n z k N) L s = nI (n + k + z)) := by
  intro z
  induction z with
  | zero => intro k N; exact ⟨rfl, fun _ _ _ => rfl, fun j => by rw [if_neg (by omega)]; rfl, fun _ _ => rfl, fun h => h⟩
  | succ z ih =>
    intro k N
    obtain ⟨a1, a2, a3, a4, a5⟩ := ih (k + 1) (si (si N A (n + k) (f k)) L s (nI (n + (k + 1))))
    refine ⟨a1, fun a q1 q2 => ?_, fun j => ?_, fun j q => ?_, fun _ => ?_⟩
    · show (apF A L s f n z (k + 1) _).1 a = _
      rw [a2 a q1 q2, si_row q2, si_row q1]
    · show gi (apF A L s f n z (k + 1) _) A j = _
      rw [a3 j]
      by_cases q : n + (k + 1) ≤ j ∧ j < n + (k + 1) + z
      · rw [if_pos q, if_pos (by omega)]
      · rw [if_neg q, gi_si_n (Or.inl hAL)]
        by_cases q2 : j = n + k
        · rw [q2, gi_si, if_pos (by omega), show n + k - n = k by omega]
        · rw [gi_si_n (Or.inr q2), if_neg (by omega)]
    · show gi (apF A L s f n z (k + 1) _) L j = _
      rw [a4 j q, gi_si_n (Or.inr q), gi_si_n (Or.inl (fun z => hAL z.symm))]
    · show gi (apF A L s f n z (k + 1) _) L s = _
      rw [a5 (by rw [gi_si]), show n + (k + 1) + z = n + k + (z + 1) by omega]
def wdF (v1 v2 v3 v4 v5 : Int32) (k : Nat) : Int32 := if k < 4 then v1 else if k < 8 then v2 else if k < 12 then v3 else if k < 16 then v4 else v5
section APP
variable {Y : XY} {B : Nat} {N : XN}
theorem K_append (h0 : gp Y B 0 = B + 1) {n : Nat} {v1 v2 v3 v4 v5 : Int32} (h1 : gi N B 1 = nI n) (hn : n + 20 ≤ 700) : f_X7_append Y B v1 v2 v3 v4 v5 N = some (nI (n + 20), apF (B + 1) B 1 (fun k => bC (wdF v1 v2 v3 v4 v5 k) (nI (24 - 8 * (k % 4)))) n 20 0 N) := by
  obtain ⟨f, hf⟩ : ∃ f, (fun k => bC (wdF v1 v2 v3 v4 v5 k) (nI (24 - 8 * (k % 4)))) = f := ⟨_, rfl⟩
  have hf' : ∀ k, f k = bC (wdF v1 v2 v3 v4 v5 k) (nI (24 - 8 * (k % 4))) := fun k => by rw [← hf]
  have put : ∀ (q : Nat) (v : Int32) (M : XN), q < 5 → (∀ j, j < 4 → wdF v1 v2 v3 v4 v5 (4 * q + j) = v) → gi M B 1 = nI (n + 4 * q) → f_X7_putBytes Y B v M = some (apF (B + 1) B 1 f n 4 (4 * q) M) ∧ gi (apF (B + 1) B 1 f n 4 (4 * q) M) B 1 = nI (n + 4 * (q + 1)) := by
    intro q v M hq hv hM
    have a := K_put (Y := Y) (B := B) h0 (n := n) (q := q) (v := v) (f := f) (fun j hj => by rw [hf', hv j hj, show (4 * q + j) % 4 = j by omega]) (by omega) 4 0 FU M (by omega) (by unfold FU; omega) (by rw [hM, Nat.add_zero])
    rw [Nat.add_zero] at a
    refine ⟨a, ?_⟩
    rw [(apF_at (s := 1) (show B + 1 ≠ B by omega) f n 4 (4 * q) M).2.2.2.2 hM]
    congr 1
  rw [hf]
  obtain ⟨p1, g1⟩ := put 0 v1 N (by omega) (fun j hj => by unfold wdF; rw [if_pos (by omega)]) h1
  obtain ⟨p2, g2⟩ := put 1 v2 _ (by omega) (fun j hj => by unfold wdF; rw [if_neg (by omega), if_pos (by omega)]) g1
  obtain ⟨p3, g3⟩ := put 2 v3 _ (by omega) (fun j hj => by unfold wdF; rw [if_neg (by omega), if_neg (by omega), if_pos (by omega)]) g2
  obtain ⟨p4, g4⟩ := put 3 v4 _ (by omega) (fun j hj => by unfold wdF; rw [if_neg (by omega), if_neg (by omega), if_neg (by omega), if_pos (by omega)]) g3
  obtain ⟨p5, g5⟩ := put 4 v5 _ (by omega) (fun j hj => by unfold wdF; rw [if_neg (by omega), if_neg (by omega), if_neg (by omega), if_neg (by omega)]) g4
  have e : apF (B + 1) B 1 f n 20 0 N = apF (B + 1) B 1 f n 4 (4 * 4) (apF (B + 1) B 1 f n 4 (4 * 3) (apF (B + 1) B 1 f n 4 (4 * 2) (apF (B + 1) B 1 f n 4 (4 * 1) (apF (B + 1) B 1 f n 4 (4 * 0) N)))) := by
    rw [show 20 = 4 + (4 + (4 + (4 + 4))) from rfl, apF_add, apF_add, apF_add, apF_add]
  rw [e]
  have hle : (nI n ≤ nI 680) = True := eq_true (nI_le (by omega) (by omega))
  unfold f_X7_append
  simp only [nI_lit, h1, hle, if_true, p1, p2, p3, p4, p5, bd_some, g5]
end APP
/-! THE TEXT THAT THE LAW WRITES -/
def gd (bs : List Nat) (j : Nat) : Nat := bs.getD j 0
theorem gd_ge {bs : List Nat} {j : Nat} (h : bs.length ≤ j) : gd bs j = 0 := by
  unfold gd
  rw [List.getD_eq_getElem?_getD, List.getElem?_eq_none h]
  rfl
theorem gd_app {bs : List Nat} {b j : Nat} : gd (bs ++ [b]) j = if j = bs.length then b else gd bs j := by
  unfold gd
  rw [List.getD_eq_getElem?_getD, List.getD_eq_getElem?_getD]
  by_cases h : j < bs.length
  · rw [if_neg (by omega), List.getElem?_append_left h]
  · rw [List.getElem?_append_right (by omega)]
    by_cases e : j = bs.length
    · rw [if_pos e, e, Nat.sub_self]; rfl
    · rw [if_neg e, List.getElem?_eq_none (by simp; omega), List.getElem?_eq_none (by omega)]
def PK (bs : List Nat) (o : Nat) : Nat := gd bs o * 16777216 + gd bs (o + 1) * 65536 + gd bs (o + 2) * 256 + gd bs (o + 3)
def lo20 (c : Nat) : Nat := 20 * (c / 20)
/-- the bytes bs have been written: those of whole twenties are the object's, the others wait -/
def TXT (N : XN) (B bf : Nat) (bs : List Nat) : Prop := bs.length ≤ 660 ∧ (∀ j, gd bs j < 128) ∧ gi N bf 0 = nI bs.length ∧ gi N B 1 = nI (lo20 bs.length) ∧ (∀ j, j < lo20 bs.length → gi N (B + 1) j = nI (gd bs j)) ∧ ∀ w, w < 5 → gi N bf (1 + w) = nI (PK bs (lo20 bs.length + 4 * w))
def FT (B bf : Nat) (N N' : XN) : Prop := (∀ a, a ≠ bf → a ≠ B → a ≠ B + 1 → N'.1 a = N.1 a) ∧ ∀ j, j ≠ 1 → gi N' B j = gi N B j
theorem FT.rfl' {B bf : Nat} {N : XN} : FT B bf N N := ⟨fun _ _ _ _ => rfl, fun _ _ => rfl⟩
theorem FT.trans {B bf : Nat} {N N' N'' : XN} (h : FT B bf N N') (h' : FT B bf N' N'') : FT B bf N N'' := ⟨fun a h1 h2 h3 => (h'.1 a h1 h2 h3).trans (h.1 a h1 h2 h3), fun j hj => (h'.2 j hj).trans (h.2 j hj)⟩
theorem or_add {x y i a : Nat} (hx : x = 2 ^ i * a) (hy : y < 2 ^ i) (h : x + y < 2 ^ 31) : nI x ||| nI y = nI (x + y) := by
  refine Int32.toBitVec_inj.mp (BitVec.eq_of_toNat_eq ?_)
  rw [Int32.toBitVec_or, BitVec.toNat_or, pk_tn (by omega), pk_tn (by omega), pk_tn (by omega), hx, Nat.two_pow_add_eq_or_of_lt hy]
theorem low8 {m : Nat} (h : m < 2 ^ 31) (h2 : m % 256 < 128) : (nI m).toInt8.toInt32 = nI (m % 256) := by
  refine Int32.toInt_inj.mp ?_
  rw [Int8.toInt_toInt32, Int32.toInt_toInt8, nI_toInt h, nI_toInt (by omega)]
  unfold Int.bmod
  have e : ((2 ^ 8 : Nat) : Int) = 256 := by decide
  rw [e]
  dsimp only
  split <;> omega
theorem bC_at {x k s : Nat} {z : Int32} (hz : z = nI s) (hs : (((nI s).toUInt32 &&& Int32.toUInt32 31).toBitVec % 32).toNat = k) (h : x < 2 ^ 31) (h2 : x / 2 ^ k % 256 < 128) : bC (nI x) z = nI (x / 2 ^ k % 256) := by
  unfold bC
  rw [hz, pk_ushrN (by omega) _ k hs]
  have : x / 2 ^ k ≤ x := Nat.div_le_self _ _
  exact low8 (by omega) h2
theorem PK_lt {bs : List Nat} {o : Nat} (h : ∀ j, gd bs j < 128) : PK bs o < 2 ^ 31 := by
  have h0 := h o
  have h1 := h (o + 1)
  have h2 := h (o + 2)
  have h3 := h (o + 3)
  unfold PK
  omega
theorem bC_PK {bs : List Nat} {o j : Nat} (h : ∀ j, gd bs j < 128) (hj : j < 4) : bC (nI (PK bs o)) (nI (24 - 8 * j)) = nI (gd bs (o + j)) := by
  have h0 := h o
  have h1 := h (o + 1)
  have h2 := h (o + 2)
  have h3 := h (o + 3)
  have hp := PK_lt (o := o) h
  have e : PK bs o = gd bs o * 16777216 + gd bs (o + 1) * 65536 + gd bs (o + 2) * 256 + gd bs (o + 3) := rfl
  rcases (by omega : j = 0 ∨ j = 1 ∨ j = 2 ∨ j = 3) with rfl | rfl | rfl | rfl
  · have v : PK bs o / 2 ^ 24 % 256 = gd bs (o + 0) := by rw [e]; show _ = gd bs o; omega
    rw [bC_at (k := 24) rfl (by decide) hp (by rw [v]; exact h _), v]
  · have v : PK bs o / 2 ^ 16 % 256 = gd bs (o + 1) := by rw [e]; omega
    rw [bC_at (k := 16) rfl (by decide) hp (by rw [v]; exact h _), v]
  · have v : PK bs o / 2 ^ 8 % 256 = gd bs (o + 2) := by rw [e]; omega
    rw [bC_at (k := 8) rfl (by decide) hp (by rw [v]; exact h _), v]
  · have v : PK bs o / 2 ^ 0 % 256 = gd bs (o + 3) := by rw [e]; omega
    rw [bC_at (k := 0) rfl (by decide) hp (by rw [v]; exact h _), v]
/-- the same character, a place further -/
theorem PK_put {bs : List Nat} {b o t : Nat} (ht : t < 4) (ho : o + t = bs.length) : PK (bs ++ [b]) o = PK bs o + b * 2 ^ (24 - 8 * t) ∧ ∃ a, PK bs o = 2 ^ (32 - 8 * t) * a := by
  have z : ∀ j, bs.length ≤ j → gd bs j = 0 := fun j hj => gd_ge hj
  unfold PK
  rw [gd_app, gd_app, gd_app, gd_app]
  rcases (by omega : t = 0 ∨ t = 1 ∨ t = 2 ∨ t = 3) with rfl | rfl | rfl | rfl
  · rw [if_pos (by omega), if_neg (by omega), if_neg (by omega), if_neg (by omega), z o (by omega), z (o + 1) (by omega), z (o + 2) (by omega), z (o + 3) (by omega)]
    exact ⟨by omega, 0, rfl⟩
  · rw [if_neg (by omega), if_pos (by omega), if_neg (by omega), if_neg (by omega), z (o + 1) (by omega), z (o + 2) (by omega), z (o + 3) (by omega)]
    exact ⟨by omega, gd bs o, by omega⟩
  · rw [if_neg (by omega), if_neg (by omega), if_pos (by omega), if_neg (by omega), z (o + 2) (by omega), z (o + 3) (by omega)]
    exact ⟨by omega, gd bs o * 256 + gd bs (o + 1), by omega⟩
  · rw [if_neg (by omega), if_neg (by omega), if_neg (by omega), if_pos (by omega), z (o + 3) (by omega)]
    exact ⟨by omega, gd bs o * 65536 + gd bs (o + 1) * 256 + gd bs (o + 2), by omega⟩
theorem PK_far {bs : List Nat} {b o : Nat} (h : bs.length < o ∨ o + 4 ≤ bs.length) : PK (bs ++ [b]) o = PK bs o := by
  unfold PK
  rw [gd_app, gd_app, gd_app, gd_app, if_neg (by omega), if_neg (by omega), if_neg (by omega), if_neg (by omega)]
theorem PK_end {bs : List Nat} {o : Nat} (h : bs.length ≤ o) : PK bs o = 0 := by
  unfold PK
  rw [gd_ge h, gd_ge (by omega), gd_ge (by omega), gd_ge (by omega)]
section TX
variable {Y : XY} {B bf : Nat} {N : XN} {bs : List Nat}
/-- the words go to the object -/
theorem T_flush (h0 : gp Y B 0 = B + 1) (kb : kc Y bf = 1 ∧ kn Y bf = 8) (kB : kc Y B = 17) (nb : bf ≠ B ∧ bf ≠ B + 1) {o : Nat} (ho : o + 20 ≤ 700) (hb : ∀ j, gd bs j < 128) (h1 : gi N B 1 = nI o) (hp : ∀ j, j < o → gi N (B + 1) j = nI (gd bs j)) (hw : ∀ w, w < 5 → gi N bf (1 + w) = nI (PK bs (o + 4 * w))) : ∃ N', f_L_flush Y B bf N = some N' ∧ gi N' B 1 = nI (o + 20) ∧ (∀ j, j < o + 20 → gi N' (B + 1) j = nI (gd bs j)) ∧ (∀ w, w < 5 → gi N' bf (1 + w) = nI 0) ∧ gi N' bf 0 = gi N bf 0 ∧ FT B bf N N' := by
  have K := K_append (Y := Y) (N := N) h0 (v1 := gi N bf 1) (v2 := gi N bf 2) (v3 := gi N bf 3) (v4 := gi N bf 4) (v5 := gi N bf 5) h1 ho
  obtain ⟨f, hf⟩ : ∃ f, (fun k => bC (wdF (gi N bf 1) (gi N bf 2) (gi N bf 3) (gi N bf 4) (gi N bf 5) k) (nI (24 - 8 * (k % 4)))) = f := ⟨_, rfl⟩
  rw [hf] at K
  have hf' : ∀ k, k < 20 → f k = nI (gd bs (o + k)) := fun k hk => by
    have w0 := hw 0 (by omega)
    have w1 := hw 1 (by omega)
    have w2 := hw 2 (by omega)
    have w3 := hw 3 (by omega)
    have w4 := hw 4 (by omega)
    have key : wdF (gi N bf 1) (gi N bf 2) (gi N bf 3) (gi N bf 4) (gi N bf 5) k = nI (PK bs (o + 4 * (k / 4))) := by
      unfold wdF
      rcases (by omega : k / 4 = 0 ∨ k / 4 = 1 ∨ k / 4 = 2 ∨ k / 4 = 3 ∨ k / 4 = 4) with e | e | e | e | e <;> rw [e]
      · rw [if_pos (by omega)]; exact w0
      · rw [if_neg (by omega), if_pos (by omega)]; exact w1
      · rw [if_neg (by omega), if_neg (by omega), if_pos (by omega)]; exact w2
      · rw [if_neg (by omega), if_neg (by omega), if_neg (by omega), if_pos (by omega)]; exact w3
      · rw [if_neg (by omega), if_neg (by omega), if_neg (by omega), if_neg (by omega)]; exact w4
    rw [← hf]
    show bC (wdF (gi N bf 1) (gi N bf 2) (gi N bf 3) (gi N bf 4) (gi N bf 5) k) (nI (24 - 8 * (k % 4))) = _
    rw [key, bC_PK hb (by omega), show o + 4 * (k / 4) + k % 4 = o + k by omega]
  obtain ⟨a1, a2, a3, a4, a5⟩ := apF_at (s := 1) (show B + 1 ≠ B by omega) f o 20 0 N
  obtain ⟨N1, hN1⟩ : ∃ N1, apF (B + 1) B 1 f o 20 0 N = N1 := ⟨_, rfl⟩
  rw [hN1] at K a1 a2 a3 a4 a5
  have fl : ∀ (z w D9 : Nat) (M : XN), w + z = 5 → z < D9 → f_L_flush_22 Y D9 bf (nI (1 + w)) M = some ((fun b j => if b = bf ∧ 1 + w ≤ j ∧ j < 6 then nI 0 else M.1 b j), M.2) := by
    intro z
    induction z with
    | zero =>
      intro w D9 M hw9 hD
      obtain ⟨D8, rfl⟩ : ∃ z, D9 = z + 1 := ⟨D9 - 1, by omega⟩
      have e : ((fun b j => if b = bf ∧ 1 + w ≤ j ∧ j < 6 then nI 0 else M.1 b j), M.2) = M := by
        refine Prod.ext ?_ rfl
        funext b j
        exact if_neg (by omega)
      rw [f_L_flush_22, e]
      simp (disch := omega) only [nI_lit, ↓reduceIte, pLEt, pLEf, pLTt, pLTf, pEQf, pML, pMG, pMf, pMg]
    | succ z ih =>
      intro w D9 M hw9 hD
      obtain ⟨D8, rfl⟩ : ∃ z, D9 = z + 1 := ⟨D9 - 1, by omega⟩
      have IH := ih (w + 1) D8 (si M bf (1 + w) (nI 0)) (by omega) (by omega)
      have e : ((fun b j => if b = bf ∧ 1 + (w + 1) ≤ j ∧ j < 6 then nI 0 else (si M bf (1 + w) (nI 0)).1 b j), (si M bf (1 + w) (nI 0)).2) = ((fun b j => if b = bf ∧ 1 + w ≤ j ∧ j < 6 then nI 0 else M.1 b j), M.2) := by
        refine Prod.ext ?_ rfl
        funext b j
        show (if b = bf ∧ 1 + (w + 1) ≤ j ∧ j < 6 then nI 0 else if b = bf ∧ j = 1 + w then nI 0 else M.1 b j) = if b = bf ∧ 1 + w ≤ j ∧ j < 6 then nI 0 else M.1 b j
        by_cases c1 : b = bf ∧ 1 + (w + 1) ≤ j ∧ j < 6
        · rw [if_pos c1, if_pos ⟨c1.1, by omega, c1.2.2⟩]
        · rw [if_neg c1]
          by_cases c2 : b = bf ∧ j = 1 + w
          · rw [if_pos c2, if_pos ⟨c2.1, by omega, by omega⟩]
          · rw [if_neg c2, if_neg (fun z => by
              rcases Nat.lt_or_ge (1 + w) j with c | c
              · exact c1 ⟨z.1, by omega, z.2.2⟩
              · exact c2 ⟨z.1, by omega⟩)]
      rw [e] at IH
      rw [f_L_flush_22]
      simp (disch := omega) only [↓ck, ↓lt_eq, nI_lit, nI_clamp, nI_add, xb_nI, ↓reduceIte, pLEt, pLEf, pLTt, pLTf, pEQf, pML, pMG, pMf, pMg, kb.1, kb.2]
      rw [show 1 + w + 1 = 1 + (w + 1) by omega]
      exact IH
  have fl0 := fl 5 0 FU N1 (by omega) (by unfold FU; omega)
  refine ⟨(fun b j => if b = bf ∧ 1 + 0 ≤ j ∧ j < 6 then nI 0 else N1.1 b j, N1.2), ?_, ?_, fun j hj => ?_, fun w hw5 => ?_, ?_, fun a q1 q2 q3 => ?_, fun j hj => ?_⟩
  · unfold f_L_flush
    simp (disch := omega) only [↓ck, ↓lt_eq, nI_lit, xb_nI, ↓reduceIte, pLEt, pLEf, pLTt, pLTf, pEQf, pML, pMG, pMf, pMg, ↓bd_ite, ↓bd2_ite, ↓bd3_ite, ↓bd4_ite, Option.isSome_some, Option.getD_some, kb.1, kb.2, kB, K]
    exact fl0
  · show (if B = bf ∧ 1 + 0 ≤ 1 ∧ 1 < 6 then nI 0 else N1.1 B 1) = _
    rw [if_neg (fun z => nb.1 z.1.symm)]
    exact (a5 (by rw [Nat.add_zero]; exact h1)).trans (by rw [Nat.add_zero])
  · show (if B + 1 = bf ∧ 1 + 0 ≤ j ∧ j < 6 then nI 0 else N1.1 (B + 1) j) = _
    rw [if_neg (fun z => nb.2 z.1.symm)]
    refine (a3 j).trans ?_
    by_cases c : j < o
    · rw [if_neg (by omega)]; exact hp j c
    · rw [if_pos (by omega), hf' _ (by omega), show o + (j - o) = j by omega]
  · show (if bf = bf ∧ 1 + 0 ≤ 1 + w ∧ 1 + w < 6 then nI 0 else N1.1 bf (1 + w)) = _
    rw [if_pos ⟨rfl, by omega, by omega⟩]
  · show (if bf = bf ∧ 1 + 0 ≤ 0 ∧ 0 < 6 then nI 0 else N1.1 bf 0) = _
    rw [if_neg (by omega), a2 bf nb.2 nb.1]
    rfl
  · funext j
    show (if a = bf ∧ 1 + 0 ≤ j ∧ j < 6 then nI 0 else N1.1 a j) = _
    rw [if_neg (fun z => q1 z.1), a2 a q3 q2]
  · show (if B = bf ∧ 1 + 0 ≤ j ∧ j < 6 then nI 0 else N1.1 B j) = _
    rw [if_neg (fun z => nb.1 z.1.symm)]
    exact a4 j hj
theorem T_put (h0 : gp Y B 0 = B + 1) (kb : kc Y bf = 1 ∧ kn Y bf = 8) (kB : kc Y B = 17) (nb : bf ≠ B ∧ bf ≠ B + 1) (h : TXT N B bf bs) {b : Nat} (hb : b < 128) (hl : bs.length + 1 ≤ 660) : ∃ N', f_L_put Y B bf (nI b) N = some N' ∧ TXT N' B bf (bs ++ [b]) ∧ FT B bf N N' := by
  obtain ⟨t1, t2, t3, t4, t5, t6⟩ := h
  obtain ⟨c, hc⟩ : ∃ c, c = bs.length := ⟨_, rfl⟩
  rw [← hc] at t1 t3 t4 t5 t6 hl
  have t2' : ∀ j, gd (bs ++ [b]) j < 128 := fun j => by
    rw [gd_app]
    split
    · exact hb
    · exact t2 j
  have hlen : (bs ++ [b]).length = c + 1 := by rw [List.length_append, ← hc]; rfl
  obtain ⟨r, hr⟩ : ∃ r, r = c % 20 := ⟨_, rfl⟩
  have hlo : lo20 c + r = c := by unfold lo20; omega
  have e1 : nI 1 + (nI c - nI c / nI 20 * nI 20) / nI 4 = nI (1 + r / 4) := by
    rw [pk_rem (by omega) (by omega) (by omega), pk_div (by omega) (by omega) (by omega), nI_add, hr]
  obtain ⟨w, hw⟩ : ∃ w, w = r / 4 := ⟨_, rfl⟩
  obtain ⟨t, ht⟩ : ∃ t, t = r % 4 := ⟨_, rfl⟩
  have hct : c % 4 = t := by unfold lo20 at hlo; omega
  have e2 : (nI 24 - nI 8 * (nI c - nI c / nI 4 * nI 4)) &&& nI 31 = nI (24 - 8 * t) := by
    rw [pk_rem (by omega) (by omega) (by omega), hct, pk_mul, nI_sub (by omega), pk_andN (by omega) 5 (by decide)]
    congr 1
    omega
  have e3 : nI b <<< nI (24 - 8 * t) = nI (b * 2 ^ (24 - 8 * t)) := by
    rcases (by omega : t = 0 ∨ t = 1 ∨ t = 2 ∨ t = 3) with e | e | e | e <;> rw [e]
    · exact pk_shlN _ 24 (by decide) (by omega)
    · exact pk_shlN _ 16 (by decide) (by omega)
    · exact pk_shlN _ 8 (by decide) (by omega)
    · exact pk_shlN _ 0 (by decide) (by omega)
  obtain ⟨p1, a, p2⟩ := PK_put (bs := bs) (b := b) (o := lo20 c + 4 * w) (t := t) (by omega) (by omega)
  have hp3 : PK bs (lo20 c + 4 * w) + b * 2 ^ (24 - 8 * t) < 2 ^ 31 := by rw [← p1]; exact PK_lt t2'
  have e4 : nI (PK bs (lo20 c + 4 * w)) ||| nI (b * 2 ^ (24 - 8 * t)) = nI (PK (bs ++ [b]) (lo20 c + 4 * w)) := by
    rw [p1]
    refine or_add p2 ?_ hp3
    rcases (by omega : t = 0 ∨ t = 1 ∨ t = 2 ∨ t = 3) with e | e | e | e <;> rw [e] <;> omega
  have t6w := t6 w (by omega)
  -- the memory behind the two writings
  obtain ⟨N9, hN9⟩ : ∃ N9, N9 = si (si N bf (1 + w) (nI (PK (bs ++ [b]) (lo20 c + 4 * w)))) bf 0 (nI (c + 1)) := ⟨_, rfl⟩
  have n0' : gi N9 bf 0 = nI (c + 1) := by rw [hN9, gi_si]
  have nw : ∀ v, v < 5 → gi N9 bf (1 + v) = nI (PK (bs ++ [b]) (lo20 c + 4 * v)) := fun v hv => by
    rw [hN9, gi_si_n (Or.inr (by omega))]
    by_cases e : v = w
    · rw [e, gi_si]
    · rw [gi_si_n (Or.inr (by omega)), t6 v hv, PK_far (by omega)]
  have nB : ∀ j, gi N9 B j = gi N B j := fun j => by rw [hN9, gi_si_n (Or.inl (Ne.symm nb.1)), gi_si_n (Or.inl (Ne.symm nb.1))]
  have nA : ∀ j, gi N9 (B + 1) j = gi N (B + 1) j := fun j => by rw [hN9, gi_si_n (Or.inl (Ne.symm nb.2)), gi_si_n (Or.inl (Ne.symm nb.2))]
  have f9 : FT B bf N N9 := ⟨fun x q1 _ _ => by rw [hN9, si_row q1, si_row q1], fun j _ => nB j⟩
  have nP : ∀ j, j < lo20 c → gi N9 (B + 1) j = nI (gd (bs ++ [b]) j) := fun j hj => by
    rw [nA, t5 j hj, gd_app, if_neg (by omega)]
  have e9 : nI (c + 1) - nI (c + 1) / nI 20 * nI 20 = nI ((c + 1) % 20) := pk_rem (by omega) (by omega) (by omega)
  have g1 : gi (si N bf (1 + w) (nI (PK (bs ++ [b]) (lo20 c + 4 * w)))) bf 0 = nI c := by rw [gi_si_n (Or.inr (by omega))]; exact t3
  by_cases c20 : (c + 1) % 20 = 0
  · obtain ⟨N', a1, a2, a3, a4, a5, a6⟩ := T_flush (bs := bs ++ [b]) h0 kb kB nb (o := lo20 c) (by unfold lo20; omega) t2' ((nB 1).trans t4) nP nw
    have elo : lo20 (c + 1) = lo20 c + 20 := by unfold lo20; omega
    refine ⟨N', ?_, ⟨by omega, t2', by rw [hlen, a5, n0'], by rw [hlen, elo]; exact a2, fun j hj => a3 j (by rw [hlen, elo] at hj; exact hj), fun v hv => ?_⟩, f9.trans a6⟩
    · have c20' : (nI ((c + 1) % 20) = nI 0) = True := eq_true (by rw [c20])
      unfold f_L_put
      simp (disch := omega) only [↓ck, ↓lt_eq, nI_lit, nI_clamp, nI_add, xb_nI, ↓reduceIte, pLEt, pLEf, pLTt, pLTf, pEQf, pML, pMG, pMf, pMg, ↓bd_ite, ↓bd2_ite, ↓bd3_ite, ↓bd4_ite, Option.isSome_some, Option.getD_some, kb.1, kb.2, t3, e1, ← hw, e2, e3, t6w, e4, g1, ← hN9, n0', e9, c20', a1]
    · rw [a4 v hv, PK_end (by rw [hlen, elo]; omega)]
  · have elo : lo20 (c + 1) = lo20 c := by unfold lo20; omega
    refine ⟨N9, ?_, ⟨by omega, t2', by rw [hlen]; exact n0', by rw [hlen, elo]; exact (nB 1).trans t4, fun j hj => nP j (by rw [hlen, elo] at hj; exact hj), fun v hv => by rw [hlen, elo]; exact nw v hv⟩, f9⟩
    unfold f_L_put
    simp (disch := omega) only [↓ck, ↓lt_eq, nI_lit, nI_clamp, nI_add, xb_nI, ↓reduceIte, pLEt, pLEf, pLTt, pLTf, pEQf, pML, pMG, pMf, pMg, ↓bd_ite, ↓bd2_ite, ↓bd3_ite, ↓bd4_ite, Option.isSome_some, Option.getD_some, kb.1, kb.2, t3, e1, ← hw, e2, e3, t6w, e4, g1, ← hN9, n0', e9]
end TX
