/-! THE CLASS READS STATEMENTS (first rows: of whole) -/
section VR0
variable {Y : XY} {N N2 : XN} {B T L w m a : Nat} {t : Nat → Nat} {c : Nat → Nat → Int32} {g h e : XD} {P : Nat → Int32} {ops : List Int32}
theorem KS_w : KS N B c g = sw (sd N (B + 6) g) (B + 97) c := by
  unfold KS sd sw
  refine Prod.ext ?_ rfl
  funext b j
  show (if b = B + 6 then g else fun j => if B + 97 ≤ b ∧ b < B + 97 + 90 then c (b - (B + 97)) j else N.1 b j) j = (if B + 97 ≤ b ∧ b < B + 97 + 90 then c (b - (B + 97)) j else (if b = B + 6 then g else N.1 b) j)
  by_cases q : b = B + 6
  · rw [if_pos q, if_neg (c := B + 97 ≤ b ∧ b < B + 97 + 90) (by omega), if_pos q]
  · rw [if_neg q, if_neg q]
theorem xz1 : xz (nI 1) = true := by decide
theorem QD.rule (hQ : QD P ops e c) {k j v : Nat} (hp : Wp k j) (hj : 5 ≤ j) (hv : j = 8 → 0 < v ∧ v ≤ 99) : QD P ops (upd e j (nI v)) (up2 c 0 k (nI v)) := by
  obtain ⟨hD, ⟨hC1, hC2, hC3⟩, h0, z1, z2, z3⟩ := hQ
  have b := hp.b
  have h6 := hD.H6
  have h8 := hD.L8
  have q1 : upd e j (nI v) 1 = e 1 := upd_n (by omega)
  have q2 : upd e j (nI v) 2 = e 2 := upd_n (by omega)
  have q3 : upd e j (nI v) 3 = e 3 := upd_n (by omega)
  have q0 : upd e j (nI v) 0 = e 0 := upd_n (by omega)
  have z3' : ∀ r, r < nR (upd e j (nI v)) → upd e j (nI v) (107 + 8 * r) = nI 0 := fun r hr => by
    rw [nR_same q3] at hr
    rw [upd_n (by omega)]; exact z3 r hr
  have hD' : DJ ops (upd e j (nI v)) := by
    obtain ⟨a1, a2, a3, a4, a5, a6, a7, a8, a9⟩ := hD
    unfold DJ
    rw [nH_same q1, nL_same q2, nR_same q3, tM_same q0, q0, q1, q2, q3]
    refine ⟨a1, a2, a3, a4, ?_, fun i hi => ?_, fun l hl => ?_, fun r hr => ?_, ?_⟩
    · by_cases q : j = 8
      · rw [q, upd_s]; exact ⟨v, (hv q).1, (hv q).2, rfl⟩
      · rw [upd_n (by omega)]; exact a5
    · rw [upd_n (by omega)]; exact a6 i hi
    · exact LN_same (fun k hk => upd_n (by omega)) (a7 l hl)
    · exact RQ_same (fun k hk => upd_n (by omega)) (a8 r hr)
    · exact MC_same (upd_n (by omega)) (fun i => upd_n (by omega)) a9
  refine ⟨hD', ⟨?_, hC2.up (by omega) (by omega), fun i hi => ?_⟩, ?_, fun j' a1 a2 => ?_, fun j' a1 a2 => ?_, z3'⟩
  · exact (hC1.upW h6 h8 hp).row q1 q2 q3 (fun l hl => upd_n (by omega))
  · rw [nH_same q1] at hi
    rw [held0 z3', up2_n _ _ (by omega), hC3 i hi, held0 z3]
  · rw [q0]; exact h0
  · rw [nH_same q1] at a1
    rw [upd_n (by omega)]; exact z1 j' a1 a2
  · rw [nL_same q2] at a1
    rw [upd_n (by omega)]; exact z2 j' a1 a2
theorem sub1_toInt {n : Nat} (h : n < 100) : (nI n - nI 1).toInt = (n : Int) - 1 := by
  rw [pk_sub_toInt (by omega) (by omega)]
  rfl
theorem gi_KSw {o : Nat} (k : Nat) (ho : o < 90) : gi (KS N B c g) (B + 97 + o) k = c o k := by rw [KS_w, gi_sw _ _ _ _ ho]
theorem gi_KSw0 (k : Nat) : gi (KS N B c g) (B + 97) k = c 0 k := by rw [KS_w, gi_sw0]
theorem si_KSw0 (k : Nat) (v : Int32) : si (KS N B c g) (B + 97) k v = KS N B (up2 c 0 k v) g := by rw [KS_w, si_sw0, ← KS_w]
end VR0
theorem bitsV : ∀ b, b < 6 → ∀ x, x < 2 ^ b → (nI (16384 * x) &&& (nI 1 <<< (nI (14 + b) &&& nI 31))) = nI 0 ∧ (nI (16384 * x) ||| (nI 1 <<< (nI (14 + b) &&& nI 31))) = nI (16384 * (x + 2 ^ b)) := by decide +kernel
section VR
variable {Y : XY} {N : XN} {B T L a : Nat} {t : Nat → Nat} {c : Nat → Nat → Int32} {g e : XD} {P : Nat → Int32} {ops : List Int32} {ts : List (Nat × Nat)}
theorem V_kind (hR : RD Y B) (hT : TK9 N B T L t) (ha : a ≤ T) (h4 : g 4 = nI a) {k n : Nat} (hs : TSQ t L (tS t L a) ((k, n) :: ts)) : f_X4_kind Y (B + 6) (KS N B c g) = some (nI k) := by
  rw [K_kind hR hT ha h4, hs.1.2.1]
theorem V_take (hR : RD Y B) (hT : TK9 N B T L t) (ha : a ≤ T) (h4 : g 4 = nI a) {k n : Nat} (hk : k < 24) (hs : TSQ t L (tS t L a) ((k, n) :: ts)) : f_X4_takes Y (B + 6) (nI k) (KS N B c g) = some (nI 1, KS N B c (upd g 4 (nI (a + 1)))) := by
  rw [K_takes hR hT ha h4 hk, if_pos hs.1.2.1]
theorem V_num (hR : RD Y B) (hT : TK9 N B T L t) (ha : a ≤ T) (h4 : g 4 = nI a) {n x : Nat} {y : Int32} (hs : TSQ t L (tS t L a) ((2, n) :: ts)) (hx : x ≤ n) (hx9 : x ≤ 9999) (hy : (n : Int) ≤ y.toInt) (hy9 : y.toInt ≤ 9999) : ∃ g', f_X4_readsNumber Y (B + 6) (nI x) y (KS N B c g) = some (nI 1, KS N B c g') ∧ g' 4 = nI (a + 1) ∧ g' 5 = nI n ∧ g' 6 = g 6 := by
  have k2 := hs.1.2.1
  have v := hs.1.2.2 rfl
  refine ⟨upd (upd g 5 (nI n)) 4 (nI (a + 1)), ?_, upd_s _ _ _, by rw [upd_n (by omega), upd_s], by rw [upd_n (by omega), upd_n (by omega)]⟩
  rw [K_readsNumber hR hT ha h4 hx9 hy9, if_pos k2, v, if_pos]
  unfold inR
  exact decide_eq_true ⟨hx, hy⟩
theorem V_handler (hR : RD Y B) (hT : TK9 N B T L t) (hQ : QD P ops e c) (ha : a ≤ T) (h4 : g 4 = nI a) (q : nH e < 6) {x y : Nat} (hx : x ≤ 9999) (hy : 1 ≤ y ∧ y ≤ 20) (hs : TSQ t L (tS t L a) ((11, 0) :: (2, x) :: (2, y) :: ts)) : ∃ c' g', f_X4_readsHandler Y (B + 6) (KS N B c g) = some (nI 1, KS N B c' g') ∧ a + 3 ≤ T ∧ g' 4 = nI (a + 3) ∧ g' 6 = g 6 ∧ TSQ t L (tS t L (a + 3)) ts ∧ QD P ops (eHd e (nI x) (nI y)) c' := by
  obtain ⟨r1, r2, r3, r4, r5, hY⟩ := id hR
  have hD := hQ.1
  have hc1 : c 0 1 = nI (nH e) := (hQ.2.1.1.1 1 1 (by unfold Wp; decide)).trans hD.H
  obtain ⟨a1, -, -, s1⟩ := hs.hd hT ha (by decide)
  obtain ⟨a2, -, -, s2⟩ := s1.hd hT a1 (by decide)
  obtain ⟨a3, -, -, s3⟩ := s2.hd hT a2 (by decide)
  obtain ⟨g2, m2, p4, p5, p6⟩ := V_num (c := c) (g := upd g 4 (nI (a + 1))) (y := nI 9999) hR hT a1 (upd_s _ _ _) s1 (Nat.zero_le _) (by omega) (by rw [nI_toInt (by omega)]; omega) (by decide)
  obtain ⟨g3, m3, q4, q5, q6⟩ := V_num (c := c) (g := g2) (x := 1) (y := nI 20) hR hT a2 p4 s2 hy.1 (by omega) (by rw [nI_toInt (by omega)]; omega) (by decide)
  obtain ⟨c', f1, f2⟩ := C_addHandler (N := sd N (B + 6) g3) hY hQ q (x := nI x) (y := nI y)
  rw [← KS_w, ← KS_w] at f1
  refine ⟨c', g3, ?_, a3, q4, q6.trans (p6.trans (upd_n (by omega))), s3, f2⟩
  unfold f_X4_readsHandler
  simp (disch := omega) only [↓lt_eq, nI_lit, r2, gi_KSw0, hc1, ↓reduceIte, pLEt, pLEf, pLTt, pLTf, pEQf, pML, pMG, pMf, pMg, gi_KS, h4, nI_add, si_KS, m2, bd2_some, nz10, m3, p5, q5, f1, bd_some]
theorem V_raise (hR : RD Y B) (hT : TK9 N B T L t) (hQ : QD P ops e c) (ha : a ≤ T) (h4 : g 4 = nI a) (q : nR e < 60) {l x k : Nat} (hl : l < nL e) (hx : x ≤ 999) (hk : 1 ≤ k ∧ k ≤ 99) (hs : TSQ t L (tS t L a) ((13, 0) :: (2, l) :: (2, x) :: (2, k) :: ts)) : ∃ c' g', f_X4_readsRaise Y (B + 6) (KS N B c g) = some (nI 1, KS N B c' g') ∧ a + 4 ≤ T ∧ g' 4 = nI (a + 4) ∧ g' 6 = g 6 ∧ TSQ t L (tS t L (a + 4)) ts ∧ QD P ops (sPut e (nI l) (nI x) (nI k)) c' := by
  obtain ⟨r1, r2, r3, r4, r5, hY⟩ := id hR
  have hD := hQ.1
  have h8 := hD.L8
  have hc5 : c 0 5 = nI (nR e) := (hQ.2.1.1.1 5 3 (by unfold Wp; decide)).trans hD.R
  have hc3 : c 0 3 = nI (nL e) := (hQ.2.1.1.1 3 2 (by unfold Wp; decide)).trans hD.L
  have yb : (nI (nL e) - nI 1).toInt = (nL e : Int) - 1 := sub1_toInt (by omega)
  obtain ⟨a1, -, -, s1⟩ := hs.hd hT ha (by decide)
  obtain ⟨a2, -, -, s2⟩ := s1.hd hT a1 (by decide)
  obtain ⟨a3, -, -, s3⟩ := s2.hd hT a2 (by decide)
  obtain ⟨a4, -, -, s4⟩ := s3.hd hT a3 (by decide)
  obtain ⟨g2, m2, p4, p5, p6⟩ := V_num (c := c) (g := upd g 4 (nI (a + 1))) (y := nI (nL e) - nI 1) hR hT a1 (upd_s _ _ _) s1 (Nat.zero_le _) (by omega) (by omega) (by omega)
  obtain ⟨g3, m3, q4, q5, q6⟩ := V_num (c := c) (g := g2) (y := nI 999) hR hT a2 p4 s2 (Nat.zero_le _) (by omega) (by rw [nI_toInt (by omega)]; omega) (by decide)
  obtain ⟨g4, m4, u4, u5, u6⟩ := V_num (c := c) (g := g3) (x := 1) (y := nI 99) hR hT a3 q4 s3 hk.1 (by omega) (by rw [nI_toInt (by omega)]; omega) (by decide)
  obtain ⟨c', f1, f2⟩ := C_addReq (N := sd N (B + 6) g4) hY hQ (l := l) (k := k) (x := nI x) hl hk.2 q
  rw [← KS_w, ← KS_w] at f1
  refine ⟨c', g4, ?_, a4, u4, u6.trans (q6.trans (p6.trans (upd_n (by omega)))), s4, f2⟩
  unfold f_X4_readsRaise
  simp (disch := omega) only [↓lt_eq, nI_lit, r2, gi_KSw0, hc5, hc3, ↓reduceIte, pLEt, pLEf, pLTt, pLTf, pEQf, pML, pMG, pMf, pMg, gi_KS, h4, nI_add, si_KS, m2, bd2_some, nz10, m3, m4, p5, q5, u5, f1, bd_some]
/-- a line's tenants, one after another -/
def eTn (e : XD) (l : Nat) : List Nat → XD
  | [] => e
  | x :: r => eTn (sAddT e x l) l r
def TV (e : XD) (l : Nat) : List Nat → Prop
  | [] => True
  | x :: r => (x < nH e ∧ nT e l < 3 ∧ sTP e l (nI x) = none) ∧ TV (sAddT e x l) l r
theorem V_tenants (hR : RD Y B) (hT : TK9 N B T L t) {l : Nat} (hl : l < 8) : ∀ (xs : List Nat) (a v5 D9 : Nat) (g e : XD) (c : Nat → Nat → Int32), xs.length < D9 → v5 + xs.length < 700 → QD P ops e c → l < nL e → TV e l xs → a ≤ T → g 4 = nI a → TSQ t L (tS t L a) (xs.map (fun x => (2, x)) ++ (3, 0) :: ts) → ∃ c' g', f_X4_readsLine_111 Y D9 (B + 6) (B + 97 + (14 + 2 * l)) (nI 1) (nI v5) (KS N B c g) = some (nI 1, KS N B c' g') ∧ a + xs.length ≤ T ∧ g' 4 = nI (a + xs.length) ∧ g' 6 = g 6 ∧ TSQ t L (tS t L (a + xs.length)) ((3, 0) :: ts) ∧ QD P ops (eTn e l xs) c' := by
  obtain ⟨r1, r2, r3, r4, r5, hY⟩ := id hR
  intro xs
  induction xs with
  | nil =>
    intro a v5 D9 g e c hD9 hv hQ hle _ ha h4 hs
    obtain ⟨D8, rfl⟩ : ∃ z, D9 = z + 1 := ⟨D9 - 1, by omega⟩
    have kd := V_kind (c := c) hR hT ha h4 hs
    have hv' : v5 + 0 < 700 := hv
    refine ⟨c, g, ?_, ha, h4, rfl, hs, hQ⟩
    rw [f_X4_readsLine_111]
    simp (disch := omega) only [nI_lit, ↓reduceIte, pLEt, pLEf, pLTt, pLTf, pEQf, pML, pMG, pMf, pMg, nz10, kd, bd_some, xz1]
  | cons x xs ih =>
    intro a v5 D9 g e c hD9 hv hQ hle hTV ha h4 hs
    obtain ⟨D8, rfl⟩ : ∃ z, D9 = z + 1 := ⟨D9 - 1, by omega⟩
    obtain ⟨⟨v1, v2, v3⟩, hTV2⟩ := hTV
    have lc : (x :: xs).length = xs.length + 1 := rfl
    rw [lc] at hD9 hv
    have hD := hQ.1
    have h6 := hD.H6
    have h8 := hD.L8
    have kd := V_kind (c := c) hR hT ha h4 hs
    obtain ⟨a1, -, -, s1⟩ := hs.hd hT ha (by decide)
    have hc1 : c 0 1 = nI (nH e) := (hQ.2.1.1.1 1 1 (by unfold Wp; decide)).trans hD.H
    obtain ⟨t1, t2, -, -⟩ := hD.ln l hle
    have hc4 : c (14 + 2 * l) 4 = nI (nT e l) := (hQ.2.1.1.2.2.1 l 4 51 hle (by unfold Lp; decide)).trans t1
    have yb : (nI (nH e) - nI 1).toInt = (nH e : Int) - 1 := sub1_toInt (by omega)
    obtain ⟨g2, m2, p4, p5, p6⟩ := V_num (c := c) (g := g) (y := nI (nH e) - nI 1) hR hT ha h4 hs (Nat.zero_le _) (by omega) (by omega) (by omega)
    have cp := C_placeOf (N := sd N (B + 6) g2) hY hQ.2.1.1 (l := l) (h := nI x) hle h8 t1 (Nat.le_refl _) t2
    rw [← KS_w] at cp
    obtain ⟨pi1, -, pi3⟩ := pI_neg (sTP e l (nI x)) (fun k => sTP_lt k)
    have ck : f_X2_addTenant Y (B + 97 + (14 + 2 * l)) (nI x) (KS N B c g2) = some (KS N B (up2 (up2 c (15 + 2 * l) (nT e l) (nI x)) (14 + 2 * l) 4 (nI (nT e l + 1))) g2) := by
      unfold f_X2_addTenant
      rw [KS_w]
      simp (disch := omega) only [↓lt_eq, bd, bd2, Option.bind_some, nI_lit, nI_clamp, nI_add, xb_nI, if_true, gi_sw, gi_sw0, si_sw, si_sw0, hY.g0, hY.g2, hY.g4, hY.g13, hY.g14, hY.f0, hY.f2, hY.h, hY.l, hY.t, hY.r, ↓reduceIte, pLEt, pLEf, pLTt, pLTf, pEQf, pML, pMG, pMf, pMg, hc4, up2_n]
      rw [← KS_w]
    have ct : f_X4_readsTenant Y (B + 6) (B + 97 + (14 + 2 * l)) (KS N B c g) = some (nI 1, KS N B (up2 (up2 c (15 + 2 * l) (nT e l) (nI x)) (14 + 2 * l) 4 (nI (nT e l + 1))) g2) := by
      unfold f_X4_readsTenant
      simp (disch := omega) only [nI_lit, r2, gi_KSw0, hc1, m2, bd2_some, nz10, ↓reduceIte, gi_KS, p5, cp, bd_some, eq_true (pi1.mpr v3), gi_KSw, hc4, ↓reduceIte, pLEt, pLEf, pLTt, pLTf, pEQf, pML, pMG, pMf, pMg, ck]
    have hQ2 := hQ.addT v1 hle v2 v3
    have hk := (sAddT_at (d := e) x l).2.2
    obtain ⟨c', g', f1, f2, f3, f4, f5, f6⟩ := ih (a + 1) (v5 + 1) D8 g2 (sAddT e x l) _ (by omega) (by omega) hQ2 (by rw [nL_same (hk 2 (by omega) (by omega))]; exact hle) hTV2 a1 p4 s1
    rw [show a + 1 + xs.length = a + (xs.length + 1) by omega] at f2 f3 f5
    refine ⟨c', g', ?_, f2, f3, f4.trans p6, f5, f6⟩
    rw [f_X4_readsLine_111]
    simp (disch := omega) only [nI_lit, ↓reduceIte, pLEt, pLEf, pLTt, pLTf, pEQf, pML, pMG, pMf, pMg, nz10, kd, bd_some, ct, bd2_some, nI_add]
    exact f1
theorem V_line (hR : RD Y B) (hT : TK9 N B T L t) (hQ : QD P ops e c) (ha : a ≤ T) (h4 : g 4 = nI a) (q : nL e < 8) {x y z : Nat} (hx : x ≤ 99) (hy : 1 ≤ y ∧ y ≤ 20) (hz : z ≤ 9999) {xs : List Nat} (hxs : xs.length ≤ 3) (hTV : TV (eLn e (nI x) (nI y) (nI z)) (nL e) xs) (hs : TSQ t L (tS t L a) ((12, 0) :: (2, x) :: (2, y) :: (2, z) :: (xs.map (fun x => (2, x)) ++ (3, 0) :: ts))) : ∃ c' g', f_X4_readsLine Y (B + 6) (KS N B c g) = some (nI 1, KS N B c' g') ∧ a + 4 + xs.length ≤ T ∧ g' 4 = nI (a + 4 + xs.length) ∧ g' 6 = g 6 ∧ TSQ t L (tS t L (a + 4 + xs.length)) ((3, 0) :: ts) ∧ QD P ops (eTn (eLn e (nI x) (nI y) (nI z)) (nL e) xs) c' := by
  obtain ⟨r1, r2, r3, r4, r5, hY⟩ := id hR
  have hD := hQ.1
  have h8 := hD.L8
  have hc3 : c 0 3 = nI (nL e) := (hQ.2.1.1.1 3 2 (by unfold Wp; decide)).trans hD.L
  obtain ⟨a1, -, -, s1⟩ := hs.hd hT ha (by decide)
  obtain ⟨a2, -, -, s2⟩ := s1.hd hT a1 (by decide)
  obtain ⟨a3, -, -, s3⟩ := s2.hd hT a2 (by decide)
  obtain ⟨a4, -, -, s4⟩ := s3.hd hT a3 (by decide)
  obtain ⟨g2, m2, p4, p5, p6⟩ := V_num (c := c) (g := upd g 4 (nI (a + 1))) (y := nI 99) hR hT a1 (upd_s _ _ _) s1 (Nat.zero_le _) (by omega) (by rw [nI_toInt (by omega)]; omega) (by decide)
  obtain ⟨g3, m3, q4, q5, q6⟩ := V_num (c := c) (g := g2) (x := 1) (y := nI 20) hR hT a2 p4 s2 hy.1 (by omega) (by rw [nI_toInt (by omega)]; omega) (by decide)
  obtain ⟨g4, m4, u4, u5, u6⟩ := V_num (c := c) (g := g3) (y := nI 9999) hR hT a3 q4 s3 (Nat.zero_le _) (by omega) (by rw [nI_toInt (by omega)]; omega) (by decide)
  obtain ⟨c', f1, f2⟩ := C_addLine (N := sd N (B + 6) g4) hY hQ q (x := nI x) (y := nI y) (z := nI z)
  rw [← KS_w, ← KS_w] at f1
  have eL : nL (eLn e (nI x) (nI y) (nI z)) = nL e + 1 := by
    show (upd _ 2 (nI (nL e + 1)) 2).toNatClampNeg = _
    rw [upd_s]; exact nI_clamp (by omega)
  obtain ⟨c2, g5, i1, i2, i3, i4, i5, i6⟩ := V_tenants (l := nL e) hR hT q xs (a + 1 + 1 + 1 + 1) 0 FU g4 _ c' (by unfold FU; omega) (by omega) f2 (by omega) hTV a4 u4 s4
  refine ⟨c2, g5, ?_, i2, i3, i4.trans (u6.trans (q6.trans (p6.trans (upd_n (by omega))))), i5, i6⟩
  unfold f_X4_readsLine
  simp (disch := omega) only [↓lt_eq, nI_lit, r2, gi_KSw0, hc3, ↓reduceIte, pLEt, pLEf, pLTt, pLTf, pEQf, pML, pMG, pMf, pMg, gi_KS, h4, nI_add, si_KS, m2, bd2_some, nz10, m3, m4, p5, q5, u5, xb_nI, hY.g2, nI_clamp, f1, bd_some, hY.l]
  exact i1
theorem V_once (hR : RD Y B) (h4 : g 4 = nI a) {b x : Nat} (hb : b < 6) (hx : x < 2 ^ b) (h6 : g 6 = nI (16384 * x)) : ∃ g', f_X4_beginsOnce Y (B + 6) (nI (14 + b)) (KS N B c g) = some (nI 1, KS N B c g') ∧ g' 4 = nI (a + 1) ∧ g' 6 = nI (16384 * (x + 2 ^ b)) := by
  obtain ⟨b1, b2⟩ := bitsV b hb x hx
  refine ⟨upd (upd g 6 (nI (16384 * (x + 2 ^ b)))) 4 (nI (a + 1)), ?_, upd_s _ _ _, by rw [upd_n (by omega), upd_s]⟩
  unfold f_X4_beginsOnce
  have h46 : upd g 6 (nI (16384 * (x + 2 ^ b))) 4 = nI a := by rw [upd_n (by omega)]; exact h4
  simp only [↓lt_eq, nI_lit, gi_KS, h6, eq_true b1, if_true, b2, si_KS, h46, nI_add]
theorem V_rule (hR : RD Y B) (hT : TK9 N B T L t) (hQ : QD P ops e c) (ha : a ≤ T) (h4 : g 4 = nI a) {b x v : Nat} (hb : b < 5) (hx : x < 2 ^ b) (h6 : g 6 = nI (16384 * x)) (hv : 1 ≤ v ∧ v ≤ 20) (hs : TSQ t L (tS t L a) ((14 + b, 0) :: (2, v) :: ts)) : ∃ c' g', (bd2 (f_X4_beginsOnce Y (B + 6) (nI (14 + b)) (KS N B c g)) fun r N' => if r = nI 0 then some (nI 0, N') else bd2 (f_X4_readsRule Y (B + 6) (nI (14 + b)) N') fun r N' => if r = nI 0 then some (nI 0, N') else some (nI 1, N')) = some (nI 1, KS N B c' g') ∧ a + 2 ≤ T ∧ g' 4 = nI (a + 2) ∧ g' 6 = nI (16384 * (x + 2 ^ b)) ∧ TSQ t L (tS t L (a + 2)) ts ∧ QD P ops (upd e (5 + b) (nI v)) c' := by
  obtain ⟨r1, r2, r3, r4, r5, hY⟩ := id hR
  obtain ⟨a1, -, -, s1⟩ := hs.hd hT ha (by omega)
  obtain ⟨a2, -, -, s2⟩ := s1.hd hT a1 (by decide)
  have lb : lo5 b ≤ 1 := by unfold lo5; (repeat' split) <;> omega
  have hb9 : hi5 b ≤ 999 ∧ 99 ≤ hi5 b := by unfold hi5; split <;> omega
  have hb8 : (nI (hi5 b)).toInt = hi5 b := nI_toInt (by omega)
  obtain ⟨g2, m2, p4, p6⟩ := V_once (N := N) (c := c) hR h4 (b := b) (by omega) hx h6
  obtain ⟨g3, m3, q4, q5, q6⟩ := V_num (c := c) (g := g2) (x := lo5 b) (y := nI (hi5 b)) hR hT a1 p4 s1 (by omega) (by omega) (by omega) (by omega)
  have hp : Wp (8 + b) (5 + b) := by unfold Wp; omega
  refine ⟨up2 c 0 (8 + b) (nI v), g3, ?_, a2, q4, q6.trans p6, s2, hQ.rule hp (by omega) (fun z => ⟨by omega, by omega⟩)⟩
  simp only [m2, bd2_some, nz10, if_false, K_rule hb, m3, r2, gi_KS, q5, si_KSw0]
end VR
