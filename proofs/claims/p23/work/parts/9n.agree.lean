/-! THE TWO AGREE -/
section AG
variable {Y : XY} {B q : Nat} {N : XN} {pl : Nat → Nat} {H L R : Nat} {T : Nat → Nat} {ops ops' : List Int32} {d : XD} {k0 p0 : Nat} {hd : Nat → XD}
theorem A_336 (h9 : WT Y ∧ ∀ a, kc Y a ≠ 9) (kB : kc Y B = 17) (hO : YO Y B) (hI : IK B N ops d k0 p0 hd) (h : DQ Y N pl H L R T ops' d) {k n : Nat} (hk : k + 3 ≤ 560 ∧ n + 18 ≤ 3360) : f_L_agrees_336 Y q B (pl 0) k n N = some (1, Y, q, N) := by
  have hY := h.y
  have h60 := hY.R60
  have h6 := hY.H6
  have h8 := hY.L8
  have x1 := L_handlerX hO hI
  have x2 := L_lineX hO hI
  have x3 := L_requestX hO hI
  rw [h.s.1, nI_lit] at x1
  rw [h.s.2.1, nI_lit] at x2
  rw [h.s.2.2.1, nI_lit] at x3
  have hk1 : k + 1 ≤ 560 ∧ n + 6 ≤ 3360 := ⟨by omega, by omega⟩
  have hk2 : k + 1 + 1 ≤ 560 ∧ n + 6 + 6 ≤ 3360 := ⟨by omega, by omega⟩
  have hk3 : k + 1 + 1 + 1 ≤ 560 ∧ n + 6 + 6 + 6 ≤ 3360 := ⟨by omega, by omega⟩
  unfold f_L_agrees_336
  simp (disch := omega) only [↓ck, ↓lt_eq, bd_some, bd2_some, ofN, nI_lit, nI_clamp, nI_add, xb_nI, hY.k0, hY.g2, hY.g3, hY.g4, hY.g5, hY.g6, hY.p2, hY.p3, hY.p4, hY.p5, hY.p6, hY.k1, hY.n1, hY.k84, hY.n84, hY.k85, hY.n85, hY.k86, hY.n86, hY.k87, hY.n87, hY.gh, hY.ph, hY.kh, hY.nh, hY.gl, hY.pl', hY.kl, hY.nl, hY.gt, hY.pt, hY.kt, hY.nt, hY.gr', hY.pr, hY.kr, hY.nr, ↓reduceIte, pLEt, pLEf, pLTt, pLTf, pEQf, pML, pMG, pMf, pMg, ↓bd_ite, ↓bd2_ite, ↓bd3_ite, ↓bd4_ite, Option.isSome_some, Option.getD_some, kB, ↓ck9_t h9, eq_true hk1, eq_true hk2, eq_true hk3, x1, x2, x3]
theorem A_288 (h9 : WT Y ∧ ∀ a, kc Y a ≠ 9) (kB : kc Y B = 17) (hO : YO Y B) (hI : IK B N ops d k0 p0 hd) (h : DQ Y N pl H L R T ops' d) {r : Nat} (hr : r < R) {K : XY → Nat → Nat → Nat → Int32 → Nat → Nat → XN → Option (Int32 × XY × Nat × XN)} : ∀ (z j D9 k n : Nat), j + z = 7 → z < D9 → k + z ≤ 560 ∧ n + 6 * z ≤ 3360 → f_L_agrees_288 K D9 Y q B (pl 0) (nI r) (nI j) k n N = K Y q B (pl 0) (nI (r + 1)) (k + z) (n + 6 * z) N := by
  have hY := h.y
  have h60 := hY.R60
  intro z
  induction z with
  | zero =>
    intro j D9 k n hj hD hk
    obtain ⟨D8, rfl⟩ : ∃ z, D9 = z + 1 := ⟨D9 - 1, by omega⟩
    rw [f_L_agrees_288]
    simp (disch := omega) only [↓ck, ↓lt_eq, bd_some, bd2_some, ofN, nI_lit, nI_clamp, nI_add, xb_nI, hY.k0, hY.g2, hY.g3, hY.g4, hY.g5, hY.g6, hY.p2, hY.p3, hY.p4, hY.p5, hY.p6, hY.k1, hY.n1, hY.k84, hY.n84, hY.k85, hY.n85, hY.k86, hY.n86, hY.k87, hY.n87, hY.gh, hY.ph, hY.kh, hY.nh, hY.gl, hY.pl', hY.kl, hY.nl, hY.gt, hY.pt, hY.kt, hY.nt, hY.gr', hY.pr, hY.kr, hY.nr, ↓reduceIte, pLEt, pLEf, pLTt, pLTf, pEQf, pML, pMG, pMf, pMg, Nat.mul_zero, Nat.add_zero]
  | succ z ih =>
    intro j D9 k n hj hD hk
    obtain ⟨D8, rfl⟩ : ∃ z, D9 = z + 1 := ⟨D9 - 1, by omega⟩
    have IH := ih (j + 1) D8 (k + 1) (n + 6) (by omega) (by omega) ⟨by omega, by omega⟩
    have x := L_request hO hI (i := r) (j := j) (by rw [h.s.2.2.1]; exact hr) (by omega)
    have y : gi N (pl (24 + r)) j = sReq d r j := h.rr hr (by omega)
    have hk1 : k + 1 ≤ 560 ∧ n + 6 ≤ 3360 := ⟨by omega, by omega⟩
    rw [f_L_agrees_288, show k + (z + 1) = k + 1 + z by omega, show n + 6 * (z + 1) = n + 6 + 6 * z by omega]
    simp (disch := omega) only [↓ck, ↓lt_eq, bd_some, bd2_some, ofN, nI_lit, nI_clamp, nI_add, xb_nI, hY.k0, hY.g2, hY.g3, hY.g4, hY.g5, hY.g6, hY.p2, hY.p3, hY.p4, hY.p5, hY.p6, hY.k1, hY.n1, hY.k84, hY.n84, hY.k85, hY.n85, hY.k86, hY.n86, hY.k87, hY.n87, hY.gh, hY.ph, hY.kh, hY.nh, hY.gl, hY.pl', hY.kl, hY.nl, hY.gt, hY.pt, hY.kt, hY.nt, hY.gr', hY.pr, hY.kr, hY.nr, ↓reduceIte, pLEt, pLEf, pLTt, pLTf, pEQf, pML, pMG, pMf, pMg, ↓bd_ite, ↓bd2_ite, ↓bd3_ite, ↓bd4_ite, Option.isSome_some, Option.getD_some, kB, ↓ck9_t h9, eq_true hk1, x, y]
    exact IH
theorem A_272 (h9 : WT Y ∧ ∀ a, kc Y a ≠ 9) (kB : kc Y B = 17) (hO : YO Y B) (hI : IK B N ops d k0 p0 hd) (h : DQ Y N pl H L R T ops' d) : ∀ (z r D9 k n : Nat), r + z = R → z < D9 → k + 7 * z + 3 ≤ 560 ∧ n + 42 * z + 18 ≤ 3360 → f_L_agrees_272 D9 Y q B (pl 0) (nI r) k n N = some (1, Y, q, N) := by
  have hY := h.y
  have h60 := hY.R60
  intro z
  induction z with
  | zero =>
    intro r D9 k n hj hD hk
    obtain ⟨D8, rfl⟩ : ∃ z, D9 = z + 1 := ⟨D9 - 1, by omega⟩
    have IN := A_336 (q := q) h9 kB hO hI h (k := k) (n := n) ⟨by omega, by omega⟩
    rw [f_L_agrees_272]
    simp (disch := omega) only [↓ck, ↓lt_eq, bd_some, bd2_some, ofN, nI_lit, nI_clamp, nI_add, xb_nI, hY.k0, hY.g2, hY.g3, hY.g4, hY.g5, hY.g6, hY.p2, hY.p3, hY.p4, hY.p5, hY.p6, hY.k1, hY.n1, hY.k84, hY.n84, hY.k85, hY.n85, hY.k86, hY.n86, hY.k87, hY.n87, hY.gh, hY.ph, hY.kh, hY.nh, hY.gl, hY.pl', hY.kl, hY.nl, hY.gt, hY.pt, hY.kt, hY.nt, hY.gr', hY.pr, hY.kr, hY.nr, ↓reduceIte, pLEt, pLEf, pLTt, pLTf, pEQf, pML, pMG, pMf, pMg]
    exact IN
  | succ z ih =>
    intro r D9 k n hj hD hk
    obtain ⟨D8, rfl⟩ : ∃ z, D9 = z + 1 := ⟨D9 - 1, by omega⟩
    have IH := ih (r + 1) D8 (k + 7) (n + 6 * 7) (by omega) (by omega) ⟨by omega, by omega⟩
    have IN := A_288 (q := q) h9 kB hO hI h (r := r) (by omega) (K := f_L_agrees_272 D8) 7 0 FU k n (by omega) (by unfold FU; omega) ⟨by omega, by omega⟩
    rw [f_L_agrees_272]
    simp (disch := omega) only [↓ck, ↓lt_eq, bd_some, bd2_some, ofN, nI_lit, nI_clamp, nI_add, xb_nI, hY.k0, hY.g2, hY.g3, hY.g4, hY.g5, hY.g6, hY.p2, hY.p3, hY.p4, hY.p5, hY.p6, hY.k1, hY.n1, hY.k84, hY.n84, hY.k85, hY.n85, hY.k86, hY.n86, hY.k87, hY.n87, hY.gh, hY.ph, hY.kh, hY.nh, hY.gl, hY.pl', hY.kl, hY.nl, hY.gt, hY.pt, hY.kt, hY.nt, hY.gr', hY.pr, hY.kr, hY.nr, ↓reduceIte, pLEt, pLEf, pLTt, pLTf, pEQf, pML, pMG, pMf, pMg]
    exact IN.trans IH
theorem A_190 (h9 : WT Y ∧ ∀ a, kc Y a ≠ 9) (kB : kc Y B = 17) (hO : YO Y B) (hI : IK B N ops d k0 p0 hd) (h : DQ Y N pl H L R T ops' d) {l : Nat} (hl : l < L) {K : XY → Nat → Nat → Nat → Int32 → Nat → Nat → XN → Option (Int32 × XY × Nat × XN)} : ∀ (z j D9 k n : Nat), j + z = T l → z < D9 → k + z + 1 ≤ 560 ∧ n + 6 * z + 6 ≤ 3360 → f_L_agrees_190 K D9 Y q B (pl 0) (nI l) (nI j) k n N = K Y q B (pl 0) (nI (l + 1)) (k + z + 1) (n + 6 * z + 6) N := by
  have hY := h.y
  have h8 := hY.L8
  have h3 := h.n.1.2.2.2.2 l hl
  have hl' : l < nL d := by rw [h.s.2.1]; exact hl
  intro z
  induction z with
  | zero =>
    intro j D9 k n hj hD hk
    obtain ⟨D8, rfl⟩ : ∃ z, D9 = z + 1 := ⟨D9 - 1, by omega⟩
    have x := L_tenantX hO hI hl'
    rw [h.s.2.2.2 l hl, nI_lit] at x
    have hk1 : k + 1 ≤ 560 ∧ n + 6 ≤ 3360 := ⟨by omega, by omega⟩
    rw [f_L_agrees_190]
    unfold f_L_agrees_237
    simp (disch := omega) only [↓ck, ↓lt_eq, bd_some, bd2_some, ofN, nI_lit, nI_clamp, nI_add, xb_nI, hY.k0, hY.g2, hY.g3, hY.g4, hY.g5, hY.g6, hY.p2, hY.p3, hY.p4, hY.p5, hY.p6, hY.k1, hY.n1, hY.k84, hY.n84, hY.k85, hY.n85, hY.k86, hY.n86, hY.k87, hY.n87, hY.gh, hY.ph, hY.kh, hY.nh, hY.gl, hY.pl', hY.kl, hY.nl, hY.gt, hY.pt, hY.kt, hY.nt, hY.gr', hY.pr, hY.kr, hY.nr, ↓reduceIte, pLEt, pLEf, pLTt, pLTf, pEQf, pML, pMG, pMf, pMg, ↓bd_ite, ↓bd2_ite, ↓bd3_ite, ↓bd4_ite, Option.isSome_some, Option.getD_some, kB, ↓ck9_t h9, eq_true hk1, x, Nat.mul_zero, Nat.add_zero]
  | succ z ih =>
    intro j D9 k n hj hD hk
    obtain ⟨D8, rfl⟩ : ∃ z, D9 = z + 1 := ⟨D9 - 1, by omega⟩
    have IH := ih (j + 1) D8 (k + 1) (n + 6) (by omega) (by omega) ⟨by omega, by omega⟩
    have x := L_tenant hO hI hl' (j := j) (by rw [h.s.2.2.2 l hl]; omega)
    have y : gi N (pl (16 + l)) j = d (52 + 7 * l + j) := h.n.t hl (by omega)
    have hk1 : k + 1 ≤ 560 ∧ n + 6 ≤ 3360 := ⟨by omega, by omega⟩
    rw [f_L_agrees_190, show k + (z + 1) + 1 = k + 1 + z + 1 by omega, show n + 6 * (z + 1) + 6 = n + 6 + 6 * z + 6 by omega]
    simp (disch := omega) only [↓ck, ↓lt_eq, bd_some, bd2_some, ofN, nI_lit, nI_clamp, nI_add, xb_nI, hY.k0, hY.g2, hY.g3, hY.g4, hY.g5, hY.g6, hY.p2, hY.p3, hY.p4, hY.p5, hY.p6, hY.k1, hY.n1, hY.k84, hY.n84, hY.k85, hY.n85, hY.k86, hY.n86, hY.k87, hY.n87, hY.gh, hY.ph, hY.kh, hY.nh, hY.gl, hY.pl', hY.kl, hY.nl, hY.gt, hY.pt, hY.kt, hY.nt, hY.gr', hY.pr, hY.kr, hY.nr, ↓reduceIte, pLEt, pLEf, pLTt, pLTf, pEQf, pML, pMG, pMf, pMg, ↓bd_ite, ↓bd2_ite, ↓bd3_ite, ↓bd4_ite, Option.isSome_some, Option.getD_some, kB, ↓ck9_t h9, eq_true hk1, x, y]
    exact IH
theorem A_148 (h9 : WT Y ∧ ∀ a, kc Y a ≠ 9) (kB : kc Y B = 17) (hO : YO Y B) (hI : IK B N ops d k0 p0 hd) (h : DQ Y N pl H L R T ops' d) {l : Nat} (hl : l < L) {K : XY → Nat → Nat → Nat → Int32 → Nat → Nat → XN → Option (Int32 × XY × Nat × XN)} : ∀ (z j D9 k n : Nat), j + z = 5 → z < D9 → k + z + T l + 1 ≤ 560 ∧ n + 6 * z + 6 * T l + 6 ≤ 3360 → f_L_agrees_148 K D9 Y q B (pl 0) (nI l) (nI j) k n N = K Y q B (pl 0) (nI (l + 1)) (k + z + T l + 1) (n + 6 * z + 6 * T l + 6) N := by
  have hY := h.y
  have h8 := hY.L8
  have h3 := h.n.1.2.2.2.2 l hl
  have hl' : l < nL d := by rw [h.s.2.1]; exact hl
  intro z
  induction z with
  | zero =>
    intro j D9 k n hj hD hk
    obtain ⟨D8, rfl⟩ : ∃ z, D9 = z + 1 := ⟨D9 - 1, by omega⟩
    have IN := A_190 (q := q) h9 kB hO hI h hl (K := K) (T l) 0 FU k n (by omega) (by unfold FU; omega) ⟨by omega, by omega⟩
    rw [f_L_agrees_148]
    simp (disch := omega) only [↓ck, ↓lt_eq, bd_some, bd2_some, ofN, nI_lit, nI_clamp, nI_add, xb_nI, hY.k0, hY.g2, hY.g3, hY.g4, hY.g5, hY.g6, hY.p2, hY.p3, hY.p4, hY.p5, hY.p6, hY.k1, hY.n1, hY.k84, hY.n84, hY.k85, hY.n85, hY.k86, hY.n86, hY.k87, hY.n87, hY.gh, hY.ph, hY.kh, hY.nh, hY.gl, hY.pl', hY.kl, hY.nl, hY.gt, hY.pt, hY.kt, hY.nt, hY.gr', hY.pr, hY.kr, hY.nr, ↓reduceIte, pLEt, pLEf, pLTt, pLTf, pEQf, pML, pMG, pMf, pMg, Nat.mul_zero, Nat.add_zero]
    exact IN
  | succ z ih =>
    intro j D9 k n hj hD hk
    obtain ⟨D8, rfl⟩ : ∃ z, D9 = z + 1 := ⟨D9 - 1, by omega⟩
    have IH := ih (j + 1) D8 (k + 1) (n + 6) (by omega) (by omega) ⟨by omega, by omega⟩
    have x := L_line hO hI hl' (j := j) (by omega)
    have y := Q_ofLine h hl (k := j) (by omega)
    have hk1 : k + 1 ≤ 560 ∧ n + 6 ≤ 3360 := ⟨by omega, by omega⟩
    rw [f_L_agrees_148, show k + (z + 1) + T l + 1 = k + 1 + z + T l + 1 by omega, show n + 6 * (z + 1) + 6 * T l + 6 = n + 6 + 6 * z + 6 * T l + 6 by omega]
    simp (disch := omega) only [↓ck, ↓lt_eq, bd_some, bd2_some, ofN, nI_lit, nI_clamp, nI_add, xb_nI, hY.k0, hY.g2, hY.g3, hY.g4, hY.g5, hY.g6, hY.p2, hY.p3, hY.p4, hY.p5, hY.p6, hY.k1, hY.n1, hY.k84, hY.n84, hY.k85, hY.n85, hY.k86, hY.n86, hY.k87, hY.n87, hY.gh, hY.ph, hY.kh, hY.nh, hY.gl, hY.pl', hY.kl, hY.nl, hY.gt, hY.pt, hY.kt, hY.nt, hY.gr', hY.pr, hY.kr, hY.nr, ↓reduceIte, pLEt, pLEf, pLTt, pLTf, pEQf, pML, pMG, pMf, pMg, ↓bd_ite, ↓bd2_ite, ↓bd3_ite, ↓bd4_ite, Option.isSome_some, Option.getD_some, kB, ↓ck9_t h9, eq_true hk1, x, y]
    exact IH
theorem A_132 (h9 : WT Y ∧ ∀ a, kc Y a ≠ 9) (kB : kc Y B = 17) (hO : YO Y B) (hI : IK B N ops d k0 p0 hd) (h : DQ Y N pl H L R T ops' d) : ∀ (z l D9 k n : Nat), l + z = L → z < D9 → k + 9 * z + 7 * R + 3 ≤ 560 ∧ n + 54 * z + 42 * R + 18 ≤ 3360 → f_L_agrees_132 D9 Y q B (pl 0) (nI l) k n N = some (1, Y, q, N) := by
  have hY := h.y
  have h8 := hY.L8
  intro z
  induction z with
  | zero =>
    intro l D9 k n hj hD hk
    obtain ⟨D8, rfl⟩ : ∃ z, D9 = z + 1 := ⟨D9 - 1, by omega⟩
    have h60 := hY.R60
    have IN := A_272 (q := q) h9 kB hO hI h R 0 FU k n (by omega) (by unfold FU; omega) ⟨by omega, by omega⟩
    rw [f_L_agrees_132]
    simp (disch := omega) only [↓ck, ↓lt_eq, bd_some, bd2_some, ofN, nI_lit, nI_clamp, nI_add, xb_nI, hY.k0, hY.g2, hY.g3, hY.g4, hY.g5, hY.g6, hY.p2, hY.p3, hY.p4, hY.p5, hY.p6, hY.k1, hY.n1, hY.k84, hY.n84, hY.k85, hY.n85, hY.k86, hY.n86, hY.k87, hY.n87, hY.gh, hY.ph, hY.kh, hY.nh, hY.gl, hY.pl', hY.kl, hY.nl, hY.gt, hY.pt, hY.kt, hY.nt, hY.gr', hY.pr, hY.kr, hY.nr, ↓reduceIte, pLEt, pLEf, pLTt, pLTf, pEQf, pML, pMG, pMf, pMg]
    exact IN
  | succ z ih =>
    intro l D9 k n hj hD hk
    obtain ⟨D8, rfl⟩ : ∃ z, D9 = z + 1 := ⟨D9 - 1, by omega⟩
    have h3 := h.n.1.2.2.2.2 l (by omega)
    have IH := ih (l + 1) D8 (k + 5 + T l + 1) (n + 6 * 5 + 6 * T l + 6) (by omega) (by omega) ⟨by omega, by omega⟩
    have IN := A_148 (q := q) h9 kB hO hI h (l := l) (by omega) (K := f_L_agrees_132 D8) 5 0 FU k n (by omega) (by unfold FU; omega) ⟨by omega, by omega⟩
    rw [f_L_agrees_132]
    simp (disch := omega) only [↓ck, ↓lt_eq, bd_some, bd2_some, ofN, nI_lit, nI_clamp, nI_add, xb_nI, hY.k0, hY.g2, hY.g3, hY.g4, hY.g5, hY.g6, hY.p2, hY.p3, hY.p4, hY.p5, hY.p6, hY.k1, hY.n1, hY.k84, hY.n84, hY.k85, hY.n85, hY.k86, hY.n86, hY.k87, hY.n87, hY.gh, hY.ph, hY.kh, hY.nh, hY.gl, hY.pl', hY.kl, hY.nl, hY.gt, hY.pt, hY.kt, hY.nt, hY.gr', hY.pr, hY.kr, hY.nr, ↓reduceIte, pLEt, pLEf, pLTt, pLTf, pEQf, pML, pMG, pMf, pMg]
    exact IN.trans IH
theorem A_84 (h9 : WT Y ∧ ∀ a, kc Y a ≠ 9) (kB : kc Y B = 17) (hO : YO Y B) (hI : IK B N ops d k0 p0 hd) (h : DQ Y N pl H L R T ops' d) {i : Nat} (hi : i < H) {K : XY → Nat → Nat → Nat → Int32 → Nat → Nat → XN → Option (Int32 × XY × Nat × XN)} : ∀ (z j D9 k n : Nat), j + z = 8 → z < D9 → k + z ≤ 560 ∧ n + 6 * z ≤ 3360 → f_L_agrees_84 K D9 Y q B (pl 0) (nI i) (nI j) k n N = K Y q B (pl 0) (nI (i + 1)) (k + z) (n + 6 * z) N := by
  have hY := h.y
  have h6 := hY.H6
  intro z
  induction z with
  | zero =>
    intro j D9 k n hj hD hk
    obtain ⟨D8, rfl⟩ : ∃ z, D9 = z + 1 := ⟨D9 - 1, by omega⟩
    rw [f_L_agrees_84]
    simp (disch := omega) only [↓ck, ↓lt_eq, bd_some, bd2_some, ofN, nI_lit, nI_clamp, nI_add, xb_nI, hY.k0, hY.g2, hY.g3, hY.g4, hY.g5, hY.g6, hY.p2, hY.p3, hY.p4, hY.p5, hY.p6, hY.k1, hY.n1, hY.k84, hY.n84, hY.k85, hY.n85, hY.k86, hY.n86, hY.k87, hY.n87, hY.gh, hY.ph, hY.kh, hY.nh, hY.gl, hY.pl', hY.kl, hY.nl, hY.gt, hY.pt, hY.kt, hY.nt, hY.gr', hY.pr, hY.kr, hY.nr, ↓reduceIte, pLEt, pLEf, pLTt, pLTf, pEQf, pML, pMG, pMf, pMg, Nat.mul_zero, Nat.add_zero]
  | succ z ih =>
    intro j D9 k n hj hD hk
    obtain ⟨D8, rfl⟩ : ∃ z, D9 = z + 1 := ⟨D9 - 1, by omega⟩
    have IH := ih (j + 1) D8 (k + 1) (n + 6) (by omega) (by omega) ⟨by omega, by omega⟩
    have x := L_handler hO hI (i := i) (j := j) (by rw [h.s.1]; exact hi) (by omega)
    have y := Q_ofHandler h hi (k := j) (by omega)
    have hk1 : k + 1 ≤ 560 ∧ n + 6 ≤ 3360 := ⟨by omega, by omega⟩
    rw [f_L_agrees_84, show k + (z + 1) = k + 1 + z by omega, show n + 6 * (z + 1) = n + 6 + 6 * z by omega]
    simp (disch := omega) only [↓ck, ↓lt_eq, bd_some, bd2_some, ofN, nI_lit, nI_clamp, nI_add, xb_nI, hY.k0, hY.g2, hY.g3, hY.g4, hY.g5, hY.g6, hY.p2, hY.p3, hY.p4, hY.p5, hY.p6, hY.k1, hY.n1, hY.k84, hY.n84, hY.k85, hY.n85, hY.k86, hY.n86, hY.k87, hY.n87, hY.gh, hY.ph, hY.kh, hY.nh, hY.gl, hY.pl', hY.kl, hY.nl, hY.gt, hY.pt, hY.kt, hY.nt, hY.gr', hY.pr, hY.kr, hY.nr, ↓reduceIte, pLEt, pLEf, pLTt, pLTf, pEQf, pML, pMG, pMf, pMg, ↓bd_ite, ↓bd2_ite, ↓bd3_ite, ↓bd4_ite, Option.isSome_some, Option.getD_some, kB, ↓ck9_t h9, eq_true hk1, x, y]
    exact IH
theorem A_68 (h9 : WT Y ∧ ∀ a, kc Y a ≠ 9) (kB : kc Y B = 17) (hO : YO Y B) (hI : IK B N ops d k0 p0 hd) (h : DQ Y N pl H L R T ops' d) : ∀ (z i D9 k n : Nat), i + z = H → z < D9 → k + 8 * z + 9 * L + 7 * R + 3 ≤ 560 ∧ n + 48 * z + 54 * L + 42 * R + 18 ≤ 3360 → f_L_agrees_68 D9 Y q B (pl 0) (nI i) k n N = some (1, Y, q, N) := by
  have hY := h.y
  have h6 := hY.H6
  have h8 := hY.L8
  intro z
  induction z with
  | zero =>
    intro i D9 k n hj hD hk
    obtain ⟨D8, rfl⟩ : ∃ z, D9 = z + 1 := ⟨D9 - 1, by omega⟩
    have IN := A_132 (q := q) h9 kB hO hI h L 0 FU k n (by omega) (by unfold FU; omega) ⟨by omega, by omega⟩
    rw [f_L_agrees_68]
    simp (disch := omega) only [↓ck, ↓lt_eq, bd_some, bd2_some, ofN, nI_lit, nI_clamp, nI_add, xb_nI, hY.k0, hY.g2, hY.g3, hY.g4, hY.g5, hY.g6, hY.p2, hY.p3, hY.p4, hY.p5, hY.p6, hY.k1, hY.n1, hY.k84, hY.n84, hY.k85, hY.n85, hY.k86, hY.n86, hY.k87, hY.n87, hY.gh, hY.ph, hY.kh, hY.nh, hY.gl, hY.pl', hY.kl, hY.nl, hY.gt, hY.pt, hY.kt, hY.nt, hY.gr', hY.pr, hY.kr, hY.nr, ↓reduceIte, pLEt, pLEf, pLTt, pLTf, pEQf, pML, pMG, pMf, pMg]
    exact IN
  | succ z ih =>
    intro i D9 k n hj hD hk
    obtain ⟨D8, rfl⟩ : ∃ z, D9 = z + 1 := ⟨D9 - 1, by omega⟩
    have IH := ih (i + 1) D8 (k + 8) (n + 6 * 8) (by omega) (by omega) ⟨by omega, by omega⟩
    have IN := A_84 (q := q) h9 kB hO hI h (i := i) (by omega) (K := f_L_agrees_68 D8) 8 0 FU k n (by omega) (by unfold FU; omega) ⟨by omega, by omega⟩
    rw [f_L_agrees_68]
    simp (disch := omega) only [↓ck, ↓lt_eq, bd_some, bd2_some, ofN, nI_lit, nI_clamp, nI_add, xb_nI, hY.k0, hY.g2, hY.g3, hY.g4, hY.g5, hY.g6, hY.p2, hY.p3, hY.p4, hY.p5, hY.p6, hY.k1, hY.n1, hY.k84, hY.n84, hY.k85, hY.n85, hY.k86, hY.n86, hY.k87, hY.n87, hY.gh, hY.ph, hY.kh, hY.nh, hY.gl, hY.pl', hY.kl, hY.nl, hY.gt, hY.pt, hY.kt, hY.nt, hY.gr', hY.pr, hY.kr, hY.nr, ↓reduceIte, pLEt, pLEf, pLTt, pLTf, pEQf, pML, pMG, pMf, pMg]
    exact IN.trans IH
theorem A_31 (h9 : WT Y ∧ ∀ a, kc Y a ≠ 9) (kB : kc Y B = 17) (hO : YO Y B) (hI : IK B N ops d k0 p0 hd) (h : DQ Y N pl H L R T ops' d) : ∀ (z j D9 k n : Nat), j + z = 10 → z < D9 → k + z + 8 * H + 9 * L + 7 * R + 3 ≤ 560 ∧ n + 6 * z + 48 * H + 54 * L + 42 * R + 18 ≤ 3360 → f_L_agrees_31 D9 Y q B (pl 0) (nI j) k n N = some (1, Y, q, N) := by
  have hY := h.y
  have h6 := hY.H6
  intro z
  induction z with
  | zero =>
    intro j D9 k n hj hD hk
    obtain ⟨D8, rfl⟩ : ∃ z, D9 = z + 1 := ⟨D9 - 1, by omega⟩
    have IN := A_68 (q := q) h9 kB hO hI h H 0 FU k n (by omega) (by unfold FU; omega) ⟨by omega, by omega⟩
    rw [f_L_agrees_31]
    simp (disch := omega) only [↓ck, ↓lt_eq, bd_some, bd2_some, ofN, nI_lit, nI_clamp, nI_add, xb_nI, hY.k0, hY.g2, hY.g3, hY.g4, hY.g5, hY.g6, hY.p2, hY.p3, hY.p4, hY.p5, hY.p6, hY.k1, hY.n1, hY.k84, hY.n84, hY.k85, hY.n85, hY.k86, hY.n86, hY.k87, hY.n87, hY.gh, hY.ph, hY.kh, hY.nh, hY.gl, hY.pl', hY.kl, hY.nl, hY.gt, hY.pt, hY.kt, hY.nt, hY.gr', hY.pr, hY.kr, hY.nr, ↓reduceIte, pLEt, pLEf, pLTt, pLTf, pEQf, pML, pMG, pMf, pMg]
    exact IN
  | succ z ih =>
    intro j D9 k n hj hD hk
    obtain ⟨D8, rfl⟩ : ∃ z, D9 = z + 1 := ⟨D9 - 1, by omega⟩
    have IH := ih (j + 1) D8 (k + 1) (n + 6) (by omega) (by omega) ⟨by omega, by omega⟩
    have x := L_state hO hI (j := j) (by omega)
    have y := Q_told h (k := j) (by omega)
    have hk1 : k + 1 ≤ 560 ∧ n + 6 ≤ 3360 := ⟨by omega, by omega⟩
    rw [f_L_agrees_31]
    simp (disch := omega) only [↓ck, ↓lt_eq, bd_some, bd2_some, ofN, nI_lit, nI_clamp, nI_add, xb_nI, hY.k0, hY.g2, hY.g3, hY.g4, hY.g5, hY.g6, hY.p2, hY.p3, hY.p4, hY.p5, hY.p6, hY.k1, hY.n1, hY.k84, hY.n84, hY.k85, hY.n85, hY.k86, hY.n86, hY.k87, hY.n87, hY.gh, hY.ph, hY.kh, hY.nh, hY.gl, hY.pl', hY.kl, hY.nl, hY.gt, hY.pt, hY.kt, hY.nt, hY.gr', hY.pr, hY.kr, hY.nr, ↓reduceIte, pLEt, pLEf, pLTt, pLTf, pEQf, pML, pMG, pMf, pMg, ↓bd_ite, ↓bd2_ite, ↓bd3_ite, ↓bd4_ite, Option.isSome_some, Option.getD_some, kB, ↓ck9_t h9, eq_true hk1, x, y]
    exact IH
theorem lg_self (v : Int64) : lg_cmp v v = nI 0 := by
  unfold lg_cmp
  rw [if_neg (Int64.lt_irrefl), if_pos rfl]
  rfl
/-- all that the law compares is alike -/
theorem A_agrees (h9 : WT Y ∧ ∀ a, kc Y a ≠ 9) (kB : kc Y B = 17) (hO : YO Y B) (hI : IK B N ops d k0 p0 hd) (h : DQ Y N pl H L R T ops' d) (hR : R ≤ 44) : f_L_agrees Y q B (pl 0) N = some (1, Y, q, N) := by
  have hY := h.y
  have h4 := h.h4
  have l3 := h.l3
  have x := L_checksum hO hI
  have y := Q_checksum h
  have s := L_stateX (Y := Y) (B := B) (N := N)
  rw [nI_lit, nI_lit] at s
  have IN := A_31 (q := q) h9 kB hO hI h 10 0 FU 1 6 (by omega) (by unfold FU; omega) ⟨by omega, by omega⟩
  unfold f_L_agrees
  simp (disch := omega) only [↓ck, ↓lt_eq, bd_some, bd2_some, ofN, nI_lit, nI_clamp, nI_add, xb_nI, hY.k0, hY.g2, hY.g3, hY.g4, hY.g5, hY.g6, hY.p2, hY.p3, hY.p4, hY.p5, hY.p6, hY.k1, hY.n1, hY.k84, hY.n84, hY.k85, hY.n85, hY.k86, hY.n86, hY.k87, hY.n87, hY.gh, hY.ph, hY.kh, hY.nh, hY.gl, hY.pl', hY.kl, hY.nl, hY.gt, hY.pt, hY.kt, hY.nt, hY.gr', hY.pr, hY.kr, hY.nr, ↓reduceIte, pLEt, pLEf, pLTt, pLTf, pEQf, pML, pMG, pMf, pMg, ↓bd_ite, ↓bd2_ite, ↓bd3_ite, ↓bd4_ite, Option.isSome_some, Option.getD_some, kB, ↓ck9_t h9, ↓ckW_t h9.1, x, y, lg_self, s]
  exact IN
end AG
/-! A ROW MORE -/
section GR
variable {Y Y' : XY} {pl : Nat → Nat} {H L M R H' L' M' R' : Nat} {T T' : Nat → Nat} {gn G b A : Nat} {d d' : XD} {c c' : Nat → Nat → Int32}
def plG (pl : Nat → Nat) (gn G b A : Nat) : Nat → Nat := fun g => if g = gn then b else if g = G then A else pl g
theorem DY.grow (hY : DY Y pl H L M R T) (hb' : H' ≤ 6 ∧ L' ≤ 8 ∧ M' ≤ 8 ∧ R' ≤ 60) (hu : ∀ g, us H' L' M' R' g ↔ us H L M R g ∨ g = gn) (hn : ¬ us H L M R gn) (hG : pg gn = G ∧ 84 ≤ G ∧ G < 88 ∧ gn ≠ 0 ∧ kg gn = 1) (hng : ∀ g, us H L M R g → g ≠ G → ng H' L' M' R' T' g = ng H L M R T g) (fb : ∀ g, us H L M R g → pl g ≠ b ∧ pl g ≠ A) (hAb : A ≠ b)
    (hk : ∀ g, us H L M R g → g ≠ G → kc Y' (pl g) = kc Y (pl g) ∧ kn Y' (pl g) = kn Y (pl g)) (hr : ∀ g j, us H L M R g → g ≠ G → (g ≠ 0 ∨ j ≠ og G) → gr Y' (pl g) j = gr Y (pl g) j)
    (kb : kc Y' b = 1 ∧ kn Y' b = ng H' L' M' R' T' gn) (kA : kc Y' A = 8 ∧ kn Y' A = ng H' L' M' R' T' G) (g0 : gr Y' (pl 0) (og G) = some A) (gA : ∀ g, us H L M R g → pg g = G → gr Y' A (og g) = some (pl g)) (gb : gr Y' A (og gn) = some b) :
    DY Y' (plG pl gn G b A) H' L' M' R' T' := by
  obtain ⟨G1, G2, G3, G4, G5⟩ := hG
  have hbb := hY.1
  have u0 : us H L M R 0 := by unfold us; omega
  have uG : us H L M R G := by unfold us; omega
  have n0 : gn ≠ G := fun e => hn (by rw [e]; exact uG)
  have p0 : plG pl gn G b A 0 = pl 0 := by unfold plG; rw [if_neg (Ne.symm G4), if_neg (by omega)]
  have pG : plG pl gn G b A G = A := by unfold plG; rw [if_neg (Ne.symm n0), if_pos rfl]
  have po : ∀ g, g ≠ gn → g ≠ G → plG pl gn G b A g = pl g := fun g h1 h2 => by unfold plG; rw [if_neg h1, if_neg h2]
  have pn : plG pl gn G b A gn = b := by unfold plG; rw [if_pos rfl]
  refine ⟨hb', fun g g' hg hg' e => ?_, fun g hg => ?_⟩
  · by_cases e1 : g = gn
    · by_cases e2 : g' = gn
      · omega
      · exfalso
        have ug' := ((hu g').mp hg').resolve_right e2
        rw [e1, pn] at e
        by_cases e3 : g' = G
        · rw [e3, pG] at e; exact hAb e.symm
        · rw [po g' e2 e3] at e; exact (fb g' ug').1 e.symm
    · have ug := ((hu g).mp hg).resolve_right e1
      by_cases e2 : g' = gn
      · exfalso
        rw [e2, pn] at e
        by_cases e3 : g = G
        · rw [e3, pG] at e; exact hAb e
        · rw [po g e1 e3] at e; exact (fb g ug).1 e
      · have ug' := ((hu g').mp hg').resolve_right e2
        by_cases e3 : g = G
        · by_cases e4 : g' = G
          · omega
          · rw [e3, pG, po g' e2 e4] at e; exact absurd e.symm (fb g' ug').2
        · by_cases e4 : g' = G
          · rw [e4, pG, po g e1 e3] at e; exact absurd e (fb g ug).2
          · rw [po g e1 e3, po g' e2 e4] at e; exact hY.P g g' ug ug' e
  · by_cases e1 : g = gn
    · rw [e1, pn, G1, pG, G5]
      exact ⟨kb.1, fun _ => ⟨kb.2, gb⟩⟩
    · have ug := ((hu g).mp hg).resolve_right e1
      by_cases e3 : g = G
      · have k8 : kg G = 8 := by unfold kg; rw [if_neg (by omega), if_pos G2]
        have pg0 : pg G = 0 := by unfold pg; (repeat' split) <;> omega
        rw [e3, pG, k8, pg0, p0]
        exact ⟨kA.1, fun _ => ⟨kA.2, g0⟩⟩
      · obtain ⟨c1, c2⟩ := hY.2.2 g ug
        obtain ⟨k1, k2⟩ := hk g ug e3
        rw [po g e1 e3]
        refine ⟨k1.trans c1, fun h0 => ?_⟩
        obtain ⟨c3, c4⟩ := c2 h0
        refine ⟨k2.trans (c3.trans (hng g ug e3).symm), ?_⟩
        obtain ⟨u1, u2⟩ := us_pg hbb ug h0
        have pne : pg g ≠ gn := fun e => hn (e ▸ u1)
        by_cases e4 : pg g = G
        · rw [e4, pG]
          exact gA g ug e4
        · rw [po _ pne e4]
          refine (hr (pg g) (og g) u1 e4 ?_).trans c4
          by_cases e5 : pg g = 0
          · refine Or.inr ?_
            unfold us at ug
            unfold pg at e5
            unfold og
            (repeat' split at e5) <;> (repeat' split) <;> omega
          · exact Or.inl e5
theorem DN.grow (hN : DN H L M R T d c) (hb' : H' ≤ 6 ∧ L' ≤ 8 ∧ M' ≤ 8 ∧ R' ≤ 60 ∧ ∀ l, l < M' → T' l ≤ 3) (hv : ∀ g k, vd H' L' M' R' T' g k → vd H L M R T g k ∨ g = gn) (ho : ∀ g k, vd H L M R T g k → g ≠ gn → c' g k = c g k ∧ d' (ixg g k) = d (ixg g k)) (hw : ∀ k, vd H' L' M' R' T' gn k → c' gn k = d' (ixg gn k)) : DN H' L' M' R' T' d' c' := by
  refine ⟨hb', fun g k h => ?_⟩
  by_cases e : g = gn
  · subst e; exact hw k h
  · have h1 := (hv g k h).resolve_right e
    obtain ⟨h2, h3⟩ := ho g k h1 e
    rw [h2, h3]
    exact hN.2 g k h1
end GR
