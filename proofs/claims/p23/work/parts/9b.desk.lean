/-! THE DESK COMPUTES: counting, assigning, raising -/
/-- groups that are never written once they stand: the numbers, the tenants -/
def fx (g : Nat) : Prop := g = 1 ∨ (16 ≤ g ∧ g < 24)
/-- the row's sizes -/
def SZ (d : XD) (H L R : Nat) (T : Nat → Nat) : Prop := nH d = H ∧ nL d = L ∧ nR d = R ∧ ∀ l, l < L → nT d l = T l
section DE1
variable {N : XN} {Y : XY} {pl : Nat → Nat} {H L R : Nat} {T : Nat → Nat} {c : Nat → Nat → Int32} {d : XD} {ops : List Int32}
theorem SZ.upd (h : SZ d H L R T) {j : Nat} {v : Int32} (h1 : j ≠ 1) (h2 : j ≠ 2) (h3 : j ≠ 3) (ht : ∀ l, l < L → j ≠ 51 + 7 * l) : SZ (upd d j v) H L R T := by
  obtain ⟨a1, a2, a3, a4⟩ := h
  exact ⟨(nH_same (upd_n (Ne.symm h1))).trans a1, (nL_same (upd_n (Ne.symm h2))).trans a2, (nR_same (upd_n (Ne.symm h3))).trans a3, fun l hl => (nT_same (upd_n (Ne.symm (ht l hl)))).trans (a4 l hl)⟩
theorem D_held_L (hY : DY Y pl H L L R T) (hN : DN H L L R T d c) {h : Int32} : ∀ (z i a D9 : Nat), i + z = R → z < D9 → f_X8_held_14 Y D9 h (nI a) (pl 87) (nI R) (nI i) (sp N pl H L R c) = some (nI (a + cntF (sHolds d h) i z), sp N pl H L R c) := by
  have h60 := hY.R60
  intro z
  induction z with
  | zero =>
    intro i a D9 hi hD9
    obtain ⟨D8, rfl⟩ : ∃ z, D9 = z + 1 := ⟨D9 - 1, by omega⟩
    rw [f_X8_held_14]
    simp (disch := omega) only [↓ck, ↓lt_eq, bd_some, bd2_some, ofN, nI_lit, nI_clamp, nI_add, xb_nI, hY.k0, hY.g2, hY.g3, hY.g4, hY.g5, hY.g6, hY.p2, hY.p3, hY.p4, hY.p5, hY.p6, hY.k1, hY.n1, hY.k84, hY.n84, hY.k85, hY.n85, hY.k86, hY.n86, hY.k87, hY.n87, hY.gh, hY.ph, hY.kh, hY.nh, hY.gl, hY.pl', hY.kl, hY.nl, hY.gt, hY.pt, hY.kt, hY.nt, hY.gr', hY.pr, hY.kr, hY.nr, gi_sp0 hY.P, gi_sp1 hY.P, gi_sph hY.P, gi_spl hY.P, gi_spt hY.P, gi_spr hY.P, si_sp0 hY.P, si_sph hY.P, si_spl hY.P, si_spr hY.P, ↓reduceIte, pLEt, pLEf, pLTt, pLTf, pEQf, pML, pMG, pMf, pMg]
    simp [cntF]
  | succ z ih =>
    intro i a D9 hi hD9
    obtain ⟨D8, rfl⟩ : ∃ z, D9 = z + 1 := ⟨D9 - 1, by omega⟩
    rw [f_X8_held_14]
    unfold cntF
    by_cases p1 : d (107 + 8 * i) = nI 1
    · by_cases p2 : d (108 + 8 * i) = h
      · have q : sHolds d h i = true := by unfold sHolds sOpen; rw [decide_eq_true p1, decide_eq_true p2]; rfl
        simp (disch := omega) only [↓ck, ↓lt_eq, bd_some, bd2_some, ofN, nI_lit, nI_clamp, nI_add, xb_nI, hY.k0, hY.g2, hY.g3, hY.g4, hY.g5, hY.g6, hY.p2, hY.p3, hY.p4, hY.p5, hY.p6, hY.k1, hY.n1, hY.k84, hY.n84, hY.k85, hY.n85, hY.k86, hY.n86, hY.k87, hY.n87, hY.gh, hY.ph, hY.kh, hY.nh, hY.gl, hY.pl', hY.kl, hY.nl, hY.gt, hY.pt, hY.kt, hY.nt, hY.gr', hY.pr, hY.kr, hY.nr, gi_sp0 hY.P, gi_sp1 hY.P, gi_sph hY.P, gi_spl hY.P, gi_spt hY.P, gi_spr hY.P, si_sp0 hY.P, si_sph hY.P, si_spl hY.P, si_spr hY.P, ↓reduceIte, pLEt, pLEf, pLTt, pLTf, pEQf, pML, pMG, pMf, pMg, hN.r3, hN.r4, eq_true p1, eq_true p2]
        rw [ih (i + 1) (a + 1) D8 (by omega) (by omega), q]
        simp only [if_true]
        rw [show a + 1 + cntF (sHolds d h) (i + 1) z = a + (1 + cntF (sHolds d h) (i + 1) z) by omega]
      · have q : sHolds d h i = false := by unfold sHolds; rw [decide_eq_false p2, Bool.and_false]
        simp (disch := omega) only [↓ck, ↓lt_eq, bd_some, bd2_some, ofN, nI_lit, nI_clamp, nI_add, xb_nI, hY.k0, hY.g2, hY.g3, hY.g4, hY.g5, hY.g6, hY.p2, hY.p3, hY.p4, hY.p5, hY.p6, hY.k1, hY.n1, hY.k84, hY.n84, hY.k85, hY.n85, hY.k86, hY.n86, hY.k87, hY.n87, hY.gh, hY.ph, hY.kh, hY.nh, hY.gl, hY.pl', hY.kl, hY.nl, hY.gt, hY.pt, hY.kt, hY.nt, hY.gr', hY.pr, hY.kr, hY.nr, gi_sp0 hY.P, gi_sp1 hY.P, gi_sph hY.P, gi_spl hY.P, gi_spt hY.P, gi_spr hY.P, si_sp0 hY.P, si_sph hY.P, si_spl hY.P, si_spr hY.P, ↓reduceIte, pLEt, pLEf, pLTt, pLTf, pEQf, pML, pMG, pMf, pMg, hN.r3, hN.r4, eq_true p1, eq_false p2]
        rw [ih (i + 1) a D8 (by omega) (by omega), q]
        simp
    · have q : sHolds d h i = false := by unfold sHolds sOpen; rw [decide_eq_false p1, Bool.false_and]
      simp (disch := omega) only [↓ck, ↓lt_eq, bd_some, bd2_some, ofN, nI_lit, nI_clamp, nI_add, xb_nI, hY.k0, hY.g2, hY.g3, hY.g4, hY.g5, hY.g6, hY.p2, hY.p3, hY.p4, hY.p5, hY.p6, hY.k1, hY.n1, hY.k84, hY.n84, hY.k85, hY.n85, hY.k86, hY.n86, hY.k87, hY.n87, hY.gh, hY.ph, hY.kh, hY.nh, hY.gl, hY.pl', hY.kl, hY.nl, hY.gt, hY.pt, hY.kt, hY.nt, hY.gr', hY.pr, hY.kr, hY.nr, gi_sp0 hY.P, gi_sp1 hY.P, gi_sph hY.P, gi_spl hY.P, gi_spt hY.P, gi_spr hY.P, si_sp0 hY.P, si_sph hY.P, si_spl hY.P, si_spr hY.P, ↓reduceIte, pLEt, pLEf, pLTt, pLTf, pEQf, pML, pMG, pMf, pMg, hN.r3, eq_false p1]
      rw [ih (i + 1) a D8 (by omega) (by omega), q]
      simp
theorem D_held (hY : DY Y pl H L L R T) (hN : DN H L L R T d c) (hS : SZ d H L R T) {h : Int32} : f_X8_held Y (pl 0) h (sp N pl H L R c) = some (nI (sHeld d h), sp N pl H L R c) := by
  have h60 := hY.R60
  have k := D_held_L (N := N) hY hN (h := h) R 0 0 FU (by omega) (by unfold FU; omega)
  unfold f_X8_held
  simp (disch := omega) only [↓ck, ↓lt_eq, bd_some, bd2_some, ofN, nI_lit, nI_clamp, nI_add, xb_nI, hY.k0, hY.g2, hY.g3, hY.g4, hY.g5, hY.g6, hY.p2, hY.p3, hY.p4, hY.p5, hY.p6, hY.k1, hY.n1, hY.k84, hY.n84, hY.k85, hY.n85, hY.k86, hY.n86, hY.k87, hY.n87, hY.gh, hY.ph, hY.kh, hY.nh, hY.gl, hY.pl', hY.kl, hY.nl, hY.gt, hY.pt, hY.kt, hY.nt, hY.gr', hY.pr, hY.kr, hY.nr, gi_sp0 hY.P, gi_sp1 hY.P, gi_sph hY.P, gi_spl hY.P, gi_spt hY.P, gi_spr hY.P, si_sp0 hY.P, si_sph hY.P, si_spl hY.P, si_spr hY.P, ↓reduceIte, pLEt, pLEf, pLTt, pLTf, pEQf, pML, pMG, pMf, pMg]
  rw [k, Nat.zero_add]
  unfold sHeld cnt
  rw [hS.2.2.1]
theorem st_le (hD : DJ ops d) {r : Nat} (hr : r < nR d) : d (107 + 8 * r) ≤ nI 0 ↔ d (107 + 8 * r) = nI 0 := by
  obtain ⟨-, -, -, -, h⟩ := hD.rq r hr
  rcases h with ⟨h, -, -⟩ | ⟨h, -, -⟩ | ⟨h | h, -, -⟩ <;> rw [h] <;> decide
theorem D_raised_L (hY : DY Y pl H L L R T) (hD : DJ ops d) (hN : DN H L L R T d c) (hS : SZ d H L R T) {l : Int32} : ∀ (z i a D9 : Nat), i + z = R → z < D9 → f_X8_raised_14 Y D9 (pl 0) l (nI a) (pl 87) (nI R) (nI i) (sp N pl H L R c) = some (nI (a + cntF (sRaisedP d l) i z), sp N pl H L R c) := by
  have h60 := hY.R60
  intro z
  induction z with
  | zero =>
    intro i a D9 hi hD9
    obtain ⟨D8, rfl⟩ : ∃ z, D9 = z + 1 := ⟨D9 - 1, by omega⟩
    rw [f_X8_raised_14]
    simp (disch := omega) only [↓ck, ↓lt_eq, bd_some, bd2_some, ofN, nI_lit, nI_clamp, nI_add, xb_nI, hY.k0, hY.g2, hY.g3, hY.g4, hY.g5, hY.g6, hY.p2, hY.p3, hY.p4, hY.p5, hY.p6, hY.k1, hY.n1, hY.k84, hY.n84, hY.k85, hY.n85, hY.k86, hY.n86, hY.k87, hY.n87, hY.gh, hY.ph, hY.kh, hY.nh, hY.gl, hY.pl', hY.kl, hY.nl, hY.gt, hY.pt, hY.kt, hY.nt, hY.gr', hY.pr, hY.kr, hY.nr, gi_sp0 hY.P, gi_sp1 hY.P, gi_sph hY.P, gi_spl hY.P, gi_spt hY.P, gi_spr hY.P, si_sp0 hY.P, si_sph hY.P, si_spl hY.P, si_spr hY.P, ↓reduceIte, pLEt, pLEf, pLTt, pLTf, pEQf, pML, pMG, pMf, pMg]
    simp [cntF]
  | succ z ih =>
    intro i a D9 hi hD9
    obtain ⟨D8, rfl⟩ : ∃ z, D9 = z + 1 := ⟨D9 - 1, by omega⟩
    have hst := st_le hD (r := i) (by rw [hS.2.2.1]; omega)
    rw [f_X8_raised_14]
    unfold cntF
    by_cases p1 : d (104 + 8 * i) = l
    · by_cases p2 : d (107 + 8 * i) = nI 0
      · have p2' := hst.mpr p2
        have q : sRaisedP d l i = false := by unfold sRaisedP; rw [decide_eq_true p1, decide_eq_true p2]; rfl
        simp (disch := omega) only [↓ck, ↓lt_eq, bd_some, bd2_some, ofN, nI_lit, nI_clamp, nI_add, xb_nI, hY.k0, hY.g2, hY.g3, hY.g4, hY.g5, hY.g6, hY.p2, hY.p3, hY.p4, hY.p5, hY.p6, hY.k1, hY.n1, hY.k84, hY.n84, hY.k85, hY.n85, hY.k86, hY.n86, hY.k87, hY.n87, hY.gh, hY.ph, hY.kh, hY.nh, hY.gl, hY.pl', hY.kl, hY.nl, hY.gt, hY.pt, hY.kt, hY.nt, hY.gr', hY.pr, hY.kr, hY.nr, gi_sp0 hY.P, gi_sp1 hY.P, gi_sph hY.P, gi_spl hY.P, gi_spt hY.P, gi_spr hY.P, si_sp0 hY.P, si_sph hY.P, si_spl hY.P, si_spr hY.P, ↓reduceIte, pLEt, pLEf, pLTt, pLTf, pEQf, pML, pMG, pMf, pMg, hN.r0, hN.r3, eq_true p1, eq_true p2']
        rw [ih (i + 1) a D8 (by omega) (by omega), q]
        simp
      · have p2' := fun q => p2 (hst.mp q)
        by_cases p3 : d (105 + 8 * i) ≤ d 0 - d 6
        · have q : sRaisedP d l i = false := by unfold sRaisedP; rw [decide_eq_true p1, decide_eq_true p3, Bool.not_true, Bool.and_false]; rfl
          simp (disch := omega) only [↓ck, ↓lt_eq, bd_some, bd2_some, ofN, nI_lit, nI_clamp, nI_add, xb_nI, hY.k0, hY.g2, hY.g3, hY.g4, hY.g5, hY.g6, hY.p2, hY.p3, hY.p4, hY.p5, hY.p6, hY.k1, hY.n1, hY.k84, hY.n84, hY.k85, hY.n85, hY.k86, hY.n86, hY.k87, hY.n87, hY.gh, hY.ph, hY.kh, hY.nh, hY.gl, hY.pl', hY.kl, hY.nl, hY.gt, hY.pt, hY.kt, hY.nt, hY.gr', hY.pr, hY.kr, hY.nr, gi_sp0 hY.P, gi_sp1 hY.P, gi_sph hY.P, gi_spl hY.P, gi_spt hY.P, gi_spr hY.P, si_sp0 hY.P, si_sph hY.P, si_spl hY.P, si_spr hY.P, ↓reduceIte, pLEt, pLEf, pLTt, pLTf, pEQf, pML, pMG, pMf, pMg, hN.r0, hN.r1, hN.r3, hN.n1, hN.w0, eq_true p1, eq_false p2', eq_true p3]
          rw [ih (i + 1) a D8 (by omega) (by omega), q]
          simp
        · have q : sRaisedP d l i = true := by unfold sRaisedP; rw [decide_eq_true p1, decide_eq_false p2, decide_eq_false p3]; rfl
          simp (disch := omega) only [↓ck, ↓lt_eq, bd_some, bd2_some, ofN, nI_lit, nI_clamp, nI_add, xb_nI, hY.k0, hY.g2, hY.g3, hY.g4, hY.g5, hY.g6, hY.p2, hY.p3, hY.p4, hY.p5, hY.p6, hY.k1, hY.n1, hY.k84, hY.n84, hY.k85, hY.n85, hY.k86, hY.n86, hY.k87, hY.n87, hY.gh, hY.ph, hY.kh, hY.nh, hY.gl, hY.pl', hY.kl, hY.nl, hY.gt, hY.pt, hY.kt, hY.nt, hY.gr', hY.pr, hY.kr, hY.nr, gi_sp0 hY.P, gi_sp1 hY.P, gi_sph hY.P, gi_spl hY.P, gi_spt hY.P, gi_spr hY.P, si_sp0 hY.P, si_sph hY.P, si_spl hY.P, si_spr hY.P, ↓reduceIte, pLEt, pLEf, pLTt, pLTf, pEQf, pML, pMG, pMf, pMg, hN.r0, hN.r1, hN.r3, hN.n1, hN.w0, eq_true p1, eq_false p2', eq_false p3]
          rw [ih (i + 1) (a + 1) D8 (by omega) (by omega), q]
          simp only [if_true]
          rw [show a + 1 + cntF (sRaisedP d l) (i + 1) z = a + (1 + cntF (sRaisedP d l) (i + 1) z) by omega]
    · have q : sRaisedP d l i = false := by unfold sRaisedP; rw [decide_eq_false p1, Bool.false_and]
      simp (disch := omega) only [↓ck, ↓lt_eq, bd_some, bd2_some, ofN, nI_lit, nI_clamp, nI_add, xb_nI, hY.k0, hY.g2, hY.g3, hY.g4, hY.g5, hY.g6, hY.p2, hY.p3, hY.p4, hY.p5, hY.p6, hY.k1, hY.n1, hY.k84, hY.n84, hY.k85, hY.n85, hY.k86, hY.n86, hY.k87, hY.n87, hY.gh, hY.ph, hY.kh, hY.nh, hY.gl, hY.pl', hY.kl, hY.nl, hY.gt, hY.pt, hY.kt, hY.nt, hY.gr', hY.pr, hY.kr, hY.nr, gi_sp0 hY.P, gi_sp1 hY.P, gi_sph hY.P, gi_spl hY.P, gi_spt hY.P, gi_spr hY.P, si_sp0 hY.P, si_sph hY.P, si_spl hY.P, si_spr hY.P, ↓reduceIte, pLEt, pLEf, pLTt, pLTf, pEQf, pML, pMG, pMf, pMg, hN.r0, eq_false p1]
      rw [ih (i + 1) a D8 (by omega) (by omega), q]
      simp
theorem D_raised (hY : DY Y pl H L L R T) (hD : DJ ops d) (hN : DN H L L R T d c) (hS : SZ d H L R T) {l : Int32} : f_X8_raised Y (pl 0) l (sp N pl H L R c) = some (nI (sRaised d l), sp N pl H L R c) := by
  have h60 := hY.R60
  have k := D_raised_L (N := N) hY hD hN hS (l := l) R 0 0 FU (by omega) (by unfold FU; omega)
  unfold f_X8_raised
  simp (disch := omega) only [↓ck, ↓lt_eq, bd_some, bd2_some, ofN, nI_lit, nI_clamp, nI_add, xb_nI, hY.k0, hY.g2, hY.g3, hY.g4, hY.g5, hY.g6, hY.p2, hY.p3, hY.p4, hY.p5, hY.p6, hY.k1, hY.n1, hY.k84, hY.n84, hY.k85, hY.n85, hY.k86, hY.n86, hY.k87, hY.n87, hY.gh, hY.ph, hY.kh, hY.nh, hY.gl, hY.pl', hY.kl, hY.nl, hY.gt, hY.pt, hY.kt, hY.nt, hY.gr', hY.pr, hY.kr, hY.nr, gi_sp0 hY.P, gi_sp1 hY.P, gi_sph hY.P, gi_spl hY.P, gi_spt hY.P, gi_spr hY.P, si_sp0 hY.P, si_sph hY.P, si_spl hY.P, si_spr hY.P, ↓reduceIte, pLEt, pLEf, pLTt, pLTf, pEQf, pML, pMG, pMf, pMg]
  rw [k, Nat.zero_add]
  unfold sRaised cnt
  rw [hS.2.2.1]
theorem D_assign_L (hY : DY Y pl H L L R T) (hN : DN H L L R T d c) (hS : SZ d H L R T) {r l : Nat} (hr : r < R) (hl : l < L) (h3 : T l ≤ 3) (ht : ∀ k, k < T l → ∃ h, h < H ∧ d (52 + 7 * l + k) = nI h) :
    ∀ (z k D9 : Nat) (s : Int32 × Int32), k + z = T l → z < D9 → (s.1 = -nI 1 ∨ ∃ t, t < H ∧ s.1 = nI t ∧ s.2 = nI (sHeld d (nI t))) →
    f_X8_assign_22 Y D9 (pl 0) (pl (24 + r)) s.1 (pl (16 + l)) (nI (T l)) (nI k) (sp N pl H L R c) = some (sp N pl H L R (up2 (up2 c (24 + r) 4 (fo (sBestF d l) k z s).1) (24 + r) 7 (d 0))) := by
  have h60 := hY.R60
  have h6 := hY.H6
  have h8 := hY.L8
  have hb := fun h : Int32 => sHeld_le (d := d) h
  intro z
  induction z with
  | zero =>
    intro k D9 s hi hD9 hs
    obtain ⟨D8, rfl⟩ : ∃ z, D9 = z + 1 := ⟨D9 - 1, by omega⟩
    rw [f_X8_assign_22, fo]
    simp (disch := omega) only [↓ck, ↓lt_eq, bd_some, bd2_some, ofN, nI_lit, nI_clamp, nI_add, xb_nI, hY.k0, hY.g2, hY.g3, hY.g4, hY.g5, hY.g6, hY.p2, hY.p3, hY.p4, hY.p5, hY.p6, hY.k1, hY.n1, hY.k84, hY.n84, hY.k85, hY.n85, hY.k86, hY.n86, hY.k87, hY.n87, hY.gh, hY.ph, hY.kh, hY.nh, hY.gl, hY.pl', hY.kl, hY.nl, hY.gt, hY.pt, hY.kt, hY.nt, hY.gr', hY.pr, hY.kr, hY.nr, gi_sp0 hY.P, gi_sp1 hY.P, gi_sph hY.P, gi_spl hY.P, gi_spt hY.P, gi_spr hY.P, si_sp0 hY.P, si_sph hY.P, si_spl hY.P, si_spr hY.P, ↓reduceIte, pLEt, pLEf, pLTt, pLTf, pEQf, pML, pMG, pMf, pMg, up2_n, hN.w0]
  | succ z ih =>
    intro k D9 s hi hD9 hs
    obtain ⟨D8, rfl⟩ : ∃ z, D9 = z + 1 := ⟨D9 - 1, by omega⟩
    obtain ⟨t, t1, t2⟩ := ht k (by omega)
    have st : (nI t = -nI 1 ∨ ∃ t', t' < H ∧ nI t = nI t' ∧ nI (sHeld d (nI t)) = nI (sHeld d (nI t'))) := Or.inr ⟨t, t1, rfl, rfl⟩
    have b1 := hb (nI t)
    rw [hS.2.2.1] at b1
    rw [f_X8_assign_22, fo, sBestF_eq, t2]
    rcases hs with q | ⟨t', q1, q2, q3⟩
    · have i1 := ih (k + 1) D8 (nI t, nI (sHeld d (nI t))) (by omega) (by omega) st
      simp (disch := omega) only [↓ck, ↓lt_eq, bd_some, bd2_some, ofN, nI_lit, nI_clamp, nI_add, xb_nI, hY.k0, hY.g2, hY.g3, hY.g4, hY.g5, hY.g6, hY.p2, hY.p3, hY.p4, hY.p5, hY.p6, hY.k1, hY.n1, hY.k84, hY.n84, hY.k85, hY.n85, hY.k86, hY.n86, hY.k87, hY.n87, hY.gh, hY.ph, hY.kh, hY.nh, hY.gl, hY.pl', hY.kl, hY.nl, hY.gt, hY.pt, hY.kt, hY.nt, hY.gr', hY.pr, hY.kr, hY.nr, gi_sp0 hY.P, gi_sp1 hY.P, gi_sph hY.P, gi_spl hY.P, gi_spt hY.P, gi_spr hY.P, si_sp0 hY.P, si_sph hY.P, si_spl hY.P, si_spr hY.P, ↓reduceIte, pLEt, pLEf, pLTt, pLTf, pEQf, pML, pMG, pMf, pMg, hN.t, t2, q, iMt]
      exact i1
    · have b2 := hb (nI t')
      rw [hS.2.2.1] at b2
      by_cases q6 : sHeld d (nI t) < sHeld d (nI t')
      · have i1 := ih (k + 1) D8 (nI t, nI (sHeld d (nI t))) (by omega) (by omega) st
        simp (disch := omega) only [↓ck, ↓lt_eq, bd_some, bd2_some, ofN, nI_lit, nI_clamp, nI_add, xb_nI, hY.k0, hY.g2, hY.g3, hY.g4, hY.g5, hY.g6, hY.p2, hY.p3, hY.p4, hY.p5, hY.p6, hY.k1, hY.n1, hY.k84, hY.n84, hY.k85, hY.n85, hY.k86, hY.n86, hY.k87, hY.n87, hY.gh, hY.ph, hY.kh, hY.nh, hY.gl, hY.pl', hY.kl, hY.nl, hY.gt, hY.pt, hY.kt, hY.nt, hY.gr', hY.pr, hY.kr, hY.nr, gi_sp0 hY.P, gi_sp1 hY.P, gi_sph hY.P, gi_spl hY.P, gi_spt hY.P, gi_spr hY.P, si_sp0 hY.P, si_sph hY.P, si_spl hY.P, si_spr hY.P, ↓reduceIte, pLEt, pLEf, pLTt, pLTf, pEQf, pML, pMG, pMf, pMg, hN.t, t2, q2, q3, iMf, iLTt, bd2_of (D_held (N := N) hY hN hS)]
        exact i1
      · have i1 := ih (k + 1) D8 s (by omega) (by omega) (Or.inr ⟨t', q1, q2, q3⟩)
        simp (disch := omega) only [↓ck, ↓lt_eq, bd_some, bd2_some, ofN, nI_lit, nI_clamp, nI_add, xb_nI, hY.k0, hY.g2, hY.g3, hY.g4, hY.g5, hY.g6, hY.p2, hY.p3, hY.p4, hY.p5, hY.p6, hY.k1, hY.n1, hY.k84, hY.n84, hY.k85, hY.n85, hY.k86, hY.n86, hY.k87, hY.n87, hY.gh, hY.ph, hY.kh, hY.nh, hY.gl, hY.pl', hY.kl, hY.nl, hY.gt, hY.pt, hY.kt, hY.nt, hY.gr', hY.pr, hY.kr, hY.nr, gi_sp0 hY.P, gi_sp1 hY.P, gi_sph hY.P, gi_spl hY.P, gi_spt hY.P, gi_spr hY.P, si_sp0 hY.P, si_sph hY.P, si_spl hY.P, si_spr hY.P, ↓reduceIte, pLEt, pLEf, pLTt, pLTf, pEQf, pML, pMG, pMf, pMg, hN.t, t2, q2, q3, iMf, iLTf, bd2_of (D_held (N := N) hY hN hS)]
        rw [q2] at i1
        exact i1
theorem D_assign (hY : DY Y pl H L L R T) (hD : DJ ops d) (hN : DN H L L R T d c) (hS : SZ d H L R T) {r : Nat} (hr : r < R) : ∃ c', f_X8_assign Y (pl 0) (pl (24 + r)) (sp N pl H L R c) = some (sp N pl H L R c') ∧ DN H L L R T (sAssign d r) c' ∧ SZ (sAssign d r) H L R T ∧ ∀ g k, fx g → c' g k = c g k := by
  have h60 := hY.R60
  have h8 := hY.L8
  obtain ⟨hl, el⟩ := hD.line (r := r) (by rw [hS.2.2.1]; exact hr)
  rw [hS.2.1] at hl
  obtain ⟨t1, t2, t3, -⟩ := hD.ln (lR d r) (by rw [hS.2.1]; exact hl)
  rw [hS.2.2.2 _ hl] at t1 t2 t3
  rw [hS.1] at t3
  have hN1 := hN.ur4 hr (v := -nI 1)
  have hS1 := hS.upd (j := 108 + 8 * r) (v := -nI 1) (by omega) (by omega) (by omega) (fun l hl => by omega)
  have key := D_assign_L (N := N) hY hN1 hS1 hr hl t2 (fun k hk => by
    obtain ⟨h, h1, h2⟩ := t3 k hk
    exact ⟨h, h1, by rw [upd_n (by omega)]; exact h2⟩) (T (lR d r)) 0 FU (-nI 1, nI 0) (by omega) (by unfold FU; omega) (Or.inl rfl)
  have hN2 := (hN1.ur4 hr (v := (fo (sBestF (upd d (108 + 8 * r) (-nI 1)) (lR d r)) 0 (T (lR d r)) (-nI 1, nI 0)).1)).ur7 hr (v := d 0)
  have e0 : upd d (108 + 8 * r) (-nI 1) 0 = d 0 := upd_n (by omega)
  rw [e0] at key
  have es : sAssign d r = upd (upd (upd d (108 + 8 * r) (-nI 1)) (108 + 8 * r) (fo (sBestF (upd d (108 + 8 * r) (-nI 1)) (lR d r)) 0 (T (lR d r)) (-nI 1, nI 0)).1) (111 + 8 * r) (d 0) := by
    have := hS1.2.2.2 _ hl
    unfold sAssign sBest
    show upd (upd (upd d (108 + 8 * r) (-nI 1)) (108 + 8 * r) (fo (sBestF (upd d (108 + 8 * r) (-nI 1)) (lR d r)) 0 (nT (upd d (108 + 8 * r) (-nI 1)) (lR d r)) (-nI 1, nI 0)).1) (111 + 8 * r) (d 0) = _
    rw [this]
  refine ⟨_, ?_, by rw [es]; exact hN2, ?_⟩
  · unfold f_X8_assign
    simp (disch := omega) only [↓ck, ↓lt_eq, bd_some, bd2_some, ofN, nI_lit, nI_clamp, nI_add, xb_nI, hY.k0, hY.g2, hY.g3, hY.g4, hY.g5, hY.g6, hY.p2, hY.p3, hY.p4, hY.p5, hY.p6, hY.k1, hY.n1, hY.k84, hY.n84, hY.k85, hY.n85, hY.k86, hY.n86, hY.k87, hY.n87, hY.gh, hY.ph, hY.kh, hY.nh, hY.gl, hY.pl', hY.kl, hY.nl, hY.gt, hY.pt, hY.kt, hY.nt, hY.gr', hY.pr, hY.kr, hY.nr, gi_sp0 hY.P, gi_sp1 hY.P, gi_sph hY.P, gi_spl hY.P, gi_spt hY.P, gi_spr hY.P, si_sp0 hY.P, si_sph hY.P, si_spl hY.P, si_spr hY.P, ↓reduceIte, pLEt, pLEf, pLTt, pLTf, pEQf, pML, pMG, pMf, pMg, up2_n, hN.r0, el]
    exact key
  · rw [es]
    exact ⟨((hS1.upd (by omega) (by omega) (by omega) (fun l hl => by omega)).upd (by omega) (by omega) (by omega) (fun l hl => by omega)), fun g k hg => by unfold fx at hg; rw [up2_n _ _ (by omega), up2_n _ _ (by omega), up2_n _ _ (by omega)]⟩
theorem D_min {a b : Int32} {M : XN} : f_J9_min_7cf53 Y a b M = some (mn b a, M) := by
  unfold f_J9_min_7cf53 mn
  by_cases q : a ≤ b
  · rw [if_pos q, if_neg (by rw [Int32.lt_iff_toInt_lt]; rw [Int32.le_iff_toInt_le] at q; omega)]
  · rw [if_neg q, if_pos (by rw [Int32.lt_iff_toInt_lt]; rw [Int32.le_iff_toInt_le] at q; omega)]
theorem nI_lt_le {a : Nat} {x : Int32} (h : a < 1000) : nI a < x ↔ nI (a + 1) ≤ x := by
  rw [Int32.lt_iff_toInt_lt, Int32.le_iff_toInt_le, nI_toInt (by omega), nI_toInt (by omega)]
  omega
theorem D_raises (hY : DY Y pl H L L R T) (hD : DJ ops d) (hN : DN H L L R T d c) (hS : SZ d H L R T) {r : Nat} (hr : r < R) (ho : d (107 + 8 * r) = nI 0) : ∃ c', f_X8_raises Y (pl 0) (pl (24 + r)) (sp N pl H L R c) = some (sp N pl H L R c') ∧ DN H L L R T (sRaiseNow d r) c' ∧ SZ (sRaiseNow d r) H L R T ∧ ∀ g k, fx g → c' g k = c g k := by
  have h60 := hY.R60
  have h8 := hY.L8
  have hr' : r < nR d := by rw [hS.2.2.1]; exact hr
  obtain ⟨hl, el⟩ := hD.line hr'
  rw [hS.2.1] at hl
  have rr := D_raised (N := N) hY hD hN hS (l := nI (lR d r))
  have rb : sRaised d (nI (lR d r)) ≤ 60 := by
    have : sRaised d (nI (lR d r)) ≤ nR d := cntF_le _ _ _
    have := hD.R60
    omega
  unfold f_X8_raises
  by_cases q : nI (sRaised d (nI (lR d r)) + 1) ≤ d (49 + 7 * lR d r)
  · have q' := (nI_lt_le (by omega)).mpr q
    have hN2 := (hN.ur3 hr (v := nI 1)).ur5 hr (v := d (106 + 8 * r))
    have hS2 := (hS.upd (j := 107 + 8 * r) (v := nI 1) (by omega) (by omega) (by omega) (fun l hl => by omega)).upd (j := 109 + 8 * r) (v := d (106 + 8 * r)) (by omega) (by omega) (by omega) (fun l hl => by omega)
    obtain ⟨c', a1, a2, a3, a4⟩ := D_assign (N := N) hY (hD.opened hr' ho) hN2 hS2 hr
    have es : sRaiseNow d r = sAssign (upd (upd d (107 + 8 * r) (nI 1)) (109 + 8 * r) (d (106 + 8 * r))) r := by
      unfold sRaiseNow
      rw [el, if_pos q]
    refine ⟨c', ?_, by rw [es]; exact a2, by rw [es]; exact a3, fun g k hg => by unfold fx at hg; rw [a4 g k hg, up2_n _ _ (by omega), up2_n _ _ (by omega)]⟩
    simp (disch := omega) only [↓ck, ↓lt_eq, bd_some, bd2_some, ofN, nI_lit, nI_clamp, nI_add, xb_nI, hY.k0, hY.g2, hY.g3, hY.g4, hY.g5, hY.g6, hY.p2, hY.p3, hY.p4, hY.p5, hY.p6, hY.k1, hY.n1, hY.k84, hY.n84, hY.k85, hY.n85, hY.k86, hY.n86, hY.k87, hY.n87, hY.gh, hY.ph, hY.kh, hY.nh, hY.gl, hY.pl', hY.kl, hY.nl, hY.gt, hY.pt, hY.kt, hY.nt, hY.gr', hY.pr, hY.kr, hY.nr, gi_sp0 hY.P, gi_sp1 hY.P, gi_sph hY.P, gi_spl hY.P, gi_spt hY.P, gi_spr hY.P, si_sp0 hY.P, si_sph hY.P, si_spl hY.P, si_spr hY.P, ↓reduceIte, pLEt, pLEf, pLTt, pLTf, pEQf, pML, pMG, pMf, pMg, up2_n, hN.r0, el, bd2_of rr, hN.l1, eq_true q', hN.r2, bd_of a1]
  · have q' := fun z => q ((nI_lt_le (by omega)).mp z)
    have hN2 := ((((hN.ul2 hl (v := d (50 + 7 * lR d r) - mn (d (50 + 7 * lR d r)) (d 7))).uw1 (v := d 4 + mn (d (50 + 7 * lR d r)) (d 7))).ur3 hr (v := nI 3)).ur6 hr (v := d 0))
    have es : sRaiseNow d r = upd (upd (upd (upd d (50 + 7 * lR d r) (d (50 + 7 * lR d r) - mn (d (50 + 7 * lR d r)) (d 7))) 4 (d 4 + mn (d (50 + 7 * lR d r)) (d 7))) (107 + 8 * r) (nI 3)) (110 + 8 * r) (d 0) := by
      unfold sRaiseNow
      rw [el, if_neg q, mn_comm (d 7)]
    refine ⟨_, ?_, by rw [es]; exact hN2, ?_⟩
    · simp (disch := omega) only [↓ck, ↓lt_eq, bd_some, bd2_some, ofN, nI_lit, nI_clamp, nI_add, xb_nI, hY.k0, hY.g2, hY.g3, hY.g4, hY.g5, hY.g6, hY.p2, hY.p3, hY.p4, hY.p5, hY.p6, hY.k1, hY.n1, hY.k84, hY.n84, hY.k85, hY.n85, hY.k86, hY.n86, hY.k87, hY.n87, hY.gh, hY.ph, hY.kh, hY.nh, hY.gl, hY.pl', hY.kl, hY.nl, hY.gt, hY.pt, hY.kt, hY.nt, hY.gr', hY.pr, hY.kr, hY.nr, gi_sp0 hY.P, gi_sp1 hY.P, gi_sph hY.P, gi_spl hY.P, gi_spt hY.P, gi_spr hY.P, si_sp0 hY.P, si_sph hY.P, si_spl hY.P, si_spr hY.P, ↓reduceIte, pLEt, pLEf, pLTt, pLTf, pEQf, pML, pMG, pMf, pMg, up2_n, up2_s, hN.r0, el, bd2_of rr, hN.l1, eq_false q', hN.n2, hN.l2, bd2_of D_min, hN.w1, hN.w0]
    · rw [es]
      exact ⟨(((hS.upd (by omega) (by omega) (by omega) (fun l hl => by omega)).upd (by omega) (by omega) (by omega) (fun l hl => by omega)).upd (by omega) (by omega) (by omega) (fun l hl => by omega)).upd (by omega) (by omega) (by omega) (fun l hl => by omega), fun g k hg => by unfold fx at hg; rw [up2_n _ _ (by omega), up2_n _ _ (by omega), up2_n _ _ (by omega), up2_n _ _ (by omega)]⟩
end DE1
