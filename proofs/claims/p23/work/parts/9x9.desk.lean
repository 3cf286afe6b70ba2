/-! A RANDOM DESK, ALL -/
def plU (q : Nat) : Nat → Nat := fun g => if g = 0 then q else if g = 1 then q + 1 else q + (g - 82)
section ED9
variable {SS SV : Nat → Nat} {Y0 Y : XY} {N0 N : XN} {B bf rnd q : Nat} {ops0 : List Int32} {d0 : XD} {k0 p0 : Nat} {hd0 : Nat → XD}
theorem DY.usual {T : Nat → Nat} (k0 : kc Y q = 18) (g : gr Y q 2 = some (q + 1) ∧ gr Y q 3 = some (q + 2) ∧ gr Y q 4 = some (q + 3) ∧ gr Y q 5 = some (q + 4) ∧ gr Y q 6 = some (q + 5)) (k : (kc Y (q + 1) = 1 ∧ kn Y (q + 1) = 5) ∧ (kc Y (q + 2) = 8 ∧ kn Y (q + 2) = 0) ∧ (kc Y (q + 3) = 8 ∧ kn Y (q + 3) = 0) ∧ (kc Y (q + 4) = 8 ∧ kn Y (q + 4) = 0) ∧ kc Y (q + 5) = 8 ∧ kn Y (q + 5) = 0) : DY Y (plU q) 0 0 0 0 T := by
  obtain ⟨g2, g3, g4, g5, g6⟩ := g
  obtain ⟨k1, k2, k3, k4, k5⟩ := k
  have p0 : plU q 0 = q := if_pos rfl
  have p1 : plU q 1 = q + 1 := by unfold plU; rw [if_neg (by omega), if_pos rfl]
  have p84 : plU q 84 = q + 2 := by unfold plU; rw [if_neg (by omega), if_neg (by omega)]
  have p85 : plU q 85 = q + 3 := by unfold plU; rw [if_neg (by omega), if_neg (by omega)]
  have p86 : plU q 86 = q + 4 := by unfold plU; rw [if_neg (by omega), if_neg (by omega)]
  have p87 : plU q 87 = q + 5 := by unfold plU; rw [if_neg (by omega), if_neg (by omega)]
  refine ⟨⟨by omega, by omega, by omega, by omega⟩, fun a b ha hb e => ?_, fun a ha => ?_⟩
  · unfold us at ha hb
    unfold plU at e
    (repeat' split at e) <;> omega
  · rcases (by unfold us at ha; omega : a = 0 ∨ a = 1 ∨ a = 84 ∨ a = 85 ∨ a = 86 ∨ a = 87) with rfl | rfl | rfl | rfl | rfl | rfl
    · rw [p0]
      exact ⟨k0, fun h => absurd rfl h⟩
    · rw [p1, show pg 1 = 0 from rfl, p0]
      exact ⟨k1.1, fun _ => ⟨k1.2, g2⟩⟩
    · rw [p84, show pg 84 = 0 from rfl, p0]
      exact ⟨k2.1, fun _ => ⟨k2.2, g3⟩⟩
    · rw [p85, show pg 85 = 0 from rfl, p0]
      exact ⟨k3.1, fun _ => ⟨k3.2, g4⟩⟩
    · rw [p86, show pg 86 = 0 from rfl, p0]
      exact ⟨k4.1, fun _ => ⟨k4.2, g5⟩⟩
    · rw [p87, show pg 87 = 0 from rfl, p0]
      exact ⟨k5.1, fun _ => ⟨k5.2, g6⟩⟩
/-- a new desk, with nothing in it -/
theorem D_usual (hm : MK Y q) : ∃ Y6 N8, f_X8_init (yK Y q 18 0) (q + 1) q (n0 N q) = some (Y6, q + 6, N8) ∧ DK Y6 (q + 6) N8 (plU q) 0 0 0 (fun _ => 0) [] eU ∧ TF q Y N Y6 N8 ∧ gr Y6 q 7 = none ∧ (WT Y → WT Y6) := by
  obtain ⟨Y6, N8, e1, m6, ke, gx, gs, ks, ⟨v0, v1, v2, v3, v4⟩, wt⟩ := K_init (Y := yK Y q 18 0) (N := n0 N q) (q := q + 1) (e := q) hm.nx (kcq rfl)
  obtain ⟨u0, u5, u6, u7, u8, u9⟩ := eUsual_at (e := fun _ => nI 0)
  have z1 : eU 1 = nI 0 := u0 1 (by omega) (by omega)
  have z2 : eU 2 = nI 0 := u0 2 (by omega) (by omega)
  have z3 : eU 3 = nI 0 := u0 3 (by omega) (by omega)
  refine ⟨Y6, N8, e1, ⟨m6, DY.usual ((ke q (by omega)).1.1.trans (kcq rfl)) gs ks, ⟨⟨by omega, by omega, by omega, by omega, fun l hl => by omega⟩, fun g k hv => ?_⟩, ⟨?_, ?_, ?_, fun l hl => by omega⟩, (QD_usual (e := fun _ => nI 0) (c := fun _ _ => 0)).1, by omega, by omega⟩, fun c hc => ?_, ?_, fun w => wt (w.nx hm (by omega))⟩
  · show gi N8 (plU q g) k = eU (ixg g k)
    have hv' : (g = 0 ∧ k < 2) ∨ (g = 1 ∧ k < 5) := by
      unfold vd at hv
      omega
    rcases hv' with ⟨rfl, hk⟩ | ⟨rfl, hk⟩
    · have p0 : plU q 0 = q := if_pos rfl
      have z : gi N8 q k = nI 0 := ((ke q (by omega)).2.2 k).trans ((n0_q k).trans (nI_lit 0))
      have z' : eU (ixg 0 k) = nI 0 := u0 (ixg 0 k) (by unfold ixg; (repeat' split) <;> omega) (by unfold ixg; (repeat' split) <;> omega)
      rw [p0]
      exact z.trans z'.symm
    · have p1 : plU q 1 = q + 1 := by unfold plU; rw [if_neg (by omega), if_pos rfl]
      rw [p1]
      rcases (by omega : k = 0 ∨ k = 1 ∨ k = 2 ∨ k = 3 ∨ k = 4) with rfl | rfl | rfl | rfl | rfl
      · exact v0.trans u5.symm
      · exact v1.trans u6.symm
      · exact v2.trans u7.symm
      · exact v3.trans u8.symm
      · exact v4.trans u9.symm
  · unfold nH
    rw [z1]
    exact nI_clamp (by omega)
  · unfold nL
    rw [z2]
    exact nI_clamp (by omega)
  · unfold nR
    rw [z3]
    exact nI_clamp (by omega)
  · obtain ⟨x1, x2, x3⟩ := ke c (by omega)
    have y := yK_ne (Y := Y) (q := q) (c := 18) (m := 0) (b := c) (by omega) (by omega)
    exact ⟨⟨x1.1.trans y.1, x1.2.trans y.2⟩, fun j => (x2 (by omega) j).trans (yK_gr (by omega) j), fun j => (x3 j).trans (n0_ne (by omega) j)⟩
  · refine (gx 7 (Or.inr (by omega))).trans ?_
    unfold gr yK
    exact if_pos rfl
theorem E_desk (hm : MK Y q) (hE : EV9 SS SV Y0 N0 Y N B bf rnd q) (hT : TXT N B bf []) (hI : IK B N ops0 d0 k0 p0 hd0) : ∃ Y' q' N' pl H L R T ops e', f_L_randomDesk SS SV Y q B bf rnd N = some (q, Y', q', N') ∧ pl 0 = q ∧ RD9 SS SV Y0 N0 B bf rnd q d0 k0 p0 hd0 Y' q' N' pl H L R T ops e' ∧ R ≤ 9 := by
  obtain ⟨⟨c1, c2, c3, c4⟩, ⟨b1, b2, b3, b4⟩, ⟨r1, r2, r3⟩, -, -⟩ := id hE
  have kq : kc Y q = 9 ∧ kc Y (q + 1) = 0 := ⟨hm.1, hm.2 _ (Nat.lt_succ_self _)⟩
  obtain ⟨Y6, N8, e1, hK, tf, g7, w6⟩ := D_usual (N := N) hm
  have rf : RF rnd q Y N Y6 N8 := RF.of_tf tf (Nat.le_refl _)
  have hE6 := hE.rf rf w6
  have hT6 := hT.rf rf ⟨b3, b4, fun z => by rw [z, r1] at b1; omega⟩ r2
  have hI6 := hI.rf rf (by omega) r2
  obtain ⟨⟨d1, d2, d3, d4⟩, ⟨d5, d6, -, -⟩, ⟨d7, -⟩, -, -⟩ := id hE6
  obtain ⟨N11, f1, f2, f3⟩ := T_write (ws := wB 0 ++ [59]) d2.1.1 ⟨d5, d6⟩ d1 (by omega) (by decide) hT6 hE6.cz.2.1.2.1.1
  have f2' : TXT N11 B bf (wB 0 ++ [59]) := f2
  have ftq : ∀ c j, q ≤ c → gi N11 c j = gi N8 c j := fun c j hc => by unfold gi; rw [f3.1 c (by omega) (by omega) (by omega)]
  have pu : ∀ g, us 0 0 0 0 g → q ≤ plU q g := fun g hg => by
    unfold plU
    (repeat' split) <;> omega
  have pz : plU q 0 = q := if_pos rfl
  have l0 : (wB 0 ++ [59]).length = 6 := rfl
  have hB : BST SS SV Y0 N0 Y6 (q + 6) N11 B bf rnd q (plU q) 0 0 0 (fun _ => 0) eU (wB 0 ++ [59]) [] 0 ops0 d0 k0 p0 hd0 := ⟨hK.sameN (fun g hg j => ftq _ j (pu g hg)), ⟨pu, by omega, g7⟩, hE6.ft f3, ⟨f2', LXR.wd 0 (by omega) 59 rfl (LXR.sg 59 (by decide) LXR.nil), BLD.nil, _, _, QD_usual (c := fun _ _ => 0)⟩, hI6.ft f3 b3⟩
  obtain ⟨z, w, hz, e2⟩ := D_below (N := N11) d7 (n := 5) (by omega) (by omega)
  obtain ⟨Ya, qa, Na, Ha, ea, bsa, tsa, pla, u, a1, a2, a3, a4, a5, a6⟩ := H_22 z FU (hB.rn (w := w)) (by omega) (by unfold FU; omega) (by rw [l0]; omega) (k := 6) (n := 13) (by omega) (by omega)
  rw [l0] at a3
  rw [pz] at a1 a4
  obtain ⟨Yb, qb, Nb, Lb, Tb, eb, bsb, tsb, plb, ub, nb, t1, t2, t3, t4, t5, ⟨t6, t7⟩, t8⟩ := L_169 u FU a2 (by omega) (by unfold FU; omega) (by omega) (k := 6 + 3 * z) (n := 13 + 72 * z) (by omega) (by omega)
  rw [a4] at t1 t5
  obtain ⟨Yc, qc, Nc, Rc, ec, bsc, tsc, plc, D8, g1, g2, g3, g4, g5⟩ := Q_406 ub FU t2 (by omega) t7 (by unfold FU; omega) (by omega) (k := 6 + 3 * z + 4 * u) (n := nb) (by omega) (by omega)
  rw [t5] at g1 g4
  obtain ⟨Yd, Nd, h1, h2⟩ := Q_end g2 (k := 6 + 3 * z + 4 * u + 3 * ub) (n := nb + 75 * ub) ⟨by omega, by omega⟩ D8
  rw [g4] at h1
  have p9 : plN plc qc 0 = q := (if_neg (by omega)).trans g4
  obtain ⟨Ye, qe, Ne, ee, bse, tse, be, D7, ke', ne', i1, i2, i3, i4, i5⟩ := U_597 5 0 FU h2 (by omega) (by omega) (by unfold FU; omega) (by omega) (k := 6 + 3 * z + 4 * u + 3 * ub + 1) (n := nb + 75 * ub + 5) (by omega) (by omega)
  rw [p9] at i1
  obtain ⟨Yf, qf, Nf, ef, opf, j1, j2⟩ := U_end i2 (by omega) (k := ke') (n := ne') ⟨by omega, by omega⟩ D7
  rw [p9] at j1
  refine ⟨Yf, qf, Nf, plN plc qc, Ha, Lb, Rc, Tb, opf, ef, ?_, p9, j2, g5⟩
  have k6 : kc Y6 rnd = 20 := d7
  unfold f_L_randomDesk
  simp (disch := omega) only [↓ck, ↓lt_eq, ↓bd_ite, ↓bd2_ite, ↓bd3_ite, ↓bd4_ite, Option.isSome_some, Option.getD_some, nI_lit, eq_true kq, ↓reduceIte, e1, ↓ckW_t d4, f1, k6, e2]
  exact a1.trans (t1.trans (g1.trans (h1.trans (i1.trans j1))))
end ED9
