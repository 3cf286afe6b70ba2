/-! THE FACE: advise -/
def sAdvF (ops : List Int32) (d : XD) (l h : Nat) (s : Int32 × Int32) : Int32 × Int32 := if sMay d h l = true then (if sFW ops 100 (sLease d h l).2 < s.2 then (nI h, sFW ops 100 (sLease d h l).2) else s) else s
def sAdv (ops : List Int32) (d : XD) (l : Nat) : Int32 := (fo (sAdvF ops d l) 0 (nH d) (-nI 1, sFW ops 100 d)).1
theorem i32_lt_nle {a b : Int32} (h : a < b) : ¬ b ≤ a := fun z => by rw [Int32.lt_iff_toInt_lt] at h; rw [Int32.le_iff_toInt_le] at z; omega
theorem i32_nlt_le {a b : Int32} (h : ¬ a < b) : b ≤ a := by rw [Int32.lt_iff_toInt_lt] at h; rw [Int32.le_iff_toInt_le]; omega
theorem bd_some {α β : Type} (a : α) (f : α → Option β) : bd (some a) f = f a := (rfl)
theorem bd2_some {α β γ : Type} (a : α) (b : β) (f : α → β → Option γ) : bd2 (some (a, b)) f = f a b := (rfl)
section AV
variable {P : Nat → Int32} {Y : XY} {B w w2 m : Nat} {N : XN} {d : XD} {ops : List Int32}
theorem DJ.lease (hD : DJ ops d) {h l : Nat} (hh : h < nH d) (hl : l < nL d) (hm : sMay d h l = true) : DJ ops (sLease d h l).2 ∧ kept d (sLease d h l).2 := by
  obtain ⟨m1, m2, m3⟩ := sMay_of hm
  obtain ⟨a1, a2, a3⟩ := hD.addT hh hl m3 m2
  obtain ⟨b1, b2, b3⟩ := those_keep (l := nI l) (h := -nI 1) (nR (sAddT d h l)) 0 (0, sAddT d h l) a1 (Nat.zero_add _)
  exact ⟨b1, a2.trans b2⟩
theorem DJ.release (hD : DJ ops d) {h l : Nat} (hl : l < nL d) : DJ ops (sRelease d h l).2 ∧ kept d (sRelease d h l).2 := by
  have h8 := hD.L8
  have a1 := hD.leave hl (nI h)
  have far := fun j hj => sLeave_far (hD.ln l hl) (nI h) (j := j) hj
  obtain ⟨b1, b2, b3⟩ := those_keep (l := nI l) (h := nI h) (nR (sLeave d (nI h) l)) 0 (0, sLeave d (nI h) l) a1 (Nat.zero_add _)
  exact ⟨b1, (kept_of (fun j hj => far j (by omega))).trans b2⟩
theorem kept.code {e : XD} (h : kept d e) {j : Nat} (hj : 584 ≤ j) : e j = d j := by
  have := h.2.2.2.2.2.2.1 (j - 584)
  rw [show 584 + (j - 584) = j by omega] at this
  exact this
theorem M_adv_L (hM : MY Y m) (hD : DJ ops d) (hT : tM d ≤ 9999) {l : Nat} (hl : l < nL d) : ∀ (z h D9 : Nat) (s : Int32 × Int32) (N : XN), h + z = nH d → z < D9 → ∃ N', jn2 Y m N N' ∧ f_X8_advise_27 Y D9 m (nI l) s.1 s.2 (nI h) (sd N (gp Y m 8) d) = some ((fo (sAdvF ops d l) h z s).1, sd N' (gp Y m 8) d) := by
  have h6 := hD.H6
  obtain ⟨e1, e2, e3, e4, e5, e6⟩ := hM.e8
  intro z
  induction z with
  | zero =>
    intro h D9 s N hi hD9
    obtain ⟨D8, rfl⟩ : ∃ z, D9 = z + 1 := ⟨D9 - 1, by omega⟩
    refine ⟨N, jn2.rfl', ?_⟩
    rw [f_X8_advise_27]
    simp (disch := omega) only [↓lt_eq, bd, bd2, Option.bind_some, f_X8_handlerAt, f_X8_lineAt, f_X8_requestAt, nI_lit, pk_mul, nI_add, aN1, aN2, aN3, aN4, aN5, aN6, aN7, Nat.add_zero, Nat.reduceAdd, xb_nI, nI_clamp, gi_sd, si_sd, if_true, ↓reduceIte, pLEt, pLEf, pLTt, pLTf, pEQf, pML, pMG, pMf, pMg, hD.H]
    rfl
  | succ z ih =>
    intro h D9 s N hi hD9
    obtain ⟨D8, rfl⟩ : ∃ z, D9 = z + 1 := ⟨D9 - 1, by omega⟩
    have mm1 := M_mayLease (N := N) hM hD (h := h) (show h < nH d by omega) hl
    rw [f_X8_advise_27, fo]
    unfold sAdvF
    by_cases q : sMay d h l = true
    · obtain ⟨a1, a2⟩ := hD.lease (h := h) (show h < nH d by omega) hl q
      have ma := M_aside (N := N) (d := d) hM (a := gp Y m 10) (Or.inl rfl)
      have ml := M_leaseNow (Y := Y) (m := m) (N := sd N (gp Y m 10) (cpR 584 d (N.1 (gp Y m 10)))) hD (h := h) (show h < nH d by omega) hl q
      obtain ⟨N2, i1, i3, i2⟩ := M_finesWithin (N := sd N (gp Y m 10) (cpR 584 d (N.1 (gp Y m 10)))) hM a1 (t := 100) (by omega) (by rw [a2.T]; omega)
      have mb := M_back (N := N2) (d := d) hM (a := gp Y m 10) (Or.inl rfl) (e := (sLease d h l).2) (fun k hk => by rw [i3, sd_at]; exact if_pos hk) (fun k hk => a2.code hk)
      have jj : jn2 Y m N N2 := ⟨fun a x x1 x2 => (i1.1 a x x1 x2).trans (sd_ne x1), fun a x => i1.2 a x⟩
      rw [if_pos q]
      by_cases q2 : sFW ops 100 (sLease d h l).2 < s.2
      · obtain ⟨N3, f1, f2⟩ := ih (h + 1) D8 (nI h, sFW ops 100 (sLease d h l).2) N2 (by omega) (by omega)
        refine ⟨N3, jj.trans f1, ?_⟩
        rw [if_pos q2]
        simp (disch := omega) only [↓lt_eq, bd, bd2, Option.bind_some, f_X8_handlerAt, f_X8_lineAt, f_X8_requestAt, nI_lit, pk_mul, nI_add, aN1, aN2, aN3, aN4, aN5, aN6, aN7, Nat.add_zero, Nat.reduceAdd, xb_nI, nI_clamp, gi_sd, si_sd, if_true, ↓reduceIte, pLEt, pLEf, pLTt, pLTf, pEQf, pML, pMG, pMf, pMg, hD.H, mm1, eq_true q, nz10, ma, ml, i2, mb, eq_true q2]
        exact f2
      · obtain ⟨N3, f1, f2⟩ := ih (h + 1) D8 s N2 (by omega) (by omega)
        refine ⟨N3, jj.trans f1, ?_⟩
        rw [if_neg q2]
        simp (disch := omega) only [↓lt_eq, bd, bd2, Option.bind_some, f_X8_handlerAt, f_X8_lineAt, f_X8_requestAt, nI_lit, pk_mul, nI_add, aN1, aN2, aN3, aN4, aN5, aN6, aN7, Nat.add_zero, Nat.reduceAdd, xb_nI, nI_clamp, gi_sd, si_sd, if_true, ↓reduceIte, pLEt, pLEf, pLTt, pLTf, pEQf, pML, pMG, pMf, pMg, hD.H, mm1, eq_true q, nz10, ma, ml, i2, mb, eq_false q2]
        exact f2
    · obtain ⟨N3, f1, f2⟩ := ih (h + 1) D8 s N (by omega) (by omega)
      refine ⟨N3, f1, ?_⟩
      rw [if_neg q]
      simp (disch := omega) only [↓lt_eq, bd, bd2, Option.bind_some, f_X8_handlerAt, f_X8_lineAt, f_X8_requestAt, nI_lit, pk_mul, nI_add, aN1, aN2, aN3, aN4, aN5, aN6, aN7, Nat.add_zero, Nat.reduceAdd, xb_nI, nI_clamp, gi_sd, si_sd, if_true, ↓reduceIte, pLEt, pLEf, pLTt, pLTf, pEQf, pML, pMG, pMf, pMg, hD.H, mm1, eq_false q, Bool.false_eq_true]
      exact f2
theorem wc_ne {N : XN} {w w2 : Nat} {c : Nat → Nat → Int32} (hd : w + 90 ≤ w2 ∨ w2 + 90 ≤ w) (o k : Nat) (ho : o < 90) : wc (sw N w2 c) w o k = wc N w o k := gi_sw_ne k (by omega)
theorem C_adv_L {p : Nat} (h5 : gp Y p 5 = w) (hg6 : gp Y p 6 = w2) (hW : WY Y w) (hW2 : WY Y w2) (hd : w + 90 ≤ w2) (hD : DJ ops d) (hC : CR P ops d (wc N w)) (hT : tM d ≤ 9999) {l : Nat} (hl : l < nL d) : ∀ (z h D9 : Nat) (s : Int32 × Int32) (c : Nat → Nat → Int32), h + z = nH d → z < D9 → ∃ c', f_X7_advise_47 Y D9 p (nI l) s.2 s.1 (nI h) (sw N w2 c) = some (.inl (fo (sAdvF ops d l) h z s).1, sw N w2 c') := by
  have h6 := hD.H6
  have hCc : ∀ c, CR P ops d (wc (sw N w2 c) w) := fun c => hC.cells hD.H6 hD.L8 hD.R60 (fun o k ho => wc_ne (Or.inl hd) o k ho)
  have ec : ∀ c, gi (sw N w2 c) w 1 = nI (nH d) := fun c => ((hCc c).1.w1).trans hD.H
  intro z
  induction z with
  | zero =>
    intro h D9 s c hi hD9
    obtain ⟨D8, rfl⟩ : ∃ z, D9 = z + 1 := ⟨D9 - 1, by omega⟩
    refine ⟨c, ?_⟩
    rw [f_X7_advise_47]
    simp (disch := omega) only [↓reduceIte, pLEt, pLEf, pLTt, pLTf, pEQf, pML, pMG, pMf, pMg, h5, ec]
    rfl
  | succ z ih =>
    intro h D9 s c hi hD9
    obtain ⟨D8, rfl⟩ : ∃ z, D9 = z + 1 := ⟨D9 - 1, by omega⟩
    have mm1 := C_mayLease (N := sw N w2 c) hW hD (hCc c) (h := h) (show h < nH d by omega) hl
    rw [sw_wc] at mm1
    rw [f_X7_advise_47, fo]
    unfold sAdvF
    by_cases q : sMay d h l = true
    · obtain ⟨a1, a2⟩ := hD.lease (h := h) (show h < nH d by omega) hl q
      obtain ⟨Q, c1, k1, k2⟩ := K_copy (N := sw N w2 c) hW hW2 hd hD (hCc c)
      rw [sw_sw] at k1
      obtain ⟨c2, l1, l2⟩ := C_letLease (N := N) hW2 hD k2 (h := h) (show h < nH d by omega) hl q
      obtain ⟨Q3, c3, f1, f2⟩ := C_finesWithin (N := N) hW2 a1 (t := 100) (by omega) (by rw [a2.T]; omega) l2
      obtain ⟨v, hv⟩ : ∃ v, sFW ops 100 (sLease d h l).2 = v := ⟨_, rfl⟩
      rw [hv] at f1
      rw [if_pos q, hv]
      by_cases q2 : v < s.2
      · obtain ⟨c4, g1⟩ := ih (h + 1) D8 (nI h, v) c3 (by omega) (by omega)
        refine ⟨c4, ?_⟩
        have q3 : (s.2 ≤ v) = False := eq_false (i32_lt_nle q2)
        rw [if_pos q2]
        simp (disch := omega) only [nI_lit, nI_add, ↓reduceIte, pLEt, pLEf, pLTt, pLTf, pEQf, pML, pMG, pMf, pMg, h5, hg6, ec, bd, bd2, mm1, eq_true q, nz10, Option.bind_some, k1, l1, f1, q3]
        exact g1
      · obtain ⟨c4, g1⟩ := ih (h + 1) D8 s c3 (by omega) (by omega)
        refine ⟨c4, ?_⟩
        have q3 : (s.2 ≤ v) = True := eq_true (i32_nlt_le q2)
        rw [if_neg q2]
        simp (disch := omega) only [nI_lit, nI_add, ↓reduceIte, pLEt, pLEf, pLTt, pLTf, pEQf, pML, pMG, pMf, pMg, h5, hg6, ec, bd, bd2, mm1, eq_true q, nz10, Option.bind_some, k1, l1, f1, q3]
        exact g1
    · obtain ⟨c4, g1⟩ := ih (h + 1) D8 s c (by omega) (by omega)
      refine ⟨c4, ?_⟩
      rw [if_neg q]
      simp (disch := omega) only [nI_lit, nI_add, ↓reduceIte, pLEt, pLEf, pLTt, pLTf, pEQf, pML, pMG, pMf, pMg, h5, ec, bd, mm1, eq_false q, Bool.false_eq_true, Option.bind_some]
      exact g1
theorem F_advise (hY : YO Y B) (hI : IV B N) (x : Int32) : FC2 Y B [IOB] (f_X7_advise Y B x) (f_X8_advise Y (B + 908) x) N := by
  obtain ⟨⟨g0, g3, g4, h5, h6, g7⟩, -, -, hW, hW2, -, hM, -⟩ := hY
  have hI' := hI
  obtain ⟨⟨ops, d, hD, hz, ht, hd, P, hC⟩, -, -⟩ := hI'
  have h8 := hD.L8
  have hh6 := hD.H6
  have e : gi N (B + 7) 3 = nI (nL d) := (hC.1.w3).trans hD.L
  have e0 : ∀ N' : XN, si N' (B + 908) 0 (nI 0) = mm N' B (nI 0) := fun _ => rfl
  rcases ix_or x (n := nL d) (by omega) with h | ⟨l, hl, rfl⟩
  · refine ⟨.inr IOB, N, ?_, fun N' hN' => ⟨nI 0, mm N' B (nI 1), ?_, (after_read hN' hI _).1, (after_read hN' hI _).2, 0, by decide, rfl, gi_mm _ _ _⟩⟩
    · unfold f_X7_advise
      rw [h5, K_has_out.2.1 e h]
      simp only [nI_lit, if_true]
      rfl
    · unfold f_X8_advise
      simp (disch := omega) only [↓lt_eq, nI_lit, e0, (noL hM (row_ints hN' hd) hD x).1 h, ↓reduceIte, pLEt, pLEf, pLTt, pLTf, pEQf, pML, pMG, pMf, pMg, bd2, Option.bind_some, nz10]
  · obtain ⟨Q, c1, k1, k2⟩ := K_copy (N := N) hW hW2 (by omega) hD hC
    obtain ⟨Q2, c2, l1, l2⟩ := C_finesWithin (N := N) hW2 hD (t := 100) (by omega) (by omega) k2
    obtain ⟨v0, hv0⟩ : ∃ v, sFW ops 100 d = v := ⟨_, rfl⟩
    have ea : sAdv ops d l = (fo (sAdvF ops d l) 0 (nH d) (-nI 1, v0)).1 := by unfold sAdv; rw [hv0]
    rw [hv0] at l1
    have j0 := fun N2 => M_adv_L (m := B + 908) hM hD ht hl (nH d) 0 FU (-nI 1, v0) N2 (Nat.zero_add _) (by unfold FU; omega)
    have i0 := fun N' => M_finesWithin (N := mm N' B (nI 0)) hM hD (t := 100) (by omega) (by omega)
    have f0 := C_adv_L (N := N) (p := B) h5 h6 hW hW2 (by omega) hD hC ht hl (nH d) 0 FU (-nI 1, v0) c2 (Nat.zero_add _) (by unfold FU; omega)
    obtain ⟨c3, f1⟩ := f0
    rw [← ea] at f1
    have e2 := (K_has_in (Y := Y) (N := N) (w := B + 7) (d := d) (j := l)).2.1 e h8 hl
    refine ⟨.inl (sAdv ops d l), sw N (B + 97) c3, ?_, fun N' hN' => ?_⟩
    · unfold f_X7_advise
      simp (disch := omega) only [nI_lit, ↓reduceIte, pLEt, pLEf, pLTt, pLTf, pEQf, pML, pMG, pMf, pMg, h5, h6, e2, nz10, bd_some, bd2_some, k1, l1]
      exact f1
    · have hI1 := hI.sc (sc_trial N B c3)
      have hd1 : (sw N (B + 97) c3).1 (B + 910) = d := (funext (fun k => gi_sw_ne k (by omega))).trans hd
      obtain ⟨N2, i1, i3, i2⟩ := i0 N'
      rw [hv0] at i2
      rw [← mm_sd hM (row_ints hN' hd1)] at i2
      obtain ⟨N3, j1, j2⟩ := j0 N2
      rw [← ea] at j2
      obtain ⟨z1, z2, z3⟩ := after_pred hM hI1 hN' hd1 (N2 := N3) (i1.trans j1)
      refine ⟨sAdv ops d l, _, ?_, z1, z2, z3, rfl⟩
      unfold f_X8_advise
      simp (disch := omega) only [↓lt_eq, nI_lit, e0, (noL hM (row_ints hN' hd1) hD (nI l)).2 l hl rfl, ↓reduceIte, pLEt, pLEf, pLTt, pLTf, pEQf, pML, pMG, pMf, pMg, bd2_some, nz10, i2]
      exact j2
end AV
