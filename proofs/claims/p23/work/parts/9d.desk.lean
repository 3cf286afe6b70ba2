/-! THE DESK PAYS, LEASES, RELEASES -/
section DP
variable {Y : XY} {q : Nat} {N N' : XN} {pl : Nat → Nat} {H L M R : Nat} {T : Nat → Nat} {ops : List Int32} {d d' : XD} {l m x k r i : Nat} {v : Int32}
def plT (pl : Nat → Nat) (l q : Nat) : Nat → Nat := fun g => if g = 16 + l then q else pl g
def TT (T : Nat → Nat) (l m : Nat) : Nat → Nat := fun j => if j = l then m else T j
theorem DY.setT (hY : DY Y pl H L M R T) (hm : MK Y q) (hl : l < M) : DY (sr (yK Y q 1 m) (pl 86) l (some q)) (plT pl l q) H L M R (TT T l m) := by
  have hb := hY.1
  have lt := fun g (hg : us H L M R g) => us_lt hm hY hg
  have hl' : us H L M R (16 + l) := by unfold us; omega
  have h86 : us H L M R 86 := by unfold us; omega
  refine ⟨hb, fun g g' hg hg' e => ?_, fun g hg => ?_⟩
  · unfold plT at e
    have a1 := lt g hg
    have a2 := lt g' hg'
    by_cases e1 : g = 16 + l
    · rw [if_pos e1] at e
      by_cases e2 : g' = 16 + l
      · omega
      · rw [if_neg e2] at e; omega
    · rw [if_neg e1] at e
      by_cases e2 : g' = 16 + l
      · rw [if_pos e2] at e; omega
      · rw [if_neg e2] at e; exact hY.P g g' hg hg' e
  · by_cases e : g = 16 + l
    · subst e
      have e1 : plT pl l q (16 + l) = q := if_pos rfl
      have e2 : plT pl l q 86 = pl 86 := if_neg (by omega)
      have e3 : pg (16 + l) = 86 := by unfold pg; (repeat' split) <;> omega
      have e4 : og (16 + l) = l := by unfold og; (repeat' split) <;> omega
      have e5 : kg (16 + l) = 1 := by unfold kg; (repeat' split) <;> omega
      have e6 : ng H L M R (TT T l m) (16 + l) = m := by
        unfold ng
        rw [if_neg (by omega), if_neg (by omega), if_neg (by omega), if_pos (by omega)]
        exact if_pos (by omega)
      rw [e1, e3, e4, e5, e6, e2]
      exact ⟨kcq rfl, fun _ => ⟨knq rfl, gr_sr_s⟩⟩
    · have e1 : plT pl l q g = pl g := if_neg e
      have a1 := lt g hg
      rw [e1, kc_sr, kn_sr, (yK_ne (by omega) (by omega)).1, (yK_ne (by omega) (by omega)).2]
      obtain ⟨k1, k2⟩ := hY.2.2 g hg
      refine ⟨k1, fun h0 => ?_⟩
      obtain ⟨k3, k4⟩ := k2 h0
      obtain ⟨u1, u2⟩ := us_pg hb hg h0
      have e2 : plT pl l q (pg g) = pl (pg g) := if_neg (by omega)
      have e6 : ng H L M R (TT T l m) g = ng H L M R T g := by
        unfold ng
        (repeat' split) <;> first | rfl | (unfold TT; exact if_neg (by omega))
      rw [e2, e6]
      refine ⟨k3, ?_⟩
      have a2 := lt _ u1
      by_cases e7 : pl (pg g) = pl 86
      · have e8 := hY.P _ _ u1 h86 e7
        have e9 : og g ≠ l := by
          unfold pg at e8
          unfold og
          unfold us at hg
          (repeat' split at e8) <;> (repeat' split) <;> omega
        rw [gr_sr_nf e9, yK_gr (by omega)]; exact k4
      · rw [gr_sr_ne e7, yK_gr (by omega)]; exact k4
theorem DK.setT (h : DK Y q N pl H L R T ops d) (hl : l < L) (hm3 : m ≤ 3) (hN : ∀ b, b ≠ q → ∀ i, gi N' b i = gi N b i) (hrow : ∀ k, k < m → gi N' q k = d' (52 + 7 * l + k)) (hfar : ∀ j, j < 51 + 7 * l ∨ 55 + 7 * l ≤ j → d' j = d j) (hT : nT d' l = m) (hD : DJ ops d') :
    DK (sr (yK Y q 1 m) (pl 86) l (some q)) (q + 1) N' (plT pl l q) H L R (TT T l m) ops d' ∧ GO Y q N pl H L R (sr (yK Y q 1 m) (pl 86) l (some q)) (q + 1) N' (plT pl l q) R := by
  have hb := h.y.1
  have lt := fun g (hg : us H L L R g) => us_lt h.m h.y hg
  have hL := h.l3
  obtain ⟨s1, s2, s3, s4⟩ := h.s
  have hnb := h.n.1
  refine ⟨⟨h.m.nx, h.y.setT h.m hl, ⟨⟨hnb.1, hnb.2.1, hnb.2.2.1, hnb.2.2.2.1, fun j hj => ?_⟩, fun g k hv => ?_⟩, ⟨(nH_same (hfar 1 (by omega))).trans s1, (nL_same (hfar 2 (by omega))).trans s2, (nR_same (hfar 3 (by omega))).trans s3, fun j hj => ?_⟩, hD, h.h4, h.l3⟩, ⟨⟨by omega, Nat.le_refl _⟩, ⟨if_neg (by omega), if_neg (by omega)⟩, fun _ g hg h1 => if_neg (by omega), by rw [gr_sr_ne (fun e => absurd (h.y.P _ _ (by unfold us; omega) (by unfold us; omega) e) (by decide)), yK_gr (Nat.ne_of_lt (lt 0 (by unfold us; omega)))], fun hw => (hw.nx h.m (Or.inl rfl)).sr8 (Or.inl (by rw [(yK_ne (Nat.ne_of_lt (lt 86 (by unfold us; omega))) (by have := lt 86 (by unfold us; omega); omega)).1]; exact h.y.k86)), fun a ha => ?_⟩, fun a ha => ?_, fun a ha => ?_⟩
  · unfold TT
    split
    · exact hm3
    · exact hnb.2.2.2.2 j hj
  · show gi N' (plT pl l q g) k = _
    by_cases e : g = 16 + l
    · subst e
      have hk : k < m := by
        unfold vd TT at hv
        rcases hv with h | h | h | h | h | h <;> try omega
        have h3 := h.2.2
        rw [if_pos (by omega)] at h3
        exact h3
      rw [show plT pl l q (16 + l) = q from if_pos rfl, hrow k hk]
      congr 1
      unfold ixg
      (repeat' split) <;> omega
    · have hv' : vd H L L R T g k := by
        unfold vd TT at hv
        unfold vd
        rcases hv with h | h | h | h | h | h
        · exact Or.inl h
        · exact Or.inr (Or.inl h)
        · exact Or.inr (Or.inr (Or.inl h))
        · exact Or.inr (Or.inr (Or.inr (Or.inl h)))
        · have h3 := h.2.2
          rw [if_neg (by omega)] at h3
          exact Or.inr (Or.inr (Or.inr (Or.inr (Or.inl ⟨h.1, h.2.1, h3⟩))))
        · exact Or.inr (Or.inr (Or.inr (Or.inr (Or.inr h))))
      have a1 := lt g (vd_us hv')
      rw [show plT pl l q g = pl g from if_neg e, hN _ (by omega)]
      have e2 : gi N (pl g) k = d (ixg g k) := h.n.2 g k hv'
      rw [e2, hfar]
      rcases ixg_cases hnb hv' with ⟨a1, a2, a3⟩ | ⟨a1, a2, a3⟩ | ⟨a1, a2, a3⟩ | ⟨i, a0, a1, a2, a3⟩ | ⟨i, a0, a1, a2, a3⟩ | ⟨i, a0, a1, a2, a3⟩ | ⟨i, a0, a1, a2, a3⟩ <;> (rw [a3]; omega)
  · unfold TT
    by_cases e : j = l
    · rw [if_pos e, e]; exact hT
    · rw [if_neg e]
      exact (nT_same (hfar _ (by omega))).trans (s4 j hj)
  · obtain ⟨g, g1, g3⟩ := ha
    by_cases e : g = 16 + l
    · rw [e, show plT pl l q (16 + l) = q from if_pos rfl] at g3
      exact Or.inr (by omega)
    · rw [show plT pl l q g = pl g from if_neg e] at g3
      exact Or.inl ⟨g, g1, g3⟩
  · obtain ⟨g, g1, g2, g3⟩ := ha
    by_cases e : g = 16 + l
    · rw [e, show plT pl l q (16 + l) = q from if_pos rfl] at g3
      exact Or.inr (by omega)
    · rw [show plT pl l q g = pl g from if_neg e] at g3
      exact Or.inl ⟨g, g1, g2, g3⟩
  · have h1 : a ≠ q := by have := ha.1; omega
    have h2 : a ≠ q + 1 := by have := ha.1; omega
    have h3 : a ≠ pl 86 := fun e => ha.2 ⟨86, by unfold us; omega, by unfold fx; decide, e.symm⟩
    exact ⟨yK_ne h1 h2, fun j => by rw [gr_sr_ne h3, yK_gr h1], fun j => hN a h1 j⟩
/-- one cell of the desk's rows -/
theorem DK.sc {g : Nat} (h : DK Y q N pl H L R T ops d) (hv : vd H L L R T g k) (h1 : ¬ fx g) (hS : SZ (upd d (ixg g k) v) H L R T) (hD : DJ ops (upd d (ixg g k) v)) : DK Y q (si N (pl g) k v) pl H L R T ops (upd d (ixg g k) v) ∧ GO Y q N pl H L R Y q (si N (pl g) k v) pl R := by
  have e : si N (pl g) k v = sp N pl H L R (up2 (fun g k => gi N (pl g) k) g k v) := by
    have := si_spg (N := N) (c := fun g k => gi N (pl g) k) (k := k) (v := v) h.y.P (vd_us hv)
    rw [sp_self] at this
    exact this
  rw [e]
  exact h.low (h.n.up hv) hS hD (fun g' j hg => up2_n _ _ (Or.inl (fun e => h1 (e ▸ hg))))
theorem DK.uh (h : DK Y q N pl H L R T ops d) (hi : i < H) (hk : k < 6) (hD : DJ ops (upd d (12 + 6 * i + k) v)) : DK Y q (si N (pl (2 + i)) k v) pl H L R T ops (upd d (12 + 6 * i + k) v) ∧ GO Y q N pl H L R Y q (si N (pl (2 + i)) k v) pl R := by
  have h4 := h.h4
  have e : ixg (2 + i) k = 12 + 6 * i + k := by unfold ixg; (repeat' split) <;> omega
  have := h.sc (g := 2 + i) (k := k) (v := v) (by unfold vd; omega) (by unfold fx; omega) (by rw [e]; exact h.s.upd (by omega) (by omega) (by omega) (fun l hl => by omega)) (by rw [e]; exact hD)
  rw [e] at this
  exact this
theorem DK.ul (h : DK Y q N pl H L R T ops d) (hi : l < L) (hk : k < 3) (hD : DJ ops (upd d (48 + 7 * l + k) v)) : DK Y q (si N (pl (8 + l)) k v) pl H L R T ops (upd d (48 + 7 * l + k) v) ∧ GO Y q N pl H L R Y q (si N (pl (8 + l)) k v) pl R := by
  have h4 := h.l3
  have e : ixg (8 + l) k = 48 + 7 * l + k := by unfold ixg; (repeat' split) <;> omega
  have := h.sc (g := 8 + l) (k := k) (v := v) (by unfold vd; omega) (by unfold fx; omega) (by rw [e]; exact h.s.upd (by omega) (by omega) (by omega) (fun l hl => by omega)) (by rw [e]; exact hD)
  rw [e] at this
  exact this
theorem DK.ur (h : DK Y q N pl H L R T ops d) (hi : r < R) (hk : k < 8) (hD : DJ ops (upd d (104 + 8 * r + k) v)) : DK Y q (si N (pl (24 + r)) k v) pl H L R T ops (upd d (104 + 8 * r + k) v) ∧ GO Y q N pl H L R Y q (si N (pl (24 + r)) k v) pl R := by
  have h4 := h.y.R60
  have h3 := h.l3
  have e : ixg (24 + r) k = 104 + 8 * r + k := by unfold ixg; (repeat' split) <;> omega
  have := h.sc (g := 24 + r) (k := k) (v := v) (by unfold vd; omega) (by unfold fx; omega) (by rw [e]; exact h.s.upd (by omega) (by omega) (by omega) (fun l hl => by omega)) (by rw [e]; exact hD)
  rw [e] at this
  exact this
theorem DK.u0 (h : DK Y q N pl H L R T ops d) (hD : DJ ops (upd d 0 v)) : DK Y q (si N (pl 0) 0 v) pl H L R T ops (upd d 0 v) ∧ GO Y q N pl H L R Y q (si N (pl 0) 0 v) pl R :=
  h.sc (g := 0) (k := 0) (v := v) (by unfold vd; omega) (by unfold fx; omega) (h.s.upd (by decide) (by decide) (by decide) (fun l hl => by show 0 ≠ _; omega)) hD
theorem DK.u4 (h : DK Y q N pl H L R T ops d) (hD : DJ ops (upd d 4 v)) : DK Y q (si N (pl 0) 1 v) pl H L R T ops (upd d 4 v) ∧ GO Y q N pl H L R Y q (si N (pl 0) 1 v) pl R :=
  h.sc (g := 0) (k := 1) (v := v) (by unfold vd; omega) (by unfold fx; omega) (h.s.upd (by decide) (by decide) (by decide) (fun l hl => by show 4 ≠ _; omega)) hD
/-- a line's tenants row, read -/
theorem K_placeIn (h : DK Y q N pl H L R T ops d) (hl : l < L) {w : Int32} : f_L_placeIn Y (pl (16 + l)) w N = some (pI (sTP d l w), N) := by
  have hb := h.n.1
  have e := D_placeIn (N := N) (d := d) (l := l) (h := w) (h.y.kt hl) (h.y.nt hl) (hb.2.2.2.2 l hl) (fun k hk => h.n.t hl hk)
  unfold sTP
  rw [h.s.2.2.2 l hl]
  exact e
/-- a tenant leaves -/
theorem K_leave (h : DK Y q N pl H L R T ops d) (hl : l < L) {w : Int32} (hk : sTP d l w = some k) : ∃ N', f_L_without Y q (pl (16 + l)) (nI k) N = some (q, yK Y q 1 (T l - 1), q + 1, N') ∧ DK (sr (yK Y q 1 (T l - 1)) (pl 86) l (some q)) (q + 1) N' (plT pl l q) H L R (TT T l (T l - 1)) ops (sLeave d w l) ∧ GO Y q N pl H L R (sr (yK Y q 1 (T l - 1)) (pl 86) l (some q)) (q + 1) N' (plT pl l q) R := by
  have hb := h.n.1
  have h3 := hb.2.2.2.2 l hl
  have hnT := h.s.2.2.2 l hl
  have hl' : l < nL d := by rw [h.s.2.1]; exact hl
  have hn := h.j.ln l hl'
  rcases sLeave_or hn w with ⟨a1, -, -⟩ | ⟨k', a1, a2, a3, a4⟩
  · rw [a1] at hk; cases hk
  · rw [hk] at a1
    have := Option.some.inj a1
    subst this
    rw [hnT] at a2 a4
    obtain ⟨N', e1, e2, e3⟩ := D_without (N := N) h.m (h.y.kt hl) (h.y.nt hl) h3 a2
    refine ⟨N', e1, h.setT (m := T l - 1) hl (by omega) e3 (fun j hj => ?_) (fun j hj => ?_) ?_ (h.j.leave hl' w)⟩
    · rw [e2 j (by omega), a4]
      by_cases p : j < k
      · rw [if_pos p, if_neg (by omega), if_neg (by omega)]
        exact h.n.t hl (by omega)
      · rw [if_neg p, if_neg (by omega), if_pos (by omega)]
        exact h.n.t hl (by omega)
    · rw [a4, if_neg (by omega), if_neg (by omega)]
    · unfold nT
      rw [a4, if_pos rfl]
      exact nI_clamp (by omega)
theorem K_pays_114 {v3 : Int32} {k0 n0' : Nat} (hkn : k0 ≤ 3 ∧ n0' ≤ 12) : ∀ (z i D9 : Nat) (N : XN) (d : XD), i + z = R → z < D9 → DK Y q N pl H L R T ops d → ∃ N', f_X8_pays_114 D9 Y q (pl 0) (nI x) v3 (pl 87) (nI R) (nI i) k0 n0' N = some (v3, Y, q, N') ∧ DK Y q N' pl H L R T ops (fo (fun r e => if sHolds e (nI x) r then sAssign e r else e) i z d) ∧ GO Y q N pl H L R Y q N' pl R := by
  intro z
  induction z with
  | zero =>
    intro i D9 N d hi hD9 h
    have hY := h.y
    have h60 := hY.R60
    obtain ⟨D8, rfl⟩ : ∃ z, D9 = z + 1 := ⟨D9 - 1, by omega⟩
    refine ⟨N, ?_, h, GO.rfl'⟩
    rw [f_X8_pays_114]
    simp (disch := omega) only [↓ck, ↓lt_eq, bd_some, bd2_some, ofN, nI_lit, nI_clamp, nI_add, xb_nI, hY.k0, hY.g2, hY.g3, hY.g4, hY.g5, hY.g6, hY.p2, hY.p3, hY.p4, hY.p5, hY.p6, hY.k1, hY.n1, hY.k84, hY.n84, hY.k85, hY.n85, hY.k86, hY.n86, hY.k87, hY.n87, hY.gh, hY.ph, hY.kh, hY.nh, hY.gl, hY.pl', hY.kl, hY.nl, hY.gt, hY.pt, hY.kt, hY.nt, hY.gr', hY.pr, hY.kr, hY.nr, ↓reduceIte, pLEt, pLEf, pLTt, pLTf, pEQf, pML, pMG, pMf, pMg, eq_true hkn]
  | succ z ih =>
    intro i D9 N d hi hD9 h
    have hY := h.y
    have h60 := hY.R60
    obtain ⟨D8, rfl⟩ : ∃ z, D9 = z + 1 := ⟨D9 - 1, by omega⟩
    have r3 : gi N (pl (24 + i)) 3 = d (107 + 8 * i) := h.n.r3 (by omega)
    have r4 : gi N (pl (24 + i)) 4 = d (108 + 8 * i) := h.n.r4 (by omega)
    rw [f_X8_pays_114, fo]
    by_cases p1 : d (107 + 8 * i) = nI 1
    · by_cases p2 : d (108 + 8 * i) = nI x
      · have qq : sHolds d (nI x) i = true := by unfold sHolds sOpen; rw [decide_eq_true p1, decide_eq_true p2]; rfl
        obtain ⟨N1, a1, a2, a3⟩ := K_assign h (r := i) (by omega) p1
        obtain ⟨N', b1, b2, b3⟩ := ih (i + 1) D8 N1 (sAssign d i) (by omega) (by omega) a2
        rw [qq]
        refine ⟨N', ?_, b2, a3.trans b3⟩
        simp (disch := omega) only [↓ck, ↓lt_eq, bd_some, bd2_some, ofN, nI_lit, nI_clamp, nI_add, xb_nI, hY.k0, hY.g2, hY.g3, hY.g4, hY.g5, hY.g6, hY.p2, hY.p3, hY.p4, hY.p5, hY.p6, hY.k1, hY.n1, hY.k84, hY.n84, hY.k85, hY.n85, hY.k86, hY.n86, hY.k87, hY.n87, hY.gh, hY.ph, hY.kh, hY.nh, hY.gl, hY.pl', hY.kl, hY.nl, hY.gt, hY.pt, hY.kt, hY.nt, hY.gr', hY.pr, hY.kr, hY.nr, ↓reduceIte, pLEt, pLEf, pLTt, pLTf, pEQf, pML, pMG, pMf, pMg, r3, r4, eq_true p1, eq_true p2, eq_true hkn, bd_of a1]
        exact b1
      · have qq : sHolds d (nI x) i = false := by unfold sHolds; rw [decide_eq_false p2, Bool.and_false]
        obtain ⟨N', b1, b2, b3⟩ := ih (i + 1) D8 N d (by omega) (by omega) h
        rw [qq]
        refine ⟨N', ?_, b2, b3⟩
        simp (disch := omega) only [↓ck, ↓lt_eq, bd_some, bd2_some, ofN, nI_lit, nI_clamp, nI_add, xb_nI, hY.k0, hY.g2, hY.g3, hY.g4, hY.g5, hY.g6, hY.p2, hY.p3, hY.p4, hY.p5, hY.p6, hY.k1, hY.n1, hY.k84, hY.n84, hY.k85, hY.n85, hY.k86, hY.n86, hY.k87, hY.n87, hY.gh, hY.ph, hY.kh, hY.nh, hY.gl, hY.pl', hY.kl, hY.nl, hY.gt, hY.pt, hY.kt, hY.nt, hY.gr', hY.pr, hY.kr, hY.nr, ↓reduceIte, pLEt, pLEf, pLTt, pLTf, pEQf, pML, pMG, pMf, pMg, r3, r4, eq_true p1, eq_false p2]
        exact b1
    · have qq : sHolds d (nI x) i = false := by unfold sHolds sOpen; rw [decide_eq_false p1, Bool.false_and]
      obtain ⟨N', b1, b2, b3⟩ := ih (i + 1) D8 N d (by omega) (by omega) h
      rw [qq]
      refine ⟨N', ?_, b2, b3⟩
      simp (disch := omega) only [↓ck, ↓lt_eq, bd_some, bd2_some, ofN, nI_lit, nI_clamp, nI_add, xb_nI, hY.k0, hY.g2, hY.g3, hY.g4, hY.g5, hY.g6, hY.p2, hY.p3, hY.p4, hY.p5, hY.p6, hY.k1, hY.n1, hY.k84, hY.n84, hY.k85, hY.n85, hY.k86, hY.n86, hY.k87, hY.n87, hY.gh, hY.ph, hY.kh, hY.nh, hY.gl, hY.pl', hY.kl, hY.nl, hY.gt, hY.pt, hY.kt, hY.nt, hY.gr', hY.pr, hY.kr, hY.nr, ↓reduceIte, pLEt, pLEf, pLTt, pLTf, pEQf, pML, pMG, pMf, pMg, r3, eq_false p1]
      exact b1
theorem pI_none {o : Option Nat} (h : o = none) : pI o = -nI 1 := by rw [h]; rfl
theorem K_pays_42 {v3 : Int32} : ∀ (z l D9 k0 n0' : Nat) (Y : XY) (q : Nat) (N : XN) (pl : Nat → Nat) (T : Nat → Nat) (d : XD), l + z = L → z < D9 → DK Y q N pl H L R T ops d → k0 + z ≤ 3 → n0' + 4 * z ≤ 12 → ∃ Y' q' N' pl' T', f_X8_pays_42 D9 Y q (pl 0) (nI x) v3 (nI l) k0 n0' N = some (v3, Y', q', N') ∧ DK Y' q' N' pl' H L R T' ops (sReAll (fo (fun l e => sLeave e (nI x) l) l z d) (nI x)) ∧ GO Y q N pl H L R Y' q' N' pl' R := by
  intro z
  induction z with
  | zero =>
    intro l D9 k0 n0' Y q N pl T d hl hD9 h hk hn
    have hY := h.y
    have h60 := hY.R60
    have h8 := hY.L8
    obtain ⟨D8, rfl⟩ : ∃ z, D9 = z + 1 := ⟨D9 - 1, by omega⟩
    obtain ⟨N', b1, b2, b3⟩ := K_pays_114 (x := x) (v3 := v3) (k0 := k0) (n0' := n0') ⟨by omega, by omega⟩ R 0 FU N d (by omega) (by unfold FU; omega) h
    refine ⟨Y, q, N', pl, T, ?_, ?_, b3⟩
    · rw [f_X8_pays_42]
      simp (disch := omega) only [↓ck, ↓lt_eq, bd_some, bd2_some, ofN, nI_lit, nI_clamp, nI_add, xb_nI, hY.k0, hY.g2, hY.g3, hY.g4, hY.g5, hY.g6, hY.p2, hY.p3, hY.p4, hY.p5, hY.p6, hY.k1, hY.n1, hY.k84, hY.n84, hY.k85, hY.n85, hY.k86, hY.n86, hY.k87, hY.n87, hY.gh, hY.ph, hY.kh, hY.nh, hY.gl, hY.pl', hY.kl, hY.nl, hY.gt, hY.pt, hY.kt, hY.nt, hY.gr', hY.pr, hY.kr, hY.nr, ↓reduceIte, pLEt, pLEf, pLTt, pLTf, pEQf, pML, pMG, pMf, pMg]
      exact b1
    · unfold sReAll
      rw [fo, h.s.2.2.1]
      exact b2
  | succ z ih =>
    intro l D9 k0 n0' Y q N pl T d hl hD9 h hk hn
    have hY := h.y
    have h60 := hY.R60
    have h8 := hY.L8
    have hc0 : k0 ≤ 3 ∧ n0' ≤ 12 := ⟨by omega, by omega⟩
    have hc1 : k0 + 1 ≤ 3 ∧ n0' + 4 ≤ 12 := ⟨by omega, by omega⟩
    obtain ⟨D8, rfl⟩ : ∃ z, D9 = z + 1 := ⟨D9 - 1, by omega⟩
    have pp := K_placeIn h (l := l) (by omega) (w := nI x)
    rw [f_X8_pays_42, fo]
    cases hk9 : sTP d l (nI x) with
    | none =>
      rw [pI_none hk9] at pp
      have e : sLeave d (nI x) l = d := by unfold sLeave; rw [hk9]
      obtain ⟨Y', q', N', pl', T', b1, b2, b3⟩ := ih (l + 1) D8 k0 n0' Y q N pl T d (by omega) (by omega) h (by omega) (by omega)
      rw [e]
      refine ⟨Y', q', N', pl', T', ?_, b2, b3⟩
      simp (disch := omega) only [↓ck, ↓lt_eq, bd_some, bd2_some, ofN, nI_lit, nI_clamp, nI_add, xb_nI, hY.k0, hY.g2, hY.g3, hY.g4, hY.g5, hY.g6, hY.p2, hY.p3, hY.p4, hY.p5, hY.p6, hY.k1, hY.n1, hY.k84, hY.n84, hY.k85, hY.n85, hY.k86, hY.n86, hY.k87, hY.n87, hY.gh, hY.ph, hY.kh, hY.nh, hY.gl, hY.pl', hY.kl, hY.nl, hY.gt, hY.pt, hY.kt, hY.nt, hY.gr', hY.pr, hY.kr, hY.nr, ↓reduceIte, pLEt, pLEf, pLTt, pLTf, pEQf, pML, pMG, pMf, pMg, eq_true hc0, bd2_of pp]
      exact b1
    | some k =>
      have hkk : k < 2 ^ 31 := sTP_lt k hk9
      have e : pI (sTP d l (nI x)) = nI k := by rw [hk9]; rfl
      rw [e] at pp
      obtain ⟨N1, a1, a2, a3⟩ := K_leave h (l := l) (by omega) hk9
      obtain ⟨Y', q', N', pl', T', b1, b2, b3⟩ := ih (l + 1) D8 (k0 + 1) (n0' + 4) _ _ N1 _ _ _ (by omega) (by omega) a2 (by omega) (by omega)
      refine ⟨Y', q', N', pl', T', ?_, b2, a3.trans b3⟩
      rw [a3.p0] at b1
      have u86 := us_lt h.m hY (g := 86) (by unfold us; omega)
      have c1 : kc (yK Y q 1 (T l - 1)) (pl 86) = 8 := by rw [(yK_ne (by omega) (by omega)).1]; exact hY.k86
      have c2 : kn (yK Y q 1 (T l - 1)) (pl 86) = L := by rw [(yK_ne (by omega) (by omega)).2]; exact hY.n86
      have c3 : kc (yK Y q 1 (T l - 1)) q = 1 := kcq rfl
      simp (disch := omega) only [↓ck, ↓lt_eq, bd_some, bd2_some, ofN, nI_lit, nI_clamp, nI_add, xb_nI, hY.k0, hY.g2, hY.g3, hY.g4, hY.g5, hY.g6, hY.p2, hY.p3, hY.p4, hY.p5, hY.p6, hY.k1, hY.n1, hY.k84, hY.n84, hY.k85, hY.n85, hY.k86, hY.n86, hY.k87, hY.n87, hY.gh, hY.ph, hY.kh, hY.nh, hY.gl, hY.pl', hY.kl, hY.nl, hY.gt, hY.pt, hY.kt, hY.nt, hY.gr', hY.pr, hY.kr, hY.nr, ↓reduceIte, pLEt, pLEf, pLTt, pLTf, pEQf, pML, pMG, pMf, pMg, eq_true hc0, eq_true hc1, bd2_of pp, bd4_of a1, c1, c2, c3]
      exact b1
theorem K_pays (h : DK Y q N pl H L R T ops d) (hx : x < H) {amt : Int32} : ∃ Y' q' N' pl' T', f_X8_pays Y q (pl 0) (nI x) amt N = some (mn amt (d (12 + 6 * x)), Y', q', N') ∧ DK Y' q' N' pl' H L R T' ops (sTake d x amt) ∧ GO Y q N pl H L R Y' q' N' pl' R := by
  have hY := h.y
  have h6 := hY.H6
  have hL := h.l3
  have hj := h.j
  have hx' : x < nH d := by rw [h.s.1]; exact hx
  have p0 : gi N (pl (2 + x)) 0 = d (12 + 6 * x) := h.n.h0 hx
  have D1 : DJ ops (upd d (12 + 6 * x) (d (12 + 6 * x) - mn amt (d (12 + 6 * x)))) := DJ_F hj (fun j hj => by unfold FX at hj; exact upd_n (by omega))
  obtain ⟨a1, a2⟩ := h.uh (i := x) (k := 0) (v := d (12 + 6 * x) - mn amt (d (12 + 6 * x))) hx (by omega) D1
  have mm : mn (d (12 + 6 * x)) amt = mn amt (d (12 + 6 * x)) := mn_comm _ _
  have cnd : (amt ≤ mn amt (d (12 + 6 * x))) = (mn amt (d (12 + 6 * x)) = amt) := by
    unfold mn
    by_cases q9 : d (12 + 6 * x) ≤ amt
    · rw [if_pos q9]
      refine propext ⟨fun h => ?_, fun h => by rw [h]; exact Int32.le_refl _⟩
      rw [Int32.le_iff_toInt_le] at q9 h
      exact Int32.toInt_inj.mp (by omega)
    · rw [if_neg q9]
      exact propext ⟨fun _ => rfl, fun _ => Int32.le_refl _⟩
  have ff : f_X8_pays Y q (pl 0) (nI x) amt N = if mn amt (d (12 + 6 * x)) = amt then some (mn amt (d (12 + 6 * x)), Y, q, si N (pl (2 + x)) 0 (d (12 + 6 * x) - mn amt (d (12 + 6 * x)))) else f_X8_pays_42 FU Y q (pl 0) (nI x) (mn amt (d (12 + 6 * x))) (nI 0) 0 0 (si (si N (pl (2 + x)) 0 (d (12 + 6 * x) - mn amt (d (12 + 6 * x)))) (pl (2 + x)) 2 (nI 1)) := by
    unfold f_X8_pays
    simp (disch := omega) only [↓ck, ↓lt_eq, bd_some, bd2_some, ofN, nI_lit, nI_clamp, nI_add, xb_nI, hY.k0, hY.g2, hY.g3, hY.g4, hY.g5, hY.g6, hY.p2, hY.p3, hY.p4, hY.p5, hY.p6, hY.k1, hY.n1, hY.k84, hY.n84, hY.k85, hY.n85, hY.k86, hY.n86, hY.k87, hY.n87, hY.gh, hY.ph, hY.kh, hY.nh, hY.gl, hY.pl', hY.kl, hY.nl, hY.gt, hY.pt, hY.kt, hY.nt, hY.gr', hY.pr, hY.kr, hY.nr, ↓reduceIte, pLEt, pLEf, pLTt, pLTf, pEQf, pML, pMG, pMf, pMg, bd2_of D_min, p0, mm, cnd]
  rw [ff]
  unfold sTake
  by_cases p : mn amt (d (12 + 6 * x)) = amt
  · rw [if_pos p, if_pos p]
    exact ⟨Y, q, _, pl, T, rfl, a1, a2⟩
  · rw [if_neg p, if_neg p]
    have D2 := D1.broke (h := x) (by rw [nH_same (upd_n (by omega))]; exact hx')
    have e14 : 14 + 6 * x = 12 + 6 * x + 2 := by omega
    rw [e14] at D2
    obtain ⟨b1, b2⟩ := a1.uh (i := x) (k := 2) (v := nI 1) hx (by omega) D2
    obtain ⟨Y', q', N', pl', T', c1, c2, c3⟩ := K_pays_42 (x := x) (v3 := mn amt (d (12 + 6 * x))) L 0 FU 0 0 _ _ _ _ _ _ (by omega) (by unfold FU; omega) b1 (by omega) (by omega)
    refine ⟨Y', q', N', pl', T', c1, ?_, (a2.trans b2).trans c3⟩
    unfold sBankrupt sLeaveAll
    rw [e14, show nL (upd (upd d (12 + 6 * x) (d (12 + 6 * x) - mn amt (d (12 + 6 * x)))) (12 + 6 * x + 2) (nI 1)) = L from b1.s.2.1]
    exact c2
end DP
