/-! THE DESK'S TICK: work, fines, all -/
theorem gi_sl {N : XN} {a k b j : Nat} {v : Int64} : gi (sl N a k v) b j = gi N b j := (rfl)
theorem gl_sl_s {N : XN} {a k : Nat} {v : Int64} : gl (sl N a k v) a k = v := by
  simp only [gl, sl, and_self, if_true]
theorem gl_sl_n {N : XN} {a k b j : Nat} {v : Int64} (h : j ≠ k) : gl (sl N a k v) b j = gl N b j := by
  simp only [gl, sl, if_neg (fun z : b = a ∧ j = k => h z.2)]
theorem bd_ite {α β : Type} [Inhabited α] (a : Option α) (f : α → Option β) : bd a f = if a.isSome = true then f (a.getD default) else none := by
  cases a <;> rfl
theorem bd2_ite {α β γ : Type} [Inhabited α] [Inhabited β] (a : Option (α × β)) (f : α → β → Option γ) : bd2 a f = if a.isSome = true then f (a.getD default).1 (a.getD default).2 else none := by
  cases a <;> rfl
theorem bd3_ite {α β γ δ : Type} [Inhabited α] [Inhabited β] [Inhabited γ] (a : Option (α × β × γ)) (f : α → β → γ → Option δ) : bd3 a f = if a.isSome = true then f (a.getD default).1 (a.getD default).2.1 (a.getD default).2.2 else none := by
  cases a <;> rfl
theorem bd4_ite {α β γ ε δ : Type} [Inhabited α] [Inhabited β] [Inhabited γ] [Inhabited ε] (a : Option (α × β × γ × ε)) (f : α → β → γ → ε → Option δ) : bd4 a f = if a.isSome = true then f (a.getD default).1 (a.getD default).2.1 (a.getD default).2.2.1 (a.getD default).2.2.2 else none := by
  cases a <;> rfl
theorem nl_ite {α β : Type} [Inhabited α] (o : Option α) (a : Option β) (f : α → Option β) : nl o a f = if o.isSome = true then f (o.getD default) else a := by
  cases o <;> rfl
theorem nl_s {α β : Type} {p : α} {a : Option β} {f : α → Option β} : nl (some p) a f = f p := (rfl)
theorem nl_n {α β : Type} {a : Option β} {f : α → Option β} : nl none a f = a := (rfl)
theorem sAnswer_at {d : XD} {r h : Nat} (hl : lR d r < 8) (h6 : h < 6) (h60 : r < 60) : sAnswer d r h = upd (upd (upd (upd (upd (upd d (50 + 7 * lR d r) (d (50 + 7 * lR d r) - mn (d (50 + 7 * lR d r)) (d 9 * d (106 + 8 * r)))) (12 + 6 * h) (d (12 + 6 * h) + mn (d (50 + 7 * lR d r)) (d 9 * d (106 + 8 * r)))) (17 + 6 * h) (d (17 + 6 * h) + mn (d (50 + 7 * lR d r)) (d 9 * d (106 + 8 * r)))) (107 + 8 * r) (nI 2)) (108 + 8 * r) (-nI 1)) (110 + 8 * r) (d 0) := by
  funext j
  unfold sAnswer
  by_cases h1 : j = 107 + 8 * r
  · subst h1; simp (disch := omega) only [upd_s, upd_n]
  · by_cases h2 : j = 108 + 8 * r
    · subst h2; simp (disch := omega) only [upd_s, upd_n]; rfl
    · by_cases h3 : j = 110 + 8 * r
      · subst h3; simp (disch := omega) only [upd_s, upd_n]
      · by_cases h4 : j = 17 + 6 * h
        · subst h4; simp (disch := omega) only [upd_s, upd_n]
        · by_cases h5 : j = 12 + 6 * h
          · subst h5; simp (disch := omega) only [upd_s, upd_n]
          · by_cases h7 : j = 50 + 7 * lR d r
            · subst h7; simp (disch := omega) only [upd_s, upd_n]
            · simp (disch := omega) only [upd_n]
section DW
variable {N : XN} {Y : XY} {pl : Nat → Nat} {H L R : Nat} {T : Nat → Nat} {c : Nat → Nat → Int32} {d : XD} {ops : List Int32}
theorem D_72 (hY : DY Y pl H L L R T) {x q k n : Nat} (hx : x < H) (hk : k ≤ 224 ∧ n ≤ 832) : ∀ (z i D9 : Nat) (s : Int32 × XD) (c : Nat → Nat → Int32), i + z = R → z < D9 → DN H L L R T s.2 c → SZ s.2 H L R T → DJ ops s.2 →
    ∃ c', (∀ K52, f_X8_tick_72 K52 D9 Y q (pl 0) (nI x) s.1 (nI i) k n (sp N pl H L R c) = K52 Y q (pl 0) (nI (x + 1)) k n (sp N pl H L R c')) ∧ DN H L L R T (fo (sWorkF x) i z s).2 c' ∧ SZ (fo (sWorkF x) i z s).2 H L R T ∧ DJ ops (fo (sWorkF x) i z s).2 ∧ ∀ g k, fx g → c' g k = c g k := by
  have h60 := hY.R60
  have h6 := hY.H6
  have h8 := hY.L8
  intro z
  induction z with
  | zero =>
    intro i D9 s c hi hD9 hN hS hD
    obtain ⟨D8, rfl⟩ : ∃ z, D9 = z + 1 := ⟨D9 - 1, by omega⟩
    refine ⟨c, fun K52 => ?_, hN, hS, hD, fun _ _ _ => rfl⟩
    rw [f_X8_tick_72]
    simp (disch := omega) only [↓ck, ↓lt_eq, bd_some, bd2_some, ofN, nI_lit, nI_clamp, nI_add, xb_nI, hY.k0, hY.g2, hY.g3, hY.g4, hY.g5, hY.g6, hY.p2, hY.p3, hY.p4, hY.p5, hY.p6, hY.k1, hY.n1, hY.k84, hY.n84, hY.k85, hY.n85, hY.k86, hY.n86, hY.k87, hY.n87, hY.gh, hY.ph, hY.kh, hY.nh, hY.gl, hY.pl', hY.kl, hY.nl, hY.gt, hY.pt, hY.kt, hY.nt, hY.gr', hY.pr, hY.kr, hY.nr, gi_sp0 hY.P, gi_sp1 hY.P, gi_sph hY.P, gi_spl hY.P, gi_spt hY.P, gi_spr hY.P, si_sp0 hY.P, si_sph hY.P, si_spl hY.P, si_spr hY.P, ↓reduceIte, pLEt, pLEf, pLTt, pLTf, pEQf, pML, pMG, pMf, pMg]
  | succ z ih =>
    intro i D9 s c hi hD9 hN hS hD
    obtain ⟨D8, rfl⟩ : ∃ z, D9 = z + 1 := ⟨D9 - 1, by omega⟩
    obtain ⟨u, d⟩ := s
    change DN H L L R T d c at hN
    change SZ d H L R T at hS
    change DJ ops d at hD
    have hi' : i < nR d := by rw [hS.2.2.1]; omega
    have hx' : x < nH d := by rw [hS.1]; exact hx
    by_cases p0 : u ≤ nI 0
    · refine ⟨c, fun K52 => ?_, ?_, ?_, ?_, fun _ _ _ => rfl⟩
      · rw [f_X8_tick_72]
        simp (disch := omega) only [↓ck, ↓lt_eq, bd_some, bd2_some, ofN, nI_lit, nI_clamp, nI_add, xb_nI, hY.k0, hY.g2, hY.g3, hY.g4, hY.g5, hY.g6, hY.p2, hY.p3, hY.p4, hY.p5, hY.p6, hY.k1, hY.n1, hY.k84, hY.n84, hY.k85, hY.n85, hY.k86, hY.n86, hY.k87, hY.n87, hY.gh, hY.ph, hY.kh, hY.nh, hY.gl, hY.pl', hY.kl, hY.nl, hY.gt, hY.pt, hY.kt, hY.nt, hY.gr', hY.pr, hY.kr, hY.nr, gi_sp0 hY.P, gi_sp1 hY.P, gi_sph hY.P, gi_spl hY.P, gi_spt hY.P, gi_spr hY.P, si_sp0 hY.P, si_sph hY.P, si_spl hY.P, si_spr hY.P, ↓reduceIte, pLEt, pLEf, pLTt, pLTf, pEQf, pML, pMG, pMf, pMg, eq_true p0]
      · rw [fo_work_0 (s := (u, d)) p0]; exact hN
      · rw [fo_work_0 (s := (u, d)) p0]; exact hS
      · rw [fo_work_0 (s := (u, d)) p0]; exact hD
    · rw [fo, sWorkF_eq, if_neg p0]
      by_cases p1 : d (107 + 8 * i) = nI 1
      · by_cases p2 : d (108 + 8 * i) = nI x
        · have qq : sHolds d (nI x) i = true := by unfold sHolds sOpen; rw [decide_eq_true p1, decide_eq_true p2]; rfl
          rw [if_pos qq]
          obtain ⟨hl, el⟩ := hD.line hi'
          rw [hS.2.1] at hl
          have hD1 := hD.done p0 hi'
          have hN1 := (hN.ur5 (r := i) (by omega) (v := d (109 + 8 * i) - mn u (d (109 + 8 * i)))).ur7 (r := i) (by omega) (v := d 0)
          have hS1 : SZ (sDone d u i) H L R T := (hS.upd (by omega) (by omega) (by omega) (fun l hl => by omega)).upd (by omega) (by omega) (by omega) (fun l hl => by omega)
          have le0 : (d (109 + 8 * i) - mn u (d (109 + 8 * i)) ≤ nI 0) = (d (109 + 8 * i) - mn u (d (109 + 8 * i)) = nI 0) := by
            obtain ⟨-, -, ⟨y, y1, y2⟩, -, -⟩ := hD1.rq i (by rw [hS1.2.2.1]; omega)
            have e : sDone d u i (109 + 8 * i) = d (109 + 8 * i) - mn u (d (109 + 8 * i)) := by
              unfold sDone
              rw [upd_n (by omega), upd_s]
            rw [e] at y2
            rw [y2]
            refine propext ⟨fun q => ?_, fun q => by rw [q]; exact nI_le (Nat.le_refl _) (by omega)⟩
            by_cases e0 : y = 0
            · rw [e0]
            · have := pLEf (a := y) (b := 0) (by omega) (by omega)
              rw [this] at q
              exact q.elim
          by_cases p3 : d (109 + 8 * i) - mn u (d (109 + 8 * i)) = nI 0
          · rw [if_pos p3]
            have eA := sAnswer_at (d := sDone d u i) (r := i) (h := x) (by rw [show lR (sDone d u i) i = lR d i by unfold lR sDone; rw [upd_n (by omega), upd_n (by omega)]]; omega) (by omega) (by omega)
            have eL : lR (sDone d u i) i = lR d i := by unfold lR sDone; rw [upd_n (by omega), upd_n (by omega)]
            have f0 : ∀ j, j ≠ 109 + 8 * i → j ≠ 111 + 8 * i → sDone d u i j = d j := fun j h1 h2 => by unfold sDone; rw [upd_n h2, upd_n h1]
            rw [eL, f0 (50 + 7 * lR d i) (by omega) (by omega), f0 9 (by omega) (by omega), f0 (106 + 8 * i) (by omega) (by omega), f0 (12 + 6 * x) (by omega) (by omega), f0 (17 + 6 * x) (by omega) (by omega), f0 0 (by omega) (by omega)] at eA
            have hD2 := (hD1.answer (r := i) (h := x) (by rw [hS1.2.2.1]; omega) (by rw [hS1.1]; exact hx)).1
            have hN2 := (((((hN1.ul2 hl (v := d (50 + 7 * lR d i) - mn (d (50 + 7 * lR d i)) (d 9 * d (106 + 8 * i)))).uh0 hx (v := d (12 + 6 * x) + mn (d (50 + 7 * lR d i)) (d 9 * d (106 + 8 * i)))).uh5 hx (v := d (17 + 6 * x) + mn (d (50 + 7 * lR d i)) (d 9 * d (106 + 8 * i)))).ur3 (r := i) (by omega) (v := nI 2)).ur4 (r := i) (by omega) (v := -nI 1)).ur6 (r := i) (by omega) (v := d 0)
            have hS2 : SZ (sAnswer (sDone d u i) i x) H L R T := by
              rw [eA]
              exact (((((hS1.upd (by omega) (by omega) (by omega) (fun l hl => by omega)).upd (by omega) (by omega) (by omega) (fun l hl => by omega)).upd (by omega) (by omega) (by omega) (fun l hl => by omega)).upd (by omega) (by omega) (by omega) (fun l hl => by omega)).upd (by omega) (by omega) (by omega) (fun l hl => by omega)).upd (by omega) (by omega) (by omega) (fun l hl => by omega)
            obtain ⟨c', a1, a2, a3, a4, a5⟩ := ih (i + 1) D8 (u - mn u (d (109 + 8 * i)), sAnswer (sDone d u i) i x) _ (by omega) (by omega) (by rw [eA]; exact hN2) hS2 hD2
            refine ⟨c', fun K52 => ?_, a2, a3, a4, fun g k hg => ?_⟩
            · rw [f_X8_tick_72]
              simp (disch := omega) only [↓ck, ↓lt_eq, bd_some, bd2_some, ofN, nI_lit, nI_clamp, nI_add, xb_nI, hY.k0, hY.g2, hY.g3, hY.g4, hY.g5, hY.g6, hY.p2, hY.p3, hY.p4, hY.p5, hY.p6, hY.k1, hY.n1, hY.k84, hY.n84, hY.k85, hY.n85, hY.k86, hY.n86, hY.k87, hY.n87, hY.gh, hY.ph, hY.kh, hY.nh, hY.gl, hY.pl', hY.kl, hY.nl, hY.gt, hY.pt, hY.kt, hY.nt, hY.gr', hY.pr, hY.kr, hY.nr, gi_sp0 hY.P, gi_sp1 hY.P, gi_sph hY.P, gi_spl hY.P, gi_spt hY.P, gi_spr hY.P, si_sp0 hY.P, si_sph hY.P, si_spl hY.P, si_spr hY.P, ↓reduceIte, pLEt, pLEf, pLTt, pLTf, pEQf, pML, pMG, pMf, pMg, ↓bd_ite, ↓bd2_ite, ↓bd3_ite, ↓bd4_ite, Option.isSome_some, Option.getD_some, up2_s, up2_n, eq_true hk, eq_false p0, hN.r0, hN.r2, hN.r3, hN.r4, hN.r5, hN.w0, hN.l2, hN.n4, hN.h0, hN.h5, el, eq_true p1, eq_true p2, D_min, mn_comm (d (109 + 8 * i)) u, le0, eq_true p3, mn_comm (d 9 * d (106 + 8 * i)) (d (50 + 7 * lR d i))]
              exact a1 K52
            · unfold fx at hg
              rw [a5 g k hg]
              simp (disch := omega) only [up2_n]
          · rw [if_neg p3]
            obtain ⟨c', a1, a2, a3, a4, a5⟩ := ih (i + 1) D8 (u - mn u (d (109 + 8 * i)), sDone d u i) _ (by omega) (by omega) hN1 hS1 hD1
            refine ⟨c', fun K52 => ?_, a2, a3, a4, fun g k hg => ?_⟩
            · rw [f_X8_tick_72]
              simp (disch := omega) only [↓ck, ↓lt_eq, bd_some, bd2_some, ofN, nI_lit, nI_clamp, nI_add, xb_nI, hY.k0, hY.g2, hY.g3, hY.g4, hY.g5, hY.g6, hY.p2, hY.p3, hY.p4, hY.p5, hY.p6, hY.k1, hY.n1, hY.k84, hY.n84, hY.k85, hY.n85, hY.k86, hY.n86, hY.k87, hY.n87, hY.gh, hY.ph, hY.kh, hY.nh, hY.gl, hY.pl', hY.kl, hY.nl, hY.gt, hY.pt, hY.kt, hY.nt, hY.gr', hY.pr, hY.kr, hY.nr, gi_sp0 hY.P, gi_sp1 hY.P, gi_sph hY.P, gi_spl hY.P, gi_spt hY.P, gi_spr hY.P, si_sp0 hY.P, si_sph hY.P, si_spl hY.P, si_spr hY.P, ↓reduceIte, pLEt, pLEf, pLTt, pLTf, pEQf, pML, pMG, pMf, pMg, ↓bd_ite, ↓bd2_ite, ↓bd3_ite, ↓bd4_ite, Option.isSome_some, Option.getD_some, up2_s, up2_n, eq_true hk, eq_false p0, hN.r3, hN.r4, hN.r5, hN.w0, eq_true p1, eq_true p2, D_min, mn_comm (d (109 + 8 * i)) u, le0, eq_false p3]
              exact a1 K52
            · unfold fx at hg
              rw [a5 g k hg]
              simp (disch := omega) only [up2_n]
        · have qq : ¬ sHolds d (nI x) i = true := by unfold sHolds; rw [decide_eq_false p2, Bool.and_false]; exact Bool.false_ne_true
          rw [if_neg qq]
          obtain ⟨c', a1, a2, a3, a4, a5⟩ := ih (i + 1) D8 (u, d) c (by omega) (by omega) hN hS hD
          refine ⟨c', fun K52 => ?_, a2, a3, a4, a5⟩
          rw [f_X8_tick_72]
          simp (disch := omega) only [↓ck, ↓lt_eq, bd_some, bd2_some, ofN, nI_lit, nI_clamp, nI_add, xb_nI, hY.k0, hY.g2, hY.g3, hY.g4, hY.g5, hY.g6, hY.p2, hY.p3, hY.p4, hY.p5, hY.p6, hY.k1, hY.n1, hY.k84, hY.n84, hY.k85, hY.n85, hY.k86, hY.n86, hY.k87, hY.n87, hY.gh, hY.ph, hY.kh, hY.nh, hY.gl, hY.pl', hY.kl, hY.nl, hY.gt, hY.pt, hY.kt, hY.nt, hY.gr', hY.pr, hY.kr, hY.nr, gi_sp0 hY.P, gi_sp1 hY.P, gi_sph hY.P, gi_spl hY.P, gi_spt hY.P, gi_spr hY.P, si_sp0 hY.P, si_sph hY.P, si_spl hY.P, si_spr hY.P, ↓reduceIte, pLEt, pLEf, pLTt, pLTf, pEQf, pML, pMG, pMf, pMg, eq_false p0, hN.r3, hN.r4, eq_true p1, eq_false p2]
          exact a1 K52
      · have qq : ¬ sHolds d (nI x) i = true := by unfold sHolds sOpen; rw [decide_eq_false p1, Bool.false_and]; exact Bool.false_ne_true
        rw [if_neg qq]
        obtain ⟨c', a1, a2, a3, a4, a5⟩ := ih (i + 1) D8 (u, d) c (by omega) (by omega) hN hS hD
        refine ⟨c', fun K52 => ?_, a2, a3, a4, a5⟩
        rw [f_X8_tick_72]
        simp (disch := omega) only [↓ck, ↓lt_eq, bd_some, bd2_some, ofN, nI_lit, nI_clamp, nI_add, xb_nI, hY.k0, hY.g2, hY.g3, hY.g4, hY.g5, hY.g6, hY.p2, hY.p3, hY.p4, hY.p5, hY.p6, hY.k1, hY.n1, hY.k84, hY.n84, hY.k85, hY.n85, hY.k86, hY.n86, hY.k87, hY.n87, hY.gh, hY.ph, hY.kh, hY.nh, hY.gl, hY.pl', hY.kl, hY.nl, hY.gt, hY.pt, hY.kt, hY.nt, hY.gr', hY.pr, hY.kr, hY.nr, gi_sp0 hY.P, gi_sp1 hY.P, gi_sph hY.P, gi_spl hY.P, gi_spt hY.P, gi_spr hY.P, si_sp0 hY.P, si_sph hY.P, si_spl hY.P, si_spr hY.P, ↓reduceIte, pLEt, pLEf, pLTt, pLTf, pEQf, pML, pMG, pMf, pMg, eq_false p0, hN.r3, eq_false p1]
        exact a1 K52
end DW
/-- what follows the fines -/
noncomputable def eT (d : XD) : XD := sT5 (@ite _ (duR d) (Classical.propDecidable _) (fo (fun l e => sRent e l) 0 (nL d) d) d)
theorem eT_tick {ops : List Int32} {d : XD} : eT (sT3 ops (sT2 (sT1 d))) = sTick ops d := by
  unfold eT sTick duR sT4
  by_cases q : (sT3 ops (sT2 (sT1 d)) 0 + nI 1) - (sT3 ops (sT2 (sT1 d)) 0 + nI 1) / sT3 ops (sT2 (sT1 d)) 8 * sT3 ops (sT2 (sT1 d)) 8 = nI 0
  · rw [if_pos q, if_pos q]
  · rw [if_neg q, if_neg q]
section DTT
variable {H L R : Nat} {ops : List Int32} {l r i x : Nat}
theorem K_265 : ∀ (z i D9 k n : Nat) (Y : XY) (q : Nat) (N : XN) (pl : Nat → Nat) (T : Nat → Nat) (d : XD), i + z = R → z < D9 → DK Y q N pl H L R T ops d → BK d → TM Y N (pl 0) ops → tM d ≤ 1000000 → k + 4 * z + 9 * L ≤ 224 ∧ n + 16 * z + 36 * L ≤ 832 →
    ∃ Y' q' N' pl' T', f_X8_tick_265 D9 Y q (pl 0) (pl 87) (nI R) (nI i) k n N = some (Y', q', N') ∧ DK Y' q' N' pl' H L R T' ops (eT (fo (sT3F ops) i z d)) ∧ BK (eT (fo (sT3F ops) i z d)) ∧ GO Y q N pl H L R Y' q' N' pl' R := by
  intro z
  induction z with
  | zero =>
    intro i D9 k n Y q N pl T d hi hD9 h hb hM hT hk
    have hY := h.y
    have h60 := hY.R60
    obtain ⟨D8, rfl⟩ : ∃ z, D9 = z + 1 := ⟨D9 - 1, by omega⟩
    obtain ⟨Y', q', N', pl', T', b1, b2, b3, b4⟩ := K_453 L 0 FU k n Y q N pl T d (by omega) (by unfold FU; have := h.l3; omega) h hb (by omega) ⟨by omega, by omega⟩
    have e : eT (fo (sT3F ops) i 0 d) = sT5 (@ite _ (duR d) (Classical.propDecidable _) (fo (fun l e => sRent e l) 0 L d) d) := by
      unfold eT
      rw [fo, h.s.2.1]
    rw [e]
    refine ⟨Y', q', N', pl', T', ?_, b2, b3, b4⟩
    rw [f_X8_tick_265]
    simp (disch := omega) only [↓ck, ↓lt_eq, bd_some, bd2_some, ofN, nI_lit, nI_clamp, nI_add, xb_nI, hY.k0, hY.g2, hY.g3, hY.g4, hY.g5, hY.g6, hY.p2, hY.p3, hY.p4, hY.p5, hY.p6, hY.k1, hY.n1, hY.k84, hY.n84, hY.k85, hY.n85, hY.k86, hY.n86, hY.k87, hY.n87, hY.gh, hY.ph, hY.kh, hY.nh, hY.gl, hY.pl', hY.kl, hY.nl, hY.gt, hY.pt, hY.kt, hY.nt, hY.gr', hY.pr, hY.kr, hY.nr, ↓reduceIte, pLEt, pLEf, pLTt, pLTf, pEQf, pML, pMG, pMf, pMg]
    exact b1
  | succ z ih =>
    intro i D9 k n Y q N pl T d hi hD9 h hb hM hT hk
    have hY := h.y
    have h60 := hY.R60
    have h6 := hY.H6
    have h3 := h.l3
    obtain ⟨D8, rfl⟩ : ∃ z, D9 = z + 1 := ⟨D9 - 1, by omega⟩
    have hi9 : i < R := by omega
    have hi' : i < nR d := by rw [h.s.2.2.1]; exact hi9
    have r0 : gi N (pl (24 + i)) 0 = d (104 + 8 * i) := h.n.r0 hi9
    have r3 : gi N (pl (24 + i)) 3 = d (107 + 8 * i) := h.n.r3 hi9
    have r4 : gi N (pl (24 + i)) 4 = d (108 + 8 * i) := h.n.r4 hi9
    have r5 : gi N (pl (24 + i)) 5 = d (109 + 8 * i) := h.n.r5 hi9
    have r7 : gi N (pl (24 + i)) 7 = d (111 + 8 * i) := h.n.r7 hi9
    have n0' : gi N (pl 1) 0 = d 5 := h.n.n0
    have w0 : gi N (pl 0) 0 = d 0 := h.n.w0
    have skip : sT3F ops i d = d → ∃ Y' q' N' pl' T', f_X8_tick_265 D8 Y q (pl 0) (pl 87) (nI R) (nI (i + 1)) k n N = some (Y', q', N') ∧ DK Y' q' N' pl' H L R T' ops (eT (fo (sT3F ops) i (z + 1) d)) ∧ BK (eT (fo (sT3F ops) i (z + 1) d)) ∧ GO Y q N pl H L R Y' q' N' pl' R := fun e => by
      rw [fo, e]
      exact ih (i + 1) D8 k n Y q N pl T d (by omega) (by omega) h hb hM hT ⟨by omega, by omega⟩
    by_cases p1 : d (107 + 8 * i) = nI 1
    · have so : sOpen d i = true := by unfold sOpen; rw [decide_eq_true p1]
      rcases (h.j.opens hi' p1).1 with p2 | ⟨x, x1, x2⟩
      · obtain ⟨Y', q', N', pl', T', b1, b2, b3, b4⟩ := skip (by unfold sT3F; rw [if_pos so, if_pos p2])
        refine ⟨Y', q', N', pl', T', ?_, b2, b3, b4⟩
        rw [f_X8_tick_265]
        simp (disch := omega) only [↓ck, ↓lt_eq, bd_some, bd2_some, ofN, nI_lit, nI_clamp, nI_add, xb_nI, hY.k0, hY.g2, hY.g3, hY.g4, hY.g5, hY.g6, hY.p2, hY.p3, hY.p4, hY.p5, hY.p6, hY.k1, hY.n1, hY.k84, hY.n84, hY.k85, hY.n85, hY.k86, hY.n86, hY.k87, hY.n87, hY.gh, hY.ph, hY.kh, hY.nh, hY.gl, hY.pl', hY.kl, hY.nl, hY.gt, hY.pt, hY.kt, hY.nt, hY.gr', hY.pr, hY.kr, hY.nr, ↓reduceIte, pLEt, pLEf, pLTt, pLTf, pEQf, pML, pMG, pMf, pMg, r3, r4, eq_true p1, p2]
        exact b1
      · have hx : x < H := by rw [← h.s.1]; exact x1
        have x3 : ¬ d (108 + 8 * i) = -nI 1 := by rw [x2]; exact nI_neg1 (by omega)
        by_cases p3 : d 5 ≤ d 0 - d (111 + 8 * i)
        · have ef : sT3F ops i d = sProg (sMustPay d x (sFineV ops d i) 3 (50 + 7 * lR d i)) i := by
            unfold sT3F sFine hR
            rw [if_pos so, if_neg x3, if_pos p3, x2, nI_clamp (by omega)]
          have tk := t3F_keep (ops := ops) h.j hi'
          have bk := hb.t3F h.j hi' (ops := ops)
          have go : ∀ (Y1 : XY) (q1 : Nat) (N1 : XN) (w : Int32) (k1 n1 : Nat), fnV w.toInt = sFineV ops d i → DK Y1 q1 N1 pl H L R T ops d → TM Y1 N1 (pl 0) ops → GO Y q N pl H L R Y1 q1 N1 pl R → k1 ≤ k + 1 ∧ n1 ≤ n + 4 →
              ∃ Y' q' N' pl' T', f_X8_tick_383 (f_X8_tick_265 D8) Y1 q1 (pl 0) (pl 87) (nI R) (nI i) (pl (24 + i)) (nI x) w.toInt64 k1 n1 N1 = some (Y', q', N') ∧ DK Y' q' N' pl' H L R T' ops (eT (fo (sT3F ops) i (z + 1) d)) ∧ BK (eT (fo (sT3F ops) i (z + 1) d)) ∧ GO Y q N pl H L R Y' q' N' pl' R := by
            intro Y1 q1 N1 w k1 n1 ew h1 hM1 g1 hk1
            obtain ⟨Y2, q2, N2, pl2, T2, a1, a2, a3⟩ := K_383 h1 hb hi9 hx p1 w (k := k1) (n := n1) ⟨by omega, by omega⟩
            rw [ew, ← ef] at a2
            obtain ⟨Y', q', N', pl', T', b1, b2, b3, b4⟩ := ih (i + 1) D8 (k1 + 3) (n1 + 12) Y2 q2 N2 pl2 T2 (sT3F ops i d) (by omega) (by omega) a2 bk (hM1.go h1.m h1.y a3) (by rw [tk.2.T]; exact hT) ⟨by omega, by omega⟩
            rw [a3.p0, a3.pg (g := 87) (by unfold us; omega) (by omega)] at b1
            rw [fo]
            refine ⟨Y', q', N', pl', T', ?_, b2, b3, (g1.trans a3).trans b4⟩
            rw [a1, nI_add, b1]
          rcases hM with ⟨m1, m2⟩ | ⟨a, tx, vl, m1, m2⟩
          · obtain ⟨Y', q', N', pl', T', b1, b2, b3, b4⟩ := go Y q N (d (109 + 8 * i)) k n (by subst m2; rfl) h (Or.inl ⟨m1, m2⟩) GO.rfl' ⟨by omega, by omega⟩
            refine ⟨Y', q', N', pl', T', ?_, b2, b3, b4⟩
            rw [f_X8_tick_265]
            simp (disch := omega) only [↓ck, ↓lt_eq, bd_some, bd2_some, ofN, nI_lit, nI_clamp, nI_add, xb_nI, hY.k0, hY.g2, hY.g3, hY.g4, hY.g5, hY.g6, hY.p2, hY.p3, hY.p4, hY.p5, hY.p6, hY.k1, hY.n1, hY.k84, hY.n84, hY.k85, hY.n85, hY.k86, hY.n86, hY.k87, hY.n87, hY.gh, hY.ph, hY.kh, hY.nh, hY.gl, hY.pl', hY.kl, hY.nl, hY.gt, hY.pt, hY.kt, hY.nt, hY.gr', hY.pr, hY.kr, hY.nr, ↓reduceIte, pLEt, pLEf, pLTt, pLTf, pEQf, pML, pMG, pMf, pMg, r0, r3, r4, r5, r7, n0', w0, eq_true p1, x2, eq_true p3, m1, ↓nl_ite, Option.isSome_none, Bool.false_eq_true]
            exact b1
          · have hq9 : kc Y q = 9 ∧ kc Y (q + 1) = 0 := ⟨h.m.1, h.m.2 _ (Nat.lt_succ_self q)⟩
            have nq : ∀ g, us H L L R g → pl g ≠ q := fun g hg => Nat.ne_of_lt (us_lt h.m hY hg)
            have ex : ∀ M : XN, (∀ b, b < q → ∀ j, gi M b j = gi N b j) → DK (yK Y q 3 4) (q + 1) M pl H L R T ops d ∧ GO Y q N pl H L R (yK Y q 3 4) (q + 1) M pl R := fun M hM => h.ext h.m.nx (by omega) (fun hw => hw.nx h.m (Or.inr (Or.inl rfl))) (fun b hb => ⟨yK_ne (by omega) (by omega), fun j => yK_gr (by omega) j, hM b hb⟩)
            have n0k : ∀ b, b < q → ∀ j, gi (n0 N q) b j = gi N b j := fun b hb j => n0_ne (by omega) j
            have lt0 := us_lt h.m hY (g := 0) (by unfold us; omega)
            have ltr := us_lt h.m hY (g := 24 + i) (by unfold us; omega)
            have s0 : gi (n0 N q) (pl (24 + i)) 0 = d (104 + 8 * i) := (n0k _ ltr _).trans r0
            have s4 : gi (n0 N q) (pl (24 + i)) 4 = nI x := ((n0k _ ltr _).trans r4).trans x2
            have s5 : gi (n0 N q) (pl (24 + i)) 5 = d (109 + 8 * i) := (n0k _ ltr _).trans r5
            have s7 : gi (n0 N q) (pl (24 + i)) 7 = d (111 + 8 * i) := (n0k _ ltr _).trans r7
            have sw0 : gi (n0 N q) (pl 0) 0 = d 0 := (n0k _ lt0 _).trans w0
            have hY1 := (ex (n0 N q) n0k).1.y
            have kr1 := hY1.kr hi9
            have nr1 := hY1.nr hi9
            have kq : kc (yK Y q 3 4) q = 3 := kcq rfl
            have kq' : kn (yK Y q 3 4) q = 4 := knq rfl
            have hd1 := K_held (x := nI x) (ex (sl (sl (n0 N q) q 0 (d (104 + 8 * i)).toInt64) q 1 (d (109 + 8 * i)).toInt64) n0k).1
            have nd : ∀ M : XN, (∀ b, b < q → ∀ j, gi M b j = gi N b j) → ND 3 (yK Y q 3 4) M a ops tx vl := fun M hM => m2.keep 3 (fun b hb => by
              have lt := h.m.inn (a := b) (by omega) (by omega)
              exact ⟨(yK_ne (by omega) (by omega)).1.trans hb, fun j => yK_gr (by omega) j, hM b lt⟩)
            obtain ⟨f1, f2, f3, f4⟩ := fine_sml h.j hT hi'
            rw [x2] at f3
            have hs : ∀ j, sml (if j = 0 then d (104 + 8 * i) else if j = 1 then d (109 + 8 * i) else if j = 2 then nI (sHeld d (nI x)) else d 0 - d (111 + 8 * i)) := fun j => by
              (repeat' split)
              · exact f1
              · exact f2
              · exact f3
              · exact f4
            have vv := D_value (v := q) (ei := fun j => if j = 0 then d (104 + 8 * i) else if j = 1 then d (109 + 8 * i) else if j = 2 then nI (sHeld d (nI x)) else d 0 - d (111 + 8 * i)) hs 3 (N := sl (sl (sl (sl (n0 N q) q 0 (d (104 + 8 * i)).toInt64) q 1 (d (109 + 8 * i)).toInt64) q 2 (nI (sHeld d (nI x))).toInt64) q 3 (d 0 - d (111 + 8 * i)).toInt64) (nd _ n0k) kq kq' (fun j hj => by
              rcases (by omega : j = 0 ∨ j = 1 ∨ j = 2 ∨ j = 3) with e | e | e | e
              · subst e; rw [gl_sl_n (by decide), gl_sl_n (by decide), gl_sl_n (by decide), gl_sl_s]; rfl
              · subst e; rw [gl_sl_n (by decide), gl_sl_n (by decide), gl_sl_s]; rfl
              · subst e; rw [gl_sl_n (by decide), gl_sl_s]; rfl
              · subst e; rw [gl_sl_s]; rfl)
            have ee : (fun j => (if j = 0 then d (104 + 8 * i) else if j = 1 then d (109 + 8 * i) else if j = 2 then nI (sHeld d (nI x)) else d 0 - d (111 + 8 * i)).toInt) = envI (d (104 + 8 * i)) (d (109 + 8 * i)) (nI (sHeld d (nI x))) (d 0 - d (111 + 8 * i)) := by
              funext j
              unfold envI
              (repeat' split) <;> rfl
            have vb := ND_b 3 m2 (envI (d (104 + 8 * i)) (d (109 + 8 * i)) (nI (sHeld d (nI x))) (d 0 - d (111 + 8 * i))) (fun j => by rw [← ee]; exact hs j)
            rw [ee] at vv
            have ka := m2.k
            have lta := h.m.inn (a := a) (by omega) (by omega)
            have ka1 : kc (yK Y q 3 4) a = 19 := (yK_ne (by omega) (by omega)).1.trans ka
            have m1' : gr (yK Y q 3 4) (pl 0) 7 = some a := (yK_gr (by omega) 7).trans m1
            obtain ⟨e1, e2⟩ := ex (sl (sl (sl (sl (n0 N q) q 0 (d (104 + 8 * i)).toInt64) q 1 (d (109 + 8 * i)).toInt64) q 2 (nI (sHeld d (nI x))).toInt64) q 3 (d 0 - d (111 + 8 * i)).toInt64) n0k
            obtain ⟨Y', q', N', pl', T', b1, b2, b3, b4⟩ := go (yK Y q 3 4) (q + 1) _ (Int32.ofInt (vl (envI (d (104 + 8 * i)) (d (109 + 8 * i)) (nI (sHeld d (nI x))) (d 0 - d (111 + 8 * i))))) (k + 1) (n + 4) (by
              rw [oI_toInt vb.1 vb.2]
              unfold sFineV
              rw [ND_sFV m2, x2]) e1 (Or.inr ⟨a, tx, vl, m1', nd _ n0k⟩) e2 ⟨by omega, by omega⟩
            refine ⟨Y', q', N', pl', T', ?_, b2, b3, b4⟩
            have hk1 : k + 1 ≤ 224 ∧ n + 4 ≤ 832 := ⟨by omega, by omega⟩
            rw [f_X8_tick_265]
            simp (disch := omega) only [↓ck, ↓lt_eq, bd_some, bd2_some, ofN, nI_lit, nI_clamp, nI_add, xb_nI, hY.k0, hY.g2, hY.g3, hY.g4, hY.g5, hY.g6, hY.p2, hY.p3, hY.p4, hY.p5, hY.p6, hY.k1, hY.n1, hY.k84, hY.n84, hY.k85, hY.n85, hY.k86, hY.n86, hY.k87, hY.n87, hY.gh, hY.ph, hY.kh, hY.nh, hY.gl, hY.pl', hY.kl, hY.nl, hY.gt, hY.pt, hY.kt, hY.nt, hY.gr', hY.pr, hY.kr, hY.nr, ↓reduceIte, pLEt, pLEf, pLTt, pLTf, pEQf, pML, pMG, pMf, pMg, ↓bd_ite, ↓bd2_ite, ↓bd3_ite, ↓bd4_ite, Option.isSome_some, Option.getD_some, r0, r3, r4, r5, r7, n0', w0, eq_true p1, x2, eq_true p3, m1, ↓nl_ite, eq_true hq9, eq_true hk1, kr1, nr1, kq, kq', gi_sl, s0, s4, s5, s7, sw0, hd1, ka1, vv]
            exact b1
        · obtain ⟨Y', q', N', pl', T', b1, b2, b3, b4⟩ := skip (by unfold sT3F sFine; rw [if_pos so, if_neg x3, if_neg p3])
          refine ⟨Y', q', N', pl', T', ?_, b2, b3, b4⟩
          rw [f_X8_tick_265]
          simp (disch := omega) only [↓ck, ↓lt_eq, bd_some, bd2_some, ofN, nI_lit, nI_clamp, nI_add, xb_nI, hY.k0, hY.g2, hY.g3, hY.g4, hY.g5, hY.g6, hY.p2, hY.p3, hY.p4, hY.p5, hY.p6, hY.k1, hY.n1, hY.k84, hY.n84, hY.k85, hY.n85, hY.k86, hY.n86, hY.k87, hY.n87, hY.gh, hY.ph, hY.kh, hY.nh, hY.gl, hY.pl', hY.kl, hY.nl, hY.gt, hY.pt, hY.kt, hY.nt, hY.gr', hY.pr, hY.kr, hY.nr, ↓reduceIte, pLEt, pLEf, pLTt, pLTf, pEQf, pML, pMG, pMf, pMg, r3, r4, r7, n0', w0, eq_true p1, x2, eq_false p3]
          exact b1
    · have so : ¬ sOpen d i = true := by unfold sOpen; rw [decide_eq_false p1]; exact Bool.false_ne_true
      obtain ⟨Y', q', N', pl', T', b1, b2, b3, b4⟩ := skip (by unfold sT3F; rw [if_neg so])
      refine ⟨Y', q', N', pl', T', ?_, b2, b3, b4⟩
      rw [f_X8_tick_265]
      simp (disch := omega) only [↓ck, ↓lt_eq, bd_some, bd2_some, ofN, nI_lit, nI_clamp, nI_add, xb_nI, hY.k0, hY.g2, hY.g3, hY.g4, hY.g5, hY.g6, hY.p2, hY.p3, hY.p4, hY.p5, hY.p6, hY.k1, hY.n1, hY.k84, hY.n84, hY.k85, hY.n85, hY.k86, hY.n86, hY.k87, hY.n87, hY.gh, hY.ph, hY.kh, hY.nh, hY.gl, hY.pl', hY.kl, hY.nl, hY.gt, hY.pt, hY.kt, hY.nt, hY.gr', hY.pr, hY.kr, hY.nr, ↓reduceIte, pLEt, pLEf, pLTt, pLTf, pEQf, pML, pMG, pMf, pMg, r3, eq_false p1]
      exact b1
theorem K_52 (hR : R ≤ 44) : ∀ (z i D9 : Nat) (Y : XY) (q : Nat) (N : XN) (pl : Nat → Nat) (T : Nat → Nat) (d : XD), i + z = H → z < D9 → DK Y q N pl H L R T ops d → BK d → TM Y N (pl 0) ops → tM d ≤ 1000000 →
    ∃ Y' q' N' pl' T', f_X8_tick_52 D9 Y q (pl 0) (nI i) 0 0 N = some (Y', q', N') ∧ DK Y' q' N' pl' H L R T' ops (eT (sT3 ops (fo sT2F i z d))) ∧ BK (eT (sT3 ops (fo sT2F i z d))) ∧ GO Y q N pl H L R Y' q' N' pl' R := by
  intro z
  induction z with
  | zero =>
    intro i D9 Y q N pl T d hi hD9 h hb hM hT
    have hY := h.y
    have h60 := hY.R60
    have h6 := hY.H6
    have h3 := h.l3
    obtain ⟨D8, rfl⟩ : ∃ z, D9 = z + 1 := ⟨D9 - 1, by omega⟩
    obtain ⟨Y', q', N', pl', T', b1, b2, b3, b4⟩ := K_265 (H := H) (L := L) (ops := ops) R 0 FU 0 0 Y q N pl T d (by omega) (by unfold FU; omega) h hb hM hT ⟨by omega, by omega⟩
    have e : eT (sT3 ops (fo sT2F i 0 d)) = eT (fo (sT3F ops) 0 R d) := by
      unfold sT3
      rw [fo, h.s.2.2.1]
    rw [e]
    refine ⟨Y', q', N', pl', T', ?_, b2, b3, b4⟩
    rw [f_X8_tick_52]
    simp (disch := omega) only [↓ck, ↓lt_eq, bd_some, bd2_some, ofN, nI_lit, nI_clamp, nI_add, xb_nI, hY.k0, hY.g2, hY.g3, hY.g4, hY.g5, hY.g6, hY.p2, hY.p3, hY.p4, hY.p5, hY.p6, hY.k1, hY.n1, hY.k84, hY.n84, hY.k85, hY.n85, hY.k86, hY.n86, hY.k87, hY.n87, hY.gh, hY.ph, hY.kh, hY.nh, hY.gl, hY.pl', hY.kl, hY.nl, hY.gt, hY.pt, hY.kt, hY.nt, hY.gr', hY.pr, hY.kr, hY.nr, ↓reduceIte, pLEt, pLEf, pLTt, pLTf, pEQf, pML, pMG, pMf, pMg]
    exact b1
  | succ z ih =>
    intro i D9 Y q N pl T d hi hD9 h hb hM hT
    have hY := h.y
    have h60 := hY.R60
    have h6 := hY.H6
    obtain ⟨D8, rfl⟩ : ∃ z, D9 = z + 1 := ⟨D9 - 1, by omega⟩
    have hi9 : i < H := by omega
    have hi' : i < nH d := by rw [h.s.1]; exact hi9
    have h1 : gi N (pl (2 + i)) 1 = d (13 + 6 * i) := h.n.h1 hi9
    obtain ⟨c', a1, a2, a3, a4, a5⟩ := D_72 (N := N) (ops := ops) (q := q) (k := 0) (n := 0) hY hi9 ⟨by omega, by omega⟩ R 0 FU (d (13 + 6 * i), d) (fun g k => gi N (pl g) k) (by omega) (by unfold FU; omega) h.n h.s h.j
    rw [sp_self] at a1
    have ew : (fo (sWorkF i) 0 R (d (13 + 6 * i), d)).2 = sWork d i := by unfold sWork; rw [h.s.2.2.1]
    rw [ew] at a2 a3 a4
    obtain ⟨b1, b2⟩ := h.low a2 a3 a4 a5
    have bw := hb.work h.j hi'
    have kw := (h.j.work hi').2
    obtain ⟨-, ew2⟩ := hb.t2F h.j hi'
    obtain ⟨Y', q', N', pl', T', e1, e2, e3, e4⟩ := ih (i + 1) D8 Y q _ pl T (sWork d i) (by omega) (by omega) b1 bw (hM.go h.m h.y b2) (by rw [kw.T]; exact hT)
    rw [fo, ew2]
    refine ⟨Y', q', N', pl', T', ?_, e2, e3, b2.trans e4⟩
    rw [f_X8_tick_52]
    simp (disch := omega) only [↓ck, ↓lt_eq, bd_some, bd2_some, ofN, nI_lit, nI_clamp, nI_add, xb_nI, hY.k0, hY.g2, hY.g3, hY.g4, hY.g5, hY.g6, hY.p2, hY.p3, hY.p4, hY.p5, hY.p6, hY.k1, hY.n1, hY.k84, hY.n84, hY.k85, hY.n85, hY.k86, hY.n86, hY.k87, hY.n87, hY.gh, hY.ph, hY.kh, hY.nh, hY.gl, hY.pl', hY.kl, hY.nl, hY.gt, hY.pt, hY.kt, hY.nt, hY.gr', hY.pr, hY.kr, hY.nr, ↓reduceIte, pLEt, pLEf, pLTt, pLTf, pEQf, pML, pMG, pMf, pMg, h1]
    rw [a1]
    exact e1
theorem K_10 (hR : R ≤ 44) : ∀ (z i D9 : Nat) (Y : XY) (q : Nat) (N : XN) (pl : Nat → Nat) (T : Nat → Nat) (d : XD), i + z = R → z < D9 → DK Y q N pl H L R T ops d → BK d → TM Y N (pl 0) ops → tM d ≤ 1000000 →
    ∃ Y' q' N' pl' T', f_X8_tick_10 D9 Y q (pl 0) (pl 87) (nI R) (nI i) 0 0 N = some (Y', q', N') ∧ DK Y' q' N' pl' H L R T' ops (eT (sT3 ops (sT2 (fo sT1F i z d)))) ∧ BK (eT (sT3 ops (sT2 (fo sT1F i z d)))) ∧ GO Y q N pl H L R Y' q' N' pl' R := by
  intro z
  induction z with
  | zero =>
    intro i D9 Y q N pl T d hi hD9 h hb hM hT
    have hY := h.y
    have h60 := hY.R60
    have h6 := hY.H6
    obtain ⟨D8, rfl⟩ : ∃ z, D9 = z + 1 := ⟨D9 - 1, by omega⟩
    obtain ⟨Y', q', N', pl', T', b1, b2, b3, b4⟩ := K_52 (L := L) (ops := ops) hR H 0 FU Y q N pl T d (by omega) (by unfold FU; omega) h hb hM hT
    have e : eT (sT3 ops (sT2 (fo sT1F i 0 d))) = eT (sT3 ops (fo sT2F 0 H d)) := by
      unfold sT2
      rw [fo, h.s.1]
    rw [e]
    refine ⟨Y', q', N', pl', T', ?_, b2, b3, b4⟩
    rw [f_X8_tick_10]
    simp (disch := omega) only [↓ck, ↓lt_eq, bd_some, bd2_some, ofN, nI_lit, nI_clamp, nI_add, xb_nI, hY.k0, hY.g2, hY.g3, hY.g4, hY.g5, hY.g6, hY.p2, hY.p3, hY.p4, hY.p5, hY.p6, hY.k1, hY.n1, hY.k84, hY.n84, hY.k85, hY.n85, hY.k86, hY.n86, hY.k87, hY.n87, hY.gh, hY.ph, hY.kh, hY.nh, hY.gl, hY.pl', hY.kl, hY.nl, hY.gt, hY.pt, hY.kt, hY.nt, hY.gr', hY.pr, hY.kr, hY.nr, ↓reduceIte, pLEt, pLEf, pLTt, pLTf, pEQf, pML, pMG, pMf, pMg]
    exact b1
  | succ z ih =>
    intro i D9 Y q N pl T d hi hD9 h hb hM hT
    have hY := h.y
    have h60 := hY.R60
    obtain ⟨D8, rfl⟩ : ∃ z, D9 = z + 1 := ⟨D9 - 1, by omega⟩
    have hi9 : i < R := by omega
    have hi' : i < nR d := by rw [h.s.2.2.1]; exact hi9
    have r1 : gi N (pl (24 + i)) 1 = d (105 + 8 * i) := h.n.r1 hi9
    have r3 : gi N (pl (24 + i)) 3 = d (107 + 8 * i) := h.n.r3 hi9
    have w0 : gi N (pl 0) 0 = d 0 := h.n.w0
    have hk0 : 0 ≤ 224 ∧ 0 ≤ 832 := ⟨by omega, by omega⟩
    have skip : sT1F i d = d → ∃ Y' q' N' pl' T', f_X8_tick_10 D8 Y q (pl 0) (pl 87) (nI R) (nI (i + 1)) 0 0 N = some (Y', q', N') ∧ DK Y' q' N' pl' H L R T' ops (eT (sT3 ops (sT2 (fo sT1F i (z + 1) d)))) ∧ BK (eT (sT3 ops (sT2 (fo sT1F i (z + 1) d)))) ∧ GO Y q N pl H L R Y' q' N' pl' R := fun e => by
      rw [fo, e]
      exact ih (i + 1) D8 Y q N pl T d (by omega) (by omega) h hb hM hT
    by_cases p1 : d (107 + 8 * i) = nI 0
    · by_cases p2 : d (105 + 8 * i) = d 0
      · obtain ⟨N1, a1, a2, a3⟩ := K_raises h hi9 p1
        have kk := (t1F_keep h.j hi').2
        have e : sT1F i d = sRaiseNow d i := by unfold sT1F; rw [if_pos p1, if_pos p2]
        rw [e] at kk
        obtain ⟨Y', q', N', pl', T', b1, b2, b3, b4⟩ := ih (i + 1) D8 Y q N1 pl T (sRaiseNow d i) (by omega) (by omega) a2 (hb.raiseNow h.j hi' p1) (hM.go h.m h.y a3) (by rw [kk.T]; exact hT)
        rw [fo, e]
        refine ⟨Y', q', N', pl', T', ?_, b2, b3, a3.trans b4⟩
        rw [f_X8_tick_10]
        simp (disch := omega) only [↓ck, ↓lt_eq, bd_some, bd2_some, ofN, nI_lit, nI_clamp, nI_add, xb_nI, hY.k0, hY.g2, hY.g3, hY.g4, hY.g5, hY.g6, hY.p2, hY.p3, hY.p4, hY.p5, hY.p6, hY.k1, hY.n1, hY.k84, hY.n84, hY.k85, hY.n85, hY.k86, hY.n86, hY.k87, hY.n87, hY.gh, hY.ph, hY.kh, hY.nh, hY.gl, hY.pl', hY.kl, hY.nl, hY.gt, hY.pt, hY.kt, hY.nt, hY.gr', hY.pr, hY.kr, hY.nr, ↓reduceIte, pLEt, pLEf, pLTt, pLTf, pEQf, pML, pMG, pMf, pMg, ↓bd_ite, ↓bd2_ite, ↓bd3_ite, ↓bd4_ite, Option.isSome_some, Option.getD_some, r1, r3, w0, eq_true p1, eq_true p2, eq_true hk0, a1]
        exact b1
      · obtain ⟨Y', q', N', pl', T', b1, b2, b3, b4⟩ := skip (by unfold sT1F; rw [if_pos p1, if_neg p2])
        refine ⟨Y', q', N', pl', T', ?_, b2, b3, b4⟩
        rw [f_X8_tick_10]
        simp (disch := omega) only [↓ck, ↓lt_eq, bd_some, bd2_some, ofN, nI_lit, nI_clamp, nI_add, xb_nI, hY.k0, hY.g2, hY.g3, hY.g4, hY.g5, hY.g6, hY.p2, hY.p3, hY.p4, hY.p5, hY.p6, hY.k1, hY.n1, hY.k84, hY.n84, hY.k85, hY.n85, hY.k86, hY.n86, hY.k87, hY.n87, hY.gh, hY.ph, hY.kh, hY.nh, hY.gl, hY.pl', hY.kl, hY.nl, hY.gt, hY.pt, hY.kt, hY.nt, hY.gr', hY.pr, hY.kr, hY.nr, ↓reduceIte, pLEt, pLEf, pLTt, pLTf, pEQf, pML, pMG, pMf, pMg, r1, r3, w0, eq_true p1, eq_false p2]
        exact b1
    · obtain ⟨Y', q', N', pl', T', b1, b2, b3, b4⟩ := skip (by unfold sT1F; rw [if_neg p1])
      refine ⟨Y', q', N', pl', T', ?_, b2, b3, b4⟩
      rw [f_X8_tick_10]
      simp (disch := omega) only [↓ck, ↓lt_eq, bd_some, bd2_some, ofN, nI_lit, nI_clamp, nI_add, xb_nI, hY.k0, hY.g2, hY.g3, hY.g4, hY.g5, hY.g6, hY.p2, hY.p3, hY.p4, hY.p5, hY.p6, hY.k1, hY.n1, hY.k84, hY.n84, hY.k85, hY.n85, hY.k86, hY.n86, hY.k87, hY.n87, hY.gh, hY.ph, hY.kh, hY.nh, hY.gl, hY.pl', hY.kl, hY.nl, hY.gt, hY.pt, hY.kt, hY.nt, hY.gr', hY.pr, hY.kr, hY.nr, ↓reduceIte, pLEt, pLEf, pLTt, pLTf, pEQf, pML, pMG, pMf, pMg, r3, eq_false p1]
      exact b1
/-- a tick of the desk -/
theorem K_tick {Y : XY} {q : Nat} {N : XN} {pl : Nat → Nat} {T : Nat → Nat} {d : XD} (hR : R ≤ 44) (h : DK Y q N pl H L R T ops d) (hb : BK d) (hM : TM Y N (pl 0) ops) (hT : tM d ≤ 1000000) :
    ∃ Y' q' N' pl' T', f_X8_tick Y q (pl 0) N = some (Y', q', N') ∧ DK Y' q' N' pl' H L R T' ops (sTick ops d) ∧ BK (sTick ops d) ∧ GO Y q N pl H L R Y' q' N' pl' R := by
  have hY := h.y
  have h60 := hY.R60
  obtain ⟨Y', q', N', pl', T', b1, b2, b3, b4⟩ := K_10 (H := H) (L := L) (ops := ops) hR R 0 FU Y q N pl T d (by omega) (by unfold FU; omega) h hb hM hT
  have e : eT (sT3 ops (sT2 (fo sT1F 0 R d))) = sTick ops d := by
    rw [← eT_tick]
    unfold sT1
    rw [h.s.2.2.1]
  rw [e] at b2 b3
  refine ⟨Y', q', N', pl', T', ?_, b2, b3, b4⟩
  unfold f_X8_tick
  simp (disch := omega) only [↓ck, ↓lt_eq, bd_some, bd2_some, ofN, nI_lit, nI_clamp, nI_add, xb_nI, hY.k0, hY.g2, hY.g3, hY.g4, hY.g5, hY.g6, hY.p2, hY.p3, hY.p4, hY.p5, hY.p6, hY.k1, hY.n1, hY.k84, hY.n84, hY.k85, hY.n85, hY.k86, hY.n86, hY.k87, hY.n87, hY.gh, hY.ph, hY.kh, hY.nh, hY.gl, hY.pl', hY.kl, hY.nl, hY.gt, hY.pt, hY.kt, hY.nt, hY.gr', hY.pr, hY.kr, hY.nr, ↓reduceIte, pLEt, pLEf, pLTt, pLTf, pEQf, pML, pMG, pMf, pMg]
  exact b1
end DTT
