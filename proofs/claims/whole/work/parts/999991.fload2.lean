section FL2
variable {Y : XY} {N : XN} {B L n k p : Nat} {d : XD} {ops : List Int32}
theorem F_load_in (hY : YO Y B) (hdd : IVd B N ops d) (hh : IVh B N k p) (ht : IVt B N n) (hLn : L ≤ n) : FCL Y B (nI L) N := by
  have hY2 := YO_yrd hY
  obtain ⟨h700, hb1, hb2, hby, herr⟩ := ht
  obtain ⟨t, tB9, tM9⟩ := text_of hby hLn
  obtain ⟨Ns, T, q1, q2, q3⟩ := load_head hY hb1 h700 hLn tB9
  generalize hy : yrd Y (B + 6) (B + 2) (B + 97) = Y2 at hY2 q1
  have hR : RD Y2 B := by rw [← hy]; exact RD_yrd hY
  have hM2 := hY2.2.2.2.2.2.2.1
  obtain ⟨hD, hz, hTd, hr, P, hC⟩ := id hdd
  obtain ⟨⟨a1, a2, a3, a4, a5⟩, a6, a7⟩ := id hh
  have E : ∀ N2 : XN, (∀ i, gi N2 (B + 909) i = gi N (B + 909) i) → EN Y2 Ns N2 B T L (B + 908) t := fun N2 h => ⟨hR, q2, by omega, ⟨hM2.g1, hM2.g9, hM2.2.2.1.2.1⟩, fun i hi => ⟨(tM9 i hi).1, (h i).trans (tM9 i hi).2⟩⟩
  have ns : ∀ a, a ≠ B → (a < B + 2 ∨ B + 6 ≤ a) → Ns.1 a = N.1 a := fun a h1 h2 => by rw [q3.2.1 a (by omega), si_row h1]
  have nsB : ∀ j, gi Ns B j = gi (si N B 1 (nI 0)) B j := fun j => by unfold gi; rw [q3.2.1 B (by omega)]
  have nB1 : gi Ns B 1 = nI 0 := by rw [nsB, gi_si]
  have nB8 : gi Ns B 8 = nI k := by rw [nsB, gi_si_n (Or.inr (by omega))]; exact a3
  have nB9 : gi Ns B 9 = nI p := by rw [nsB, gi_si_n (Or.inr (by omega))]; exact a4
  have rd : ∀ N2 : XN, (∀ i, gi N2 (B + 909) i = gi N (B + 909) i) → OUTL Ns N2 B T L (B + 908) t (hLd (N2.1 (B + 908)) L) (fun k => wc Ns (B + 97) 7 k) Y2 (f_X4_reads Y2 (B + 6) Ns) (bd2 (f_X8_takeWord Y2 (B + 908) 0 (MM N2 (B + 908) (hLd (N2.1 (B + 908)) L) (eUsual (N2.1 (B + 908 + 3))))) fun r N21 => if r = nI 0 then bd (f_X8_report Y2 (B + 908) (-nI 2) (gi N21 (B + 908) 4) N21) fun N24 => bd (f_X8_expect Y2 (B + 908) (nI 59) N24) fun N26 => f_X8_load_99 Y2 FU (B + 908) N26 else bd (f_X8_expect Y2 (B + 908) (nI 59) N21) fun N28 => f_X8_load_99 Y2 FU (B + 908) N28) := by
    intro N2 h2
    obtain ⟨z0, z2, z3, z4, z5, z6, z15, z16, -⟩ := hLd_at (N2.1 (B + 908)) L
    have := S_reads (h0 := hLd (N2.1 (B + 908)) L) (c := wc Ns (B + 97)) (g := Ns.1 (B + 6)) (e := N2.1 (B + 908 + 3)) (E N2 h2) z3 z4 z5 z6 z15 z16 (fun _ _ _ _ _ _ _ => rfl)
    rw [KS_self] at this
    exact this
  have cell : ∀ (c : Nat → Nat → Int32) (g : XD) (v : Int32) (a : Nat), a ≠ B → (a < B + 2 ∨ B + 7 ≤ a) → (a < B + 97 ∨ B + 187 ≤ a) → (si (KS Ns B c g) B 2 v).1 a = N.1 a := fun c g v a h1 h2 h3 => by rw [si_row h1, KS_row (by omega) h3, ns a h1 (by omega)]
  have cellB : ∀ (c : Nat → Nat → Int32) (g : XD) (v : Int32) (j : Nat), j ≠ 2 → gi (si (KS Ns B c g) B 2 v) B j = gi Ns B j := fun c g v j h1 => by rw [gi_si_n (Or.inr h1), gi_KSt (by omega)]
  have hCk : ∀ (c : Nat → Nat → Int32) (g : XD) (v : Int32), CR P ops d (wc (si (KS Ns B c g) B 2 v) (B + 7)) := fun c g v => hC.cells hD.H6 hD.L8 hD.R60 (fun o j ho => by unfold wc; rw [cell c g v _ (by omega) (by omega) (by omega)])
  obtain ⟨c0, g0, h1, e1, D1, -, hc⟩ := rd N (fun _ => rfl)
  rcases hc with ⟨hc, -, ops1, hq1⟩ | ⟨hc, -⟩
  · obtain ⟨Nk, c2, Q, Q2, w1, w2, -, -⟩ := C_loadB_good hY2 hD (hCk c0 g0 (-nI 1)) a1 a2 nB8 nB9 hq1
    have cl : f_X7_load Y B (nI L) N = some (.inl (e1 3), sw Nk (B + 7) c2) := by rw [q1, hc, bd2_some, w1]
    refine ⟨_, _, cl, fun N' hN' => ?_⟩
    have far : ∀ a, B + 908 ≤ a → N'.1 a = N.1 a := fun a ha => by
      rw [hN', show (sw Nk (B + 7) c2).1 a = Nk.1 a from funext (fun j => gi_sw_ne j (by omega)), w2.2.1 _ (by omega) (by omega)]
      exact cell c0 g0 _ a (by omega) (by omega) (by omega)
    have tx : ∀ i, gi N' (B + 909) i = gi N (B + 909) i := fun i => by unfold gi; rw [far _ (by omega)]
    obtain ⟨c3, g3, h3, e3, D3, f1, f2⟩ := rd N' tx
    rcases f2 with ⟨f2, hg3, ops3, hq3⟩ | ⟨f2, -⟩
    · rw [hc] at f2
      have eKS : KS Ns B c0 g0 = KS Ns B c3 g3 := congrArg Prod.snd (Option.some.inj f2)
      obtain ⟨Nk3, c4, Q4, Q5, w4, w5, w6, w7⟩ := C_loadB_good hY2 hD (hCk c3 g3 (-nI 1)) a1 a2 nB8 nB9 hq3
      rw [← eKS, w1] at w4
      have ev : e1 3 = e3 3 := Sum.inl.inj (congrArg Prod.fst (Option.some.inj w4))
      have eN : sw Nk (B + 7) c2 = sw Nk3 (B + 7) c4 := congrArg Prod.snd (Option.some.inj w4)
      rw [eN] at hN'
      obtain ⟨h4, x1, x2, x3⟩ := M_end_good (E N' tx) hM2.g8 hg3 (D := D3) (e := e3)
      obtain ⟨z0, z2, z3, z4, z5, z6, z15, z16, z13⟩ := hLd_at (N'.1 (B + 908)) L
      have hh4 : ∀ j, j ≠ 4 → j ≠ 5 → j ≠ 6 → j ≠ 14 → j ≠ 15 → j ≠ 16 → j ≠ 7 → h4 j = hLd (N'.1 (B + 908)) L j := fun j b1 b2 b3 b4 b5 b6 b7 => by
        have := x1 j b1 b2 b3 b4 b5 b6
        rw [upd_n b7] at this
        exact this
      have h40 : h4 0 = nI 0 := (hh4 0 (by omega) (by omega) (by omega) (by omega) (by omega) (by omega) (by omega)).trans z0
      have h42 : h4 2 = nI 0 := (hh4 2 (by omega) (by omega) (by omega) (by omega) (by omega) (by omega) (by omega)).trans z2
      have h413 : h4 13 = nI k := by
        rw [hh4 13 (by omega) (by omega) (by omega) (by omega) (by omega) (by omega) (by omega), z13, far _ (by omega)]
        exact a6
      have lowM : ∀ (M : XN) (a : Nat), a ≠ B + 908 → a ≠ B + 911 → (MM M (B + 908) h4 e3).1 a = M.1 a := fun M a b1 b2 => MM_row b1 (by omega)
      obtain ⟨i1, i2, i3⟩ := IV_text (M := MM (si (KS Ns B c3 g3) B 2 (-nI 1)) (B + 908) h4 e3) hdd hh (fun a ha => by rw [lowM _ a (by omega) (by omega)]; exact cell c3 g3 _ a (by omega) (by omega) (by omega)) (by unfold gi; rw [lowM _ B (by omega) (by omega)]; exact ((cellB c3 g3 _ 8 (by omega)).trans nB8).trans a3.symm) (by unfold gi; rw [lowM _ B (by omega) (by omega)]; exact ((cellB c3 g3 _ 9 (by omega)).trans nB9).trans a4.symm) (by rw [gi_MM, h413]; exact a6.symm) (by unfold gi; rw [lowM _ B (by omega) (by omega)]; exact (cellB c3 g3 _ 1 (by omega)).trans nB1) (by rw [gi_MM, h42]) (by
        rw [gi_MM, x2]
        unfold gi
        rw [lowM _ B (by omega) (by omega)]
        exact gi_si _ _ _ _)
      have kp : kept1 B p k (MM (si (KS Ns B c3 g3) B 2 (-nI 1)) (B + 908) h4 e3) (MM Nk3 (B + 908) h4 e3) := by
        obtain ⟨y1, y2, y3, y4, y5⟩ := w5
        refine ⟨y1, fun a b1 b2 => MM_cong (y2 a b1 b2), fun j b1 b2 => ?_, ?_, ?_⟩
        · unfold gi
          rw [lowM _ B (by omega) (by omega), lowM _ B (by omega) (by omega)]
          exact y3 j b1 b2
        · unfold gi
          rw [lowM _ B (by omega) (by omega)]
          exact y4
        · unfold gi
          rw [lowM _ B (by omega) (by omega)]
          exact y5
      have hC6 : CR Q4 ops d (wc (MM Nk3 (B + 908) h4 e3) (B + (188 + 90 * p))) := w6.cells hD.H6 hD.L8 hD.R60 (fun o j ho => by unfold wc; rw [lowM _ _ (by omega) (by omega)])
      have hW : (MM N' (B + 908) h4 e3).1 = (sw (MM Nk3 (B + 908) h4 e3) (B + 7) c4).1 := by
        rw [← MM_sw (by omega)]
        funext a
        exact MM_cong (by rw [hN'])
      obtain ⟨Nr, r1, r2, r3⟩ := rem_all hY2 i1 i2 kp hW
      have emm := mm_MM (N := N') (B := B) (e9 := e3) h40
      have r911 : Nr.1 (B + 908 + 3) = e3 := by
        funext j
        rw [r2.2.2.2 _ _ (by omega) (by omega), emm]
        show gi (MM N' (B + 908) h4 e3) (B + 908 + 3) j = _
        exact gi_MMd j
      have hc2 := M_copy (Y := Y2) (N := Nr) (a := B + 908 + 3) (b := B + 908 + 2) (n := 1784) (by omega) (by rw [hM2.2.2.1.2.1]; exact Nat.le_refl _) (by rw [hM2.2.2.1.1]; exact Nat.le_refl _) (by rw [hM2.2.2.1.2.1]; omega) (by rw [hM2.2.2.1.1]; omega) (by omega)
      rw [r911, show Nr.1 (B + 908 + 2) = d from r3] at hc2
      have low : ∀ j, j < 1784 → cpR 1784 e3 d j = e3 j := fun j hj => if_pos hj
      have zz : ZZ (cpR 1784 e3 d) := fun j hj => by
        unfold cpR
        rw [if_neg (by omega)]
        exact hz j hj
      have tt : tM (cpR 1784 e3 d) ≤ 9999 := by
        rw [tM_same (low 0 (by omega))]
        unfold tM
        rw [hq3.2.2.1, nI_clamp (by omega)]
        omega
      have g8 : gp Y2 (B + 908) 8 = B + 908 + 2 := hM2.g8
      obtain ⟨s1, s2, s3⟩ := IV_change hY2 i1 i2 i3 kp hC6 (CR_low hq3.1 w7 low) (DJ_low hq3.1 low) zz tt hW r2 ⟨fun _ _ _ _ => rfl, fun _ _ => rfl⟩
      rw [g8] at s1 s2 s3
      refine ⟨cpR 1784 e3 d 3, sd Nr (B + 908 + 2) (cpR 1784 e3 d), ?_, s1, fun a ha => s2 a ha, s3, ?_⟩
      · show f_X8_load (yrd Y (B + 6) (B + 2) (B + 97)) (B + 908) (nI L) N' = _
        rw [hy, M_load_head hM2 (by unfold gi; rw [far _ (by omega)]; exact hb2) h700 hLn, f1, x3, ← emm, r1, bd_some, hc2, bd_some, gi_sd]
      · rw [ev]; exact (low 3 (by omega)).symm
    · rw [hc] at f2
      exact absurd (show nI 1 = nI 0 from congrArg Prod.fst (Option.some.inj f2)) (by decide)
  · have cl : f_X7_load Y B (nI L) N = some (.inl (g0 0), si (KS Ns B c0 g0) B 2 (g0 1)) := by rw [q1, hc, bd2_some, C_loadB_bad hY2]
    refine ⟨_, _, cl, fun N' hN' => ?_⟩
    have far : ∀ a, B + 908 ≤ a → N'.1 a = N.1 a := fun a ha => by
      rw [hN']
      exact cell c0 g0 _ a (by omega) (by omega) (by omega)
    have tx : ∀ i, gi N' (B + 909) i = gi N (B + 909) i := fun i => by unfold gi; rw [far _ (by omega)]
    obtain ⟨c3, g3, h3, e3, D3, f1, f2⟩ := rd N' tx
    rcases f2 with ⟨f2, -⟩ | ⟨f2, hb3⟩
    · rw [hc] at f2
      exact absurd (show nI 0 = nI 1 from congrArg Prod.fst (Option.some.inj f2)) (by decide)
    · rw [hc] at f2
      have eKS : KS Ns B c0 g0 = KS Ns B c3 g3 := congrArg Prod.snd (Option.some.inj f2)
      have eg : ∀ j, g0 j = g3 j := fun j => by
        have z1 := gi_KS (N := Ns) (B := B) (c := c0) (g := g0) j
        have z2 := gi_KS (N := Ns) (B := B) (c := c3) (g := g3) j
        rw [eKS] at z1
        exact z1.symm.trans z2
      obtain ⟨z0, z2, z3, z4, z5, z6, z15, z16, z13⟩ := hLd_at (N'.1 (B + 908)) L
      obtain ⟨b5, bg0, bg1, bHF⟩ := id hb3
      have u0 : upd h3 7 (h3 6) 0 = nI 0 := by rw [upd_n (by omega), bHF 0 (by omega) (by omega) (by omega) (by omega) (by omega) (by omega), z0]
      have u2 : upd h3 7 (h3 6) 2 = nI 0 := by rw [upd_n (by omega), bHF 2 (by omega) (by omega) (by omega) (by omega) (by omega) (by omega), z2]
      have u13 : upd h3 7 (h3 6) 13 = nI k := by
        rw [upd_n (by omega), bHF 13 (by omega) (by omega) (by omega) (by omega) (by omega) (by omega), z13, far _ (by omega)]
        exact a6
      have lowM : ∀ a, a ≠ B + 908 → a ≠ B + 911 → (MM N' (B + 908) (upd h3 7 (h3 6)) e3).1 a = (si (KS Ns B c0 g0) B 2 (g0 1)).1 a := fun a b1 b2 => (MM_row b1 (by omega)).trans (by rw [hN'])
      obtain ⟨i1, i2, i3⟩ := IV_text (M := MM N' (B + 908) (upd h3 7 (h3 6)) e3) hdd hh (fun a ha => by rw [lowM a (by omega) (by omega)]; exact cell c0 g0 _ a (by omega) (by omega) (by omega)) (by unfold gi; rw [lowM B (by omega) (by omega)]; exact ((cellB c0 g0 _ 8 (by omega)).trans nB8).trans a3.symm) (by unfold gi; rw [lowM B (by omega) (by omega)]; exact ((cellB c0 g0 _ 9 (by omega)).trans nB9).trans a4.symm) (by rw [gi_MM, u13]; exact a6.symm) (by unfold gi; rw [lowM B (by omega) (by omega)]; exact (cellB c0 g0 _ 1 (by omega)).trans nB1) (by rw [gi_MM, u2]) (by
        have l1 : gi (MM N' (B + 908) (upd h3 7 (h3 6)) e3) B 2 = g0 1 := by
          unfold gi
          rw [lowM B (by omega) (by omega)]
          exact gi_si _ _ _ _
        rw [l1, gi_MM, upd_s, ← bg1]
        exact eg 1)
      refine ⟨h3 5, MM N' (B + 908) (upd h3 7 (h3 6)) e3, ?_, ⟨⟨ops, d, i1⟩, ⟨k, p, i2⟩, 0, i3⟩, fun a _ => rfl, ?_, ?_⟩
      · show f_X8_load (yrd Y (B + 6) (B + 2) (B + 97)) (B + 908) (nI L) N' = _
        rw [hy, M_load_head hM2 (by unfold gi; rw [far _ (by omega)]; exact hb2) h700 hLn, f1, M_end_bad b5]
      · rw [gi_MM, u0]
      · rw [eg 0]; exact bg0
theorem F_load (hY : YO Y B) (hI : IV B N) (x : Int32) : FCL Y B x N := by
  obtain ⟨⟨ops, d, hdd⟩, ⟨k, p, hh⟩, n, ht⟩ := id hI
  have h700 := ht.1
  rcases ix_or x (n := n + 1) (by omega) with h | ⟨L, hL, rfl⟩
  · exact F_load_out hI ht h
  · exact F_load_in hY hdd hh ht (by omega)
end FL2
