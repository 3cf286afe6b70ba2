/-! THE END OF A RANDOM DESK: its text is loaded -/
section EL9
variable {SS SV : Nat → Nat} {Y0 Y Y' : XY} {N0 N N' : XN} {B bf rnd q q0 H L R k n b : Nat} {pl T : Nat → Nat} {e e' : XD} {ops ops0 : List Int32} {d0 : XD} {k0 p0 : Nat} {hd0 : Nat → XD} {bs : List Nat} {ts : List (Nat × Nat)}
theorem E_load (hMK : MK Y q) (hqq : q0 ≤ q) (hQ : DQ Y N pl H L R T [] e) (hTM : TM Y N (pl 0) ops) (hq0 : ∀ g, us H L L R g → q0 ≤ pl g) (hE : EV9 SS SV Y0 N0 Y N B bf rnd q0) (hT : TXT N B bf bs) (hX : LXR bs ((10, 0) :: (3, 0) :: ts)) (he : TXE ts e ops) (hI : IK B N ops0 d0 k0 p0 hd0) : ∃ Y' N' e', f_L_loadText Y q B bf N = some (nI R, Y', q, N') ∧ RD9 SS SV Y0 N0 B bf rnd q0 d0 k0 p0 hd0 Y' q N' pl H L R T ops e' := by
  obtain ⟨⟨c1, c2, c3, c4⟩, ⟨b1, b2, b3, b4⟩, r, -, -⟩ := id hE
  obtain ⟨e', N', f1, f2, f3, f4, f5⟩ := L_loadText (q := q) c2 c4 c1 ⟨b1, b2⟩ b3 hI hT hX he
  have hRe : nR e = R := hQ.s.2.2.1
  rw [hRe] at f1
  have hD' := f3.1
  obtain ⟨b, tb, hB, -⟩ := he
  have hY := hQ.y
  have hq := hQ.eqc f2 hD'
  have pne : ∀ g, us H L L R g → pl g ≠ B + 6 := fun g hg => by have := hq0 g hg; omega
  have u0 : us H L L R 0 := by unfold us; omega
  have gN : ∀ c, B + 908 ≤ c ∨ c < B → c ≠ bf → ∀ j, gi N' c j = gi N c j := fun c hc hb j => by
    unfold gi
    rw [f4 c (by omega) hb]
  refine ⟨_, N', e', f1, ⟨hMK, hqq⟩, ⟨⟨hY.yrd9 pne, ⟨hq.n.1, fun g k hv => ?_⟩, hq.s, hq.j, hq.h4, hq.l3⟩, hB.bk f2 hD'.H6, ?_⟩, hq0, hE.yrd f4, f3, f5, (f2 0 (by omega) (by omega) (by omega)).trans hB.time⟩
  · have og := hq0 g (vd_us hv)
    have := hq.n.2 g k hv
    exact (gN _ (by omega) (by omega) k).trans this
  · have g7 : gr (yrd Y (B + 6) (B + 2) (B + 97)) (pl 0) 7 = gr Y (pl 0) 7 := gr_yrd (pne 0 u0) 7
    rcases hTM with ⟨t1, t2⟩ | ⟨a, tx, vl, t1, t2⟩
    · exact Or.inl ⟨g7.trans t1, t2⟩
    · refine Or.inr ⟨a, tx, vl, g7.trans t1, t2.keep 3 (fun c hc => ?_)⟩
      have hb : c < B ∨ B + 908 ≤ c := by
        rcases Nat.lt_or_ge c B with z | z
        · exact Or.inl z
        · rcases Nat.lt_or_ge c (B + 908) with z2 | z2
          · have := c3 c z z2; omega
          · exact Or.inr z2
      exact ⟨hc, fun j => gr_yrd (by omega) j, gN c (by omega) (fun z => by rw [← z] at b1; omega)⟩
end EL9
