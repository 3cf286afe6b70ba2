/-! THE END OF A RANDOM DESK, with no fine -/
/-- what a random desk leaves -/
def RD9 (SS SV : Nat → Nat) (Y0 : XY) (N0 : XN) (B bf rnd q0 : Nat) (d0 : XD) (k0 p0 : Nat) (hd0 : Nat → XD) (Y' : XY) (q' : Nat) (N' : XN) (pl : Nat → Nat) (H L R : Nat) (T : Nat → Nat) (ops : List Int32) (e' : XD) : Prop := (MK Y' q' ∧ q0 ≤ q') ∧ (DQ Y' N' pl H L R T ops e' ∧ BK e' ∧ TM Y' N' (pl 0) ops) ∧ (∀ g, us H L L R g → q0 ≤ pl g) ∧ EV9 SS SV Y0 N0 Y' N' B bf rnd q0 ∧ IK B N' ops e' (min (k0 + 1) 8) ((p0 + 1) % 8) (nhd k0 hd0 d0) ∧ gi N' B 1 = nI 0 ∧ e' 0 = nI 0
section EN9
variable {SS SV : Nat → Nat} {Y0 Y Y' : XY} {N0 N N' : XN} {B bf rnd q q0 H L R k n b : Nat} {pl T : Nat → Nat} {e e' : XD} {ops ops0 : List Int32} {d0 : XD} {k0 p0 : Nat} {hd0 : Nat → XD}
theorem gr_yrd {rd tk wd c : Nat} (h : c ≠ rd) (j : Nat) : gr (yrd Y rd tk wd) c j = gr Y c j := by
  unfold yrd
  rw [gr_sr_ne h, gr_sr_ne h]
theorem EV9.yrd (h : EV9 SS SV Y0 N0 Y N B bf rnd q0) (hf : ∀ a, a < B ∨ B + 908 ≤ a → a ≠ bf → N'.1 a = N.1 a) : EV9 SS SV Y0 N0 (yrd Y (B + 6) (B + 2) (B + 97)) N' B bf rnd q0 := by
  obtain ⟨⟨c1, c2, c3, c4⟩, ⟨b1, b2, b3, b4⟩, r, ⟨f1, f2⟩, z⟩ := h
  have k14 : kc Y (B + 6) = 14 := by
    have := (wt_X7_4 c4 c1).2
    rw [c2.1.2.2.1] at this
    exact this
  refine ⟨⟨c1, YO_yrd c2, c3, WT_yrd c4 k14⟩, ⟨b1, b2, b3, b4⟩, r, ⟨fun a h1 h2 => ?_, f2⟩, z⟩
  obtain ⟨⟨e1, e2⟩, e3, e4⟩ := f1 a h1 h2
  have ho : a < B ∨ B + 908 ≤ a := by
    rcases Nat.lt_or_ge a B with z | z
    · exact Or.inl z
    · rcases Nat.lt_or_ge a (B + 908) with z2 | z2
      · have := c3 a z z2; omega
      · exact Or.inr z2
  refine ⟨⟨e1, e2⟩, fun j => (gr_yrd (by omega) j).trans (e3 j), fun j => ?_⟩
  unfold gi
  rw [hf a ho (fun z => by rw [← z] at b1; omega)]
  exact e4 j
theorem DY.yrd9 {M : Nat} (h : DY Y pl H L M R T) (hp : ∀ g, us H L M R g → pl g ≠ B + 6) : DY (yrd Y (B + 6) (B + 2) (B + 97)) pl H L M R T := by
  refine ⟨h.1, h.2.1, fun g hg => ?_⟩
  obtain ⟨c1, c2⟩ := h.2.2 g hg
  refine ⟨c1, fun h0 => ⟨(c2 h0).1, ?_⟩⟩
  rw [gr_yrd (hp _ (us_pg h.1 hg h0).1)]
  exact (c2 h0).2
end EN9
