/-! THE REFERENCES WHILE A TEXT IS READ -/
section RF
variable {Y : XY} {B w rd tk wd : Nat}
theorem gp_yrd {b : Nat} (h : b ≠ rd) (j : Nat) : gp (yrd Y rd tk wd) b j = gp Y b j := by
  unfold yrd
  rw [gp_sr_ne h, gp_sr_ne h]
theorem kn_yrd (b : Nat) : kn (yrd Y rd tk wd) b = kn Y b := rfl
theorem gp_yrd2 : gp (yrd Y rd tk wd) rd 2 = tk ∧ gp (yrd Y rd tk wd) rd 3 = wd := by
  constructor
  · show (if rd = rd ∧ 2 = 3 then some wd else if rd = rd ∧ 2 = 2 then some tk else Y.1 rd 2).getD 0 = tk
    rw [if_neg (by omega), if_pos ⟨rfl, rfl⟩]
    rfl
  · show (if rd = rd ∧ 3 = 3 then some wd else if rd = rd ∧ 3 = 2 then some tk else Y.1 rd 3).getD 0 = wd
    rw [if_pos ⟨rfl, rfl⟩]
    rfl
theorem WY_yrd (hW : WY Y w) (h : rd < w) : WY (yrd Y rd tk wd) w := by
  obtain ⟨⟨a1, a2, a3, a4, a5⟩, ⟨b1, b2⟩, c1, c2, c3, c4⟩ := hW
  refine ⟨⟨?_, ?_, ?_, ?_, ?_⟩, ⟨?_, ?_⟩, fun i hi => ?_, fun i hi => ?_, fun i hi => ?_, fun i hi => ?_⟩
  · rw [gp_yrd (by omega)]; exact a1
  · rw [gp_yrd (by omega)]; exact a2
  · rw [gp_yrd (by omega)]; exact a3
  · rw [gp_yrd (by omega)]; exact a4
  · rw [gp_yrd (by omega)]; exact a5
  · rw [gp_yrd (by omega)]; exact b1
  · rw [gp_yrd (by omega)]; exact b2
  · rw [gp_yrd (by omega)]; exact c1 i hi
  · rw [gp_yrd (by omega)]; exact c2 i hi
  · rw [gp_yrd (by omega)]; exact c3 i hi
  · rw [gp_yrd (by omega)]; exact c4 i hi
theorem RD_yrd (hY : YO Y B) : RD (yrd Y (B + 6) (B + 2) (B + 97)) B := by
  obtain ⟨-, -, ⟨t0, t1, t2⟩, hW, hW2, -⟩ := hY
  refine ⟨gp_yrd2.1, gp_yrd2.2, ?_, ?_, ?_, WY_yrd hW2 (by omega)⟩
  · rw [gp_yrd (by omega)]; exact t0
  · rw [gp_yrd (by omega)]; exact t1
  · rw [gp_yrd (by omega)]; exact t2
end RF
