/-! THE OBJECT'S REFERENCES BEHIND A LOAD -/
section RG9
variable {Y : XY} {B w m rd tk wd : Nat}
theorem MY_yrd (hM : MY Y m) (h : rd < m) : MY (yrd Y rd tk wd) m := by
  obtain ⟨⟨a1, a2, a3, a4, a5, a6, a7, a8⟩, b, c, d⟩ := hM
  refine ⟨⟨?_, ?_, ?_, ?_, ?_, ?_, ?_, ?_⟩, fun i hi => ?_, c, d⟩
  · rw [gp_yrd (by omega)]; exact a1
  · rw [gp_yrd (by omega)]; exact a2
  · rw [gp_yrd (by omega)]; exact a3
  · rw [gp_yrd (by omega)]; exact a4
  · rw [gp_yrd (by omega)]; exact a5
  · rw [gp_yrd (by omega)]; exact a6
  · rw [gp_yrd (by omega)]; exact a7
  · rw [gp_yrd (by omega)]; exact a8
  · rw [gp_yrd (by omega)]; exact b i hi
theorem YO_yrd (hY : YO Y B) : YO (yrd Y (B + 6) (B + 2) (B + 97)) B := by
  obtain ⟨⟨a1, a2, a3, a4, a5, a6⟩, b, ⟨t0, t1, t2⟩, hW, hW2, hW3, hM, hk⟩ := hY
  refine ⟨⟨?_, ?_, ?_, ?_, ?_, ?_⟩, fun i hi => ?_, ⟨?_, ?_, ?_⟩, WY_yrd hW (by omega), WY_yrd hW2 (by omega), fun i hi => WY_yrd (hW3 i hi) (by omega), MY_yrd hM (by omega), hk⟩
  · rw [gp_yrd (by omega)]; exact a1
  · rw [gp_yrd (by omega)]; exact a2
  · rw [gp_yrd (by omega)]; exact a3
  · rw [gp_yrd (by omega)]; exact a4
  · rw [gp_yrd (by omega)]; exact a5
  · rw [gp_yrd (by omega)]; exact a6
  · rw [gp_yrd (by omega)]; exact b i hi
  · rw [gp_yrd (by omega)]; exact t0
  · rw [gp_yrd (by omega)]; exact t1
  · rw [gp_yrd (by omega)]; exact t2
end RG9
