/-! WHAT HOLDS OF A ROW SPEAKS OF ITS FIRST 1784 CELLS -/
section LO
variable {ops : List Int32} {e e' : XD} {P : Nat → Int32} {c : Nat → Nat → Int32}
theorem DJ_low (hD : DJ ops e) (hs : ∀ j, j < 1784 → e' j = e j) : DJ ops e' := by
  have h6 := hD.H6
  have h8 := hD.L8
  have h60 := hD.R60
  obtain ⟨a1, a2, a3, a4, a5, a6, a7, a8, a9⟩ := hD
  unfold DJ
  rw [nH_same (hs 1 (by omega)), nL_same (hs 2 (by omega)), nR_same (hs 3 (by omega)), tM_same (hs 0 (by omega)), hs 0 (by omega), hs 1 (by omega), hs 2 (by omega), hs 3 (by omega), hs 8 (by omega)]
  refine ⟨a1, a2, a3, a4, a5, fun i hi => ?_, fun l hl => ?_, fun r hr => ?_, ?_⟩
  · rw [hs _ (by omega)]; exact a6 i hi
  · exact LN_same (fun k hk => hs _ (by omega)) (a7 l hl)
  · exact RQ_same (fun k hk => hs _ (by omega)) (a8 r hr)
  · obtain ⟨m1, m2, m3, m4, m5⟩ := a9
    exact ⟨m1, m2, m3, by rw [hs 11 (by omega)]; exact m4, fun i hi => by rw [hs _ (by omega)]; exact m5 i hi⟩
theorem CR_low (hD : DJ ops e) (hC : CR P ops e c) (hs : ∀ j, j < 1784 → e' j = e j) : CR P ops e' c := by
  have h6 := hD.H6
  have h8 := hD.L8
  have h60 := hD.R60
  obtain ⟨⟨w1, w2, w3, w4, w5⟩, hC2, hC3⟩ := hC
  refine ⟨?_, hC2, fun i hi => ?_⟩
  · rw [nH_same (hs 1 (by omega)), nL_same (hs 2 (by omega)), nR_same (hs 3 (by omega))]
    refine ⟨fun k' j' h' => ?_, fun i' k' j' hi' h' => ?_, fun i' k' j' hi' h' => ?_, fun i' k' hi' h3' h' => ?_, fun i' k' j' hi' h' => ?_⟩
    · have b' := h'.b; rw [hs _ (by omega)]; exact w1 k' j' h'
    · have b' := h'.b; rw [hs _ (by omega)]; exact w2 i' k' j' hi' h'
    · have b' := h'.b; rw [hs _ (by omega)]; exact w3 i' k' j' hi' h'
    · rw [nT_same (hs _ (by omega))] at h'
      rw [hs _ (by omega)]; exact w4 i' k' hi' h3' h'
    · have b' := h'.b; rw [hs _ (by omega)]; exact w5 i' k' j' hi' h'
  · rw [nH_same (hs 1 (by omega))] at hi
    rw [hC3 i hi, sHeld_same (nR_same (hs 3 (by omega))) (fun j hj => ⟨hs _ (by omega), hs _ (by omega)⟩)]
end LO
