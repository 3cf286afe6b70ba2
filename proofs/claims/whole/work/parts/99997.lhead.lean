/-! THE CLASS'S LOAD, UP TO ITS READER -/
theorem load_head {Y : XY} {N : XN} {B n L : Nat} {t : Nat → Nat} (hY : YO Y B) (h1 : gi N B 1 = nI n) (hn : n ≤ 700) (hL : L ≤ n) (hT : TB N (B + 1) L t) : ∃ N' T, f_X7_load Y B (nI L) N = (bd2 (f_X4_reads (yrd Y (B + 6) (B + 2) (B + 97)) (B + 6) N') fun r N16 => f_X7_loadB (yrd Y (B + 6) (B + 2) (B + 97)) B r N16) ∧ TK9 N' B T L t ∧ tokf (B + 2) (si N B 1 (nI 0)) N' := by
  obtain ⟨⟨a1, a2, a3, a4, a5, a6⟩, b, ⟨t0, t1, t2⟩, hW, hW2, hW3, hM, hk⟩ := hY
  have hT2 : TB (si N B 1 (nI 0)) (B + 1) L t := fun i hi => ⟨(hT i hi).1, by rw [gi_si_n (Or.inl (by omega))]; exact (hT i hi).2⟩
  obtain ⟨N', T, s1, s2, s3, s4, s5, s6⟩ := K_split (Y := Y) (N := si N B 1 (nI 0)) (Q := B + 2) (A := B + 1) t0 t1 t2 hk (show L ≤ 700 by omega) (by omega) hT2
  refine ⟨N', T, ?_, ⟨s2, s4, s5, s6⟩, s3⟩
  have q1 : (nI L < nI 0) = False := pLTf (Nat.zero_le L) (by omega)
  have q2 : (nI L ≤ nI n) = True := pLEt hL (by omega)
  unfold f_X7_load
  simp only [nI_lit, q1, h1, q2, ↓reduceIte]
  rw [lt_eq, a2, a1, s1, bd_some, a3, a5]
