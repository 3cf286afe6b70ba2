/-! PRUNED: of whole -/
section CG
variable {P : Nat → Int32} {Y : XY} {B m w : Nat} {N : XN} {d : XD} {ops : List Int32} {k p n : Nat}
theorem keep_all (hY : YO Y B) (hd : IVd B N ops d) (hh : IVh B N k p) : ∃ Nk Q P, f_X7_keepPresent Y B N = some Nk ∧ kept1 B p k N Nk ∧ CR Q ops d (wc Nk (B + (188 + 90 * p))) ∧ CR P ops d (wc Nk (B + 7)) := by
  obtain ⟨hD, hz, hT, hr, P, hC⟩ := hd
  obtain ⟨⟨a1, a2, a3, a4, a5⟩, -, -⟩ := hh
  obtain ⟨Nk, Q, b1, b2, b3⟩ := K_keep hY hD hC a1 a2 a3 a4
  exact ⟨Nk, Q, P, b1, b2, b3, hC.cells hD.H6 hD.L8 hD.R60 (fun o j ho => by unfold wc; rw [b2.2.1 _ (by omega) (by omega)])⟩
theorem C_pass_L {q : Nat} (h5 : gp Y q 5 = w) (hY : WY Y w) {t : Nat} (ht : t ≤ 200) {bf : Int32} : ∀ (z i D9 : Nat) (e : XD) (P : Nat → Int32) (c : Nat → Nat → Int32), DJ ops e → tM e + z ≤ 1000000 → CR P ops e c → i + z = t → z < D9 → ∃ Q c', f_X7_pass_52 Y D9 q (nI t) bf (nI i) (sw N w c) = some (.inl (nI (sCount (sTicks ops z e) (nI 2)) - bf), sw N w c') ∧ CR Q ops (sTicks ops z e) c' := by
  intro z
  induction z with
  | zero =>
    intro i D9 e P c hE hT hC hi hD9
    obtain ⟨D8, rfl⟩ : ∃ z, D9 = z + 1 := ⟨D9 - 1, by omega⟩
    refine ⟨P, c, ?_, hC⟩
    rw [f_X7_pass_52]
    simp (disch := omega) only [↓lt_eq, nI_lit, ↓reduceIte, pLEt, pLEf, pLTt, pLTf, pEQf, pML, pMG, pMf, pMg, h5, C_requestsIn hY hE hC, bd_some]
    rfl
  | succ z ih =>
    intro i D9 e P c hE hT hC hi hD9
    obtain ⟨D8, rfl⟩ : ∃ z, D9 = z + 1 := ⟨D9 - 1, by omega⟩
    obtain ⟨Q1, c1, b1, b2⟩ := C_passTick (N := N) hY hE (by omega) hC
    obtain ⟨a1, a2, a3, a4, a5, a6⟩ := hE.tick (by omega)
    obtain ⟨Q2, c2, f1, f2⟩ := ih (i + 1) D8 (sTick ops e) Q1 c1 a1 (by omega) b2 (by omega) (by omega)
    refine ⟨Q2, c2, ?_, by rw [sTicks_1]; exact f2⟩
    rw [f_X7_pass_52, sTicks_1]
    simp (disch := omega) only [↓lt_eq, nI_lit, nI_add, ↓reduceIte, pLEt, pLEf, pLTt, pLTf, pEQf, pML, pMG, pMf, pMg, h5, b1, bd_some]
    exact f1
end CG

