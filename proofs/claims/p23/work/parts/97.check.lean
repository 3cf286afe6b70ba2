/-! PRUNED: of whole -/
section CK
variable {P : Nat → Int32} {Y : XY} {B w : Nat} {N : XN} {d : XD} {ops : List Int32}
theorem K_tenant (h5 : gp Y B 5 = w) (hW : WY Y w) (hD : DJ ops d) (hC : CR P ops d (wc N w)) {l k : Nat} (hl : l < nL d) (hk : k < nT d l) : f_X7_tenant Y B (nI l) (nI k) N = some (.inl (d (52 + 7 * l + k)), N) := by
  have h8 := hD.L8
  have e : gi N w 3 = nI (nL d) := (hC.1.w3).trans hD.L
  obtain ⟨t1, t2, t3, -⟩ := hD.ln l hl
  have e2 := (K_has_in (Y := Y) (N := N) (w := w) (d := d) (j := l)).2.1 e h8 hl
  unfold f_X7_tenant
  simp (disch := omega) only [nI_lit, ↓lt_eq, h5, e2, ↓reduceIte, pLEt, pLEf, pLTt, pLTf, pEQf, pML, pMG, pMf, pMg, nz10, xb_nI, nI_clamp, if_true, hW.g2, hW.l, hW.t, gi_wc N w, hC.1.l4, t1, hC.1.t]

end CK
