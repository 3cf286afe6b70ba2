/-! PRUNED: of whole -/
def bC (x s : Int32) : Int32 := (x.toUInt32 >>> (s.toUInt32 &&& Int32.toUInt32 31)).toInt32.toInt8.toInt32
/-- bytes laid into row A from place n on, their number into slot s of L -/
def apF (A L s : Nat) (f : Nat → Int32) (n : Nat) : Nat → Nat → XN → XN
  | 0, _, N => N
  | z + 1, k, N => apF A L s f n z (k + 1) (si (si N A (n + k) (f k)) L s (nI (n + (k + 1))))
section AP
variable {Y : XY} {B : Nat} {N : XN}
theorem i32_addneg {a b : Nat} (h : b ≤ a) : nI a + -nI b = nI (a - b) := by rw [← Int32.sub_eq_add_neg]; exact pk_sub h
theorem K_put (h0 : gp Y B 0 = B + 1) {n q : Nat} {v : Int32} {f : Nat → Int32} (hf : ∀ j, j < 4 → f (4 * q + j) = bC v (nI (24 - 8 * j))) (hn : n + 4 * q + 4 ≤ 700) : ∀ (z j D9 : Nat) (N : XN), j + z = 4 → z < D9 → gi N B 1 = nI (n + (4 * q + j)) → f_X7_putBytes_3 Y D9 B v (if z = 0 then -nI 8 else nI (8 * (z - 1))) N = some (apF (B + 1) B 1 f n z (4 * q + j) N) := by
  intro z
  induction z with
  | zero =>
    intro j D9 N hi hD9 hN
    obtain ⟨D8, rfl⟩ : ∃ z, D9 = z + 1 := ⟨D9 - 1, by omega⟩
    have m8 : (-nI 8 < nI 0) = True := eq_true (by decide)
    rw [f_X7_putBytes_3, if_pos rfl]
    simp only [nI_lit, m8, if_true]
    rfl
  | succ z ih =>
    intro j D9 N hi hD9 hN
    obtain ⟨D8, rfl⟩ : ∃ z, D9 = z + 1 := ⟨D9 - 1, by omega⟩
    have IH := ih (j + 1) D8 (si (si N (B + 1) (n + (4 * q + j)) (f (4 * q + j))) B 1 (nI (n + (4 * q + j + 1)))) (by omega) (by omega) (by rw [gi_si]; congr 1)
    have es : nI (8 * z) + -nI 8 = if z = 0 then -nI 8 else nI (8 * (z - 1)) := by
      by_cases z0 : z = 0
      · subst z0; rw [if_pos rfl]; decide
      · rw [if_neg z0, i32_addneg (by omega)]; congr 1; omega
    have hb : vp_nar .byte (((v.toUInt32 >>> ((nI (8 * z)).toUInt32 &&& Int32.toUInt32 (nI 31))).toInt32).toInt8.toInt32) = f (4 * q + j) := by
      rw [pk_vb, hf j (by omega), show 24 - 8 * j = 8 * z by omega]
      rfl
    have g1 : gi (si N (B + 1) (n + (4 * q + j)) (f (4 * q + j))) B 1 = nI (n + (4 * q + j)) := by rw [gi_si_n (Or.inl (by omega))]; exact hN
    rw [show n + (4 * q + j + 1) = n + (4 * q + j) + 1 by omega] at IH
    rw [if_neg (c := z + 1 = 0) (by omega), show z + 1 - 1 = z by omega, f_X7_putBytes_3]
    simp (disch := omega) only [↓lt_eq, nI_lit, ↓reduceIte, pLEt, pLEf, pLTt, pLTf, pEQf, pML, pMG, pMf, pMg, hN, xb_nI, nI_clamp, if_true, h0, hb, g1, nI_add, es]
    rw [IH, show n + (4 * q + j) + 1 = n + (4 * q + j + 1) by omega]
    rfl
end AP

