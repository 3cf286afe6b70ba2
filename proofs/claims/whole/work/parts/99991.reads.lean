/-! BOTH READ THE WHOLE TEXT -/
section RS
variable {Y : XY} {N N2 : XN} {B T L m : Nat} {t : Nat → Nat} {h0 : XD} {c : Nat → Nat → Int32} {g h e : XD}
theorem S_reads (E : EN Y N N2 B T L m t) (e3 : h 3 = nI L) (e4 : h 4 = nI 0) (e5 : h 5 = nI 0) (e6 : h 6 = -nI 1) (e15 : h 15 = nI 0) (e16 : h 16 = nI 0) (hf : HF h0 h) : OUTL N N2 B T L m t h0 (fun k => c 7 k) Y (f_X4_reads Y (B + 6) (KS N B c g)) (bd2 (f_X8_takeWord Y m 0 (MM N2 m h (eUsual e))) fun r N21 => if r = nI 0 then bd (f_X8_report Y m (-nI 2) (gi N21 m 4) N21) fun N24 => bd (f_X8_expect Y m (nI 59) N24) fun N26 => f_X8_load_99 Y FU m N26 else bd (f_X8_expect Y m (nI 59) N21) fun N28 => f_X8_load_99 Y FU m N28) := by
  obtain ⟨hR, hT, hL, ⟨g1, g9, k9⟩, hM⟩ := id E
  obtain ⟨r1, r2, r3, r4, r5, hY⟩ := id hR
  have hT7 := hT.2.2.1
  have cb : f_X6_begin Y (B + 97) (KS N B c g) = some (KS N B (cUsual c) g) := by
    rw [KS_w, C_begin hY, ← KS_w]
  have hgs : RG T L t h0 0 (upd (upd (upd (upd g 4 (nI 0)) 6 (nI 0)) 0 (nI 0)) 1 (-nI 1)) h := ⟨Nat.zero_le _, by rw [upd_n (by omega), upd_n (by omega), upd_n (by omega), upd_s], e5, e6, e3, ⟨0, Nat.zero_le _, rfl, e4⟩, hf⟩
  have g6 : (upd (upd (upd (upd g 4 (nI 0)) 6 (nI 0)) 0 (nI 0)) 1 (-nI 1)) 6 = nI 0 := by rw [upd_n (by omega), upd_n (by omega), upd_s]
  have hN : NB true (upd (upd (upd (upd g 4 (nI 0)) 6 (nI 0)) 0 (nI 0)) 1 (-nI 1)) h := ⟨⟨0, by omega, rfl, e16, g6⟩, e15⟩
  have cr : f_X4_reads Y (B + 6) (KS N B c g) = bd2 (f_X4_takes Y (B + 6) (nI 10) (KS N B (cUsual c) (upd (upd (upd (upd g 4 (nI 0)) 6 (nI 0)) 0 (nI 0)) 1 (-nI 1)))) fun r10 N11 => if r10 = nI 0 then f_X4_reads_63 Y FU (B + 6) (nI 0) (nI 0) N11 else bd2 (f_X4_takes Y (B + 6) (nI 3) N11) fun r14 N15 => if r14 = nI 0 then f_X4_reads_63 Y FU (B + 6) (nI 0) (nI 0) N15 else f_X4_reads_63 Y FU (B + 6) (nI 1) (nI 0) N15 := by
    unfold f_X4_reads
    rw [r2, cb, bd_some]
    simp only [lt_eq, nI_lit, si_KS]
    rfl
  rw [cr]
  generalize hG : upd (upd (upd (upd g 4 (nI 0)) 6 (nI 0)) 0 (nI 0)) 1 (-nI 1) = G at hgs hN
  have hQ := QD_usual (e := e) (c := c)
  have tk := K_takes (c := cUsual c) (g := G) hR hT hgs.1 hgs.2.1 (k := 10) (by omega)
  obtain ⟨u1, w1, v1, z1⟩ := S_word (Y := Y) (N2 := N2) (e := eUsual e) hL g1 hM hT hgs (i := 0) (by omega)
  obtain ⟨z, hz⟩ : ∃ z, FU = z + 1 := ⟨FU - 1, by unfold FU; omega⟩
  have hz9 : 2000 < z := by have : FU = 4096 := rfl; omega
  by_cases q : tK t L (tS t L 0) = 10
  · rw [if_pos q] at w1 tk
    rw [w1.1, tk, bd2_some, bd2_some]
    simp only [nz10, ↓reduceIte]
    obtain ⟨g3, h3, x1, x2⟩ := S_takes (N2 := N2) (c := cUsual c) (e := eUsual e) hR hT hL g1 hM w1.2 (b := 59) (by omega)
    have es : sgK 59 = 3 := rfl
    rw [es] at x2
    rw [x1, bd_some]
    rcases x2 with ⟨x2, x3, x4, x5, x6⟩ | ⟨x2, x3⟩
    · rw [x2, bd2_some]
      simp only [nz10, ↓reduceIte]
      exact S_loop E (T - 2) 2 0 FU FU true [] g3 h3 (eUsual e) (cUsual c) (Nat.le_refl _) (by omega) (by omega) (by omega) x3 hQ (fun _ => rfl) ((hN.keep rfl v1 z1).keep (by rw [x4, upd_n (by omega)]) x5 x6)
    · rw [x2, bd2_some]
      simp only [nI01, ↓reduceIte]
      rw [hz, K_reads0]
      exact ⟨_, g3, h3, eUsual e, z, rfl, Or.inr ⟨rfl, x3⟩⟩
  · rw [if_neg q] at w1 tk
    rw [w1.1, tk, bd2_some, bd2_some]
    simp only [nI01, ↓reduceIte]
    have st : gi (MM N2 m u1 (eUsual e)) m 4 = nI (tS t L 0) := by rw [gi_MM]; exact w1.2.2
    rw [st, w1.2.1.rep, bd_some]
    have hb : RB h0 (upd (upd G 0 (-nI 2)) 1 (nI (tS t L 0))) (upd (upd u1 5 (-nI 2)) 6 (nI (tS t L 0))) := hgs.fail mc2 (x := -nI 2) (y := nI (tS t L 0)) (by rw [upd_n (by omega), upd_s]) (upd_s _ _ _) (by rw [upd_n (by omega), upd_s]) (upd_s _ _ _) ((w1.2.1.2.2.2.2.2.2.up (by omega) _).up (by omega) _)
    rw [M_expect_bad hb.1, bd_some, hz, K_reads0]
    exact ⟨_, _, _, eUsual e, z, rfl, Or.inr ⟨rfl, hb⟩⟩
end RS
