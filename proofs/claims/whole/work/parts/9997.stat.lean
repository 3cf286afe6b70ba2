/-! BOTH READ A STATEMENT -/
section SS
variable {f : Bool} {Y : XY} {N N2 : XN} {B T L m a : Nat} {t : Nat → Nat} {c : Nat → Nat → Int32} {g h h0 e : XD} {P : Nat → Int32} {ops : List Int32}
/-- how a statement ends: f says whether the fine may still come -/
def OUTS (N N2 : XN) (B T L m : Nat) (t : Nat → Nat) (h0 : XD) (P : Nat → Int32) (Y : XY) (a : Nat) (fc : Option (Int32 × XN)) (fm : Option XN) : Prop :=
  ∃ f c' g' h' e', fm = (bd (f_X8_expect Y m (nI 59) (MM N2 m h' e')) fun N'' => some N'') ∧ ((fc = some (nI 1, KS N B c' g') ∧ (∃ a', a < a' ∧ RG T L t h0 a' g' h') ∧ (∃ ops, (f = true → ops = []) ∧ QD P ops e' c') ∧ NB f g' h') ∨ (fc = some (nI 0, KS N B c' g') ∧ RB h0 g' h'))
/-- the fine, begun once -/
theorem S_finest (E : EN Y N N2 B T L m t) (hQ : QD P ops e c) (hf : f = true → ops = []) (hn : NB f g h) (ha : a ≤ T) (h4 : g 4 = nI a) (hg : RG T L t h0 (a + 1) (upd g 4 (nI (a + 1))) h) : OUT false N N2 B T L m t h0 P (fun _ => True) a (bd2 (f_X4_beginsOnce Y (B + 6) (nI 19) (KS N B c g)) fun r N' => if r = nI 0 then some (nI 0, N') else bd2 (f_X4_S Y 24 0 (B + 6) (nI 0) N') fun r N' => if r = nI 0 then some (nI 0, N') else some (nI 1, N')) (bd (f_X8_once Y m (nI 5) (nI (tS t L a)) (MM N2 m h e)) fun N45 => f_X8_S Y 24 0 m (si N45 (m + 3) 10 (nI 1))) := by
  obtain ⟨g2, h2, m2, s2⟩ := S_once (c := c) (e := e) E hn ha h4 hg (b := 5) (by omega)
  rw [show 14 + 5 = 19 from rfl] at s2
  rcases s2 with ⟨s2, b1, b2, b3⟩ | ⟨s2, b1⟩
  · have ho := hf (b3 rfl)
    subst ho
    rw [if_pos rfl] at b2
    have hQ2 : QD P [] (upd e 10 (nI 1)) c := hQ.code (fun j q _ _ => upd_n q) (MC_same (upd_n (by omega)) (fun i => upd_n (by omega)) hQ.1.C) hQ.2.1.2.1 (fun _ _ _ _ => rfl)
    obtain ⟨c3, g3, h3, e3, f1, f2⟩ := S_fine E a.succ 0 [] g2 h2 (upd e 10 (nI 1)) c b1 hQ2 rfl (Nat.le_refl 0) (Nat.zero_le _) rfl b2.2 rfl
    refine ⟨c3, g3, h3, e3, ?_, ?_⟩
    · rw [m2, bd_some, si_MMd]; exact f1
    · rcases f2 with ⟨f2, a', ops', i1, i2, i3, i4, i5, i6, i7, i8⟩ | ⟨f2, i1, i2⟩
      · refine Or.inl ⟨?_, ⟨a', by omega, i2⟩, ⟨ops', trivial, i3⟩, b2.keep i6 (i7.trans b2.2.symm) i8⟩
        rw [s2, bd2_some]
        simp only [nz10, ↓reduceIte]
        rw [f2, bd2_some]
        simp only [nz10, ↓reduceIte]
      · refine Or.inr ⟨?_, i1⟩
        rw [s2, bd2_some]
        simp only [nz10, ↓reduceIte]
        rw [f2, bd2_some]
        simp only [nI01, ↓reduceIte]
  · refine ⟨c, g2, h2, upd e 10 (nI 1), ?_, Or.inr ⟨?_, b1⟩⟩
    · rw [m2, bd_some, si_MMd]; exact (M_S_bad b1.1).2.2 21
    · rw [s2, bd2_some]
      simp only [nI01, ↓reduceIte]
theorem S_stmt (E : EN Y N N2 B T L m t) (hQ : QD P ops e c) (hf : f = true → ops = []) (hn : NB f g h) (hg : RG T L t h0 a g h) : OUTS N N2 B T L m t h0 P Y a (f_X4_readsStatement Y (B + 6) (KS N B c g)) (f_X8_statement Y m (MM N2 m h e)) := by
  obtain ⟨hR, hT, hL, ⟨g1, g9, k9⟩, hM⟩ := id E
  have haT := hg.1
  have h4 := hg.2.1
  have kd := S_kind (c := c) hR hT hg
  have kf := fun x : Int32 => K_fails (c := c) (g := g) hR hT haT h4 (x := x)
  have lK := tK_lt (t := t) (L := L) (s := tS t L a)
  obtain ⟨h1, nx, b1, b2, b3, b4⟩ := S_next (e := e) hL g1 hM hT hg
  have st : gi (MM N2 m h1 e) m 4 = nI (tS t L a) := by rw [gi_MM]; exact b2
  have hn1 : NB f g h1 := hn.keep rfl b3 b4
  unfold f_X4_readsStatement f_X8_statement
  simp only [nI_lit]
  rw [nx, bd2_some, kd, bd_some]
  simp only [st]
  obtain ⟨u1, w1, v1, z1⟩ := S_word (Y := Y) (N2 := N2) (e := e) hL g1 hM hT b1 (i := 1) (by omega)
  have n1 : NB f g u1 := hn1.keep rfl v1 z1
  by_cases q1 : tK t L (tS t L a) = 11
  · rw [if_pos q1] at w1
    obtain ⟨c2, g2, h2, e2, f1, f2⟩ := S_handler E hQ n1 haT h4 w1.2
    refine ⟨f, c2, g2, h2, e2, ?_, ?_⟩
    · rw [w1.1, bd2_some]
      simp only [nz10, ↓reduceIte]
      exact congrArg (fun z => bd z fun N' => bd (f_X8_expect Y m (nI 59) N') fun N'' => some N'') f1
    · rw [q1]
      simp only [nI01, eq_self, ↓reduceIte]
      rcases f2 with ⟨s1, s2, ⟨o3, s3, s4⟩, s5⟩ | ⟨s1, s2⟩
      · exact Or.inl ⟨by rw [s1, bd2_some]; simp only [xz1, ↓reduceIte], s2, ⟨o3, fun z => by rw [s3]; exact hf z, s4⟩, s5⟩
      · exact Or.inr ⟨by rw [s1, bd2_some]; simp only [xz0, ↓reduceIte], s2⟩
  rw [if_neg q1] at w1
  rw [w1.1, bd2_some]
  simp only [nI01, sk_eq lK q1 (by omega), ↓reduceIte]
  obtain ⟨u2, w2, v2, z2⟩ := S_word (Y := Y) (N2 := N2) (e := e) hL g1 hM hT w1.2.1 (i := 2) (by omega)
  have n2 : NB f g u2 := n1.keep rfl v2 z2
  by_cases q2 : tK t L (tS t L a) = 12
  · rw [if_pos q2] at w2
    obtain ⟨c2, g2, h2, e2, f1, f2⟩ := S_line E hQ n2 haT h4 w2.2
    refine ⟨f, c2, g2, h2, e2, ?_, ?_⟩
    · rw [w2.1, bd2_some]
      simp only [nz10, ↓reduceIte]
      exact congrArg (fun z => bd z fun N' => bd (f_X8_expect Y m (nI 59) N') fun N'' => some N'') f1
    · rw [q2]
      simp only [nI01, eq_self, ↓reduceIte, (show (nI 12 = nI 11) = False from pEQf (by omega) (by omega) (by omega))]
      rcases f2 with ⟨s1, s2, ⟨o3, s3, s4⟩, s5⟩ | ⟨s1, s2⟩
      · exact Or.inl ⟨by rw [s1, bd2_some]; simp only [xz1, ↓reduceIte], s2, ⟨o3, fun z => by rw [s3]; exact hf z, s4⟩, s5⟩
      · exact Or.inr ⟨by rw [s1, bd2_some]; simp only [xz0, ↓reduceIte], s2⟩
  rw [if_neg q2] at w2
  rw [w2.1, bd2_some]
  simp only [nI01, sk_eq lK q2 (by omega), ↓reduceIte]
  obtain ⟨u3, w3, v3, z3⟩ := S_word (Y := Y) (N2 := N2) (e := e) hL g1 hM hT w2.2.1 (i := 3) (by omega)
  have n3 : NB f g u3 := n2.keep rfl v3 z3
  by_cases q3 : tK t L (tS t L a) = 13
  · rw [if_pos q3] at w3
    obtain ⟨c2, g2, h2, e2, f1, f2⟩ := S_raise E hQ n3 haT h4 w3.2
    refine ⟨f, c2, g2, h2, e2, ?_, ?_⟩
    · rw [w3.1, bd2_some]
      simp only [nz10, ↓reduceIte]
      exact congrArg (fun z => bd z fun N' => bd (f_X8_expect Y m (nI 59) N') fun N'' => some N'') f1
    · rw [q3]
      simp only [nI01, eq_self, ↓reduceIte, (show (nI 13 = nI 11) = False from pEQf (by omega) (by omega) (by omega)), (show (nI 13 = nI 12) = False from pEQf (by omega) (by omega) (by omega))]
      rcases f2 with ⟨s1, s2, ⟨o3, s3, s4⟩, s5⟩ | ⟨s1, s2⟩
      · exact Or.inl ⟨by rw [s1, bd2_some]; simp only [xz1, ↓reduceIte], s2, ⟨o3, fun z => by rw [s3]; exact hf z, s4⟩, s5⟩
      · exact Or.inr ⟨by rw [s1, bd2_some]; simp only [xz0, ↓reduceIte], s2⟩
  rw [if_neg q3] at w3
  rw [w3.1, bd2_some]
  simp only [nI01, sk_eq lK q3 (by omega), ↓reduceIte]
  obtain ⟨u4, w4, v4, z4⟩ := S_word (Y := Y) (N2 := N2) (e := e) hL g1 hM hT w3.2.1 (i := 4) (by omega)
  have n4 : NB f g u4 := n3.keep rfl v4 z4
  by_cases q4 : tK t L (tS t L a) = 14
  · rw [if_pos q4] at w4
    obtain ⟨c2, g2, h2, e2, f1, f2⟩ := S_rule E hQ n4 haT h4 w4.2 (b := 0) (by omega)
    refine ⟨f, c2, g2, h2, e2, ?_, ?_⟩
    · rw [w4.1, bd2_some]
      simp only [nz10, ↓reduceIte]
      exact congrArg (fun z => bd z fun N' => bd (f_X8_expect Y m (nI 59) N') fun N'' => some N'') f1
    · rw [q4]
      simp only [nI01, eq_self, ↓reduceIte, (show (nI 14 = nI 11) = False from pEQf (by omega) (by omega) (by omega)), (show (nI 14 = nI 12) = False from pEQf (by omega) (by omega) (by omega)), (show (nI 14 = nI 13) = False from pEQf (by omega) (by omega) (by omega))]
      rcases f2 with ⟨s1, s2, ⟨o3, s3, s4⟩, s5⟩ | ⟨s1, s2⟩
      · exact Or.inl ⟨s1, s2, ⟨o3, fun z => by rw [s3]; exact hf z, s4⟩, s5⟩
      · exact Or.inr ⟨s1, s2⟩
  rw [if_neg q4] at w4
  rw [w4.1, bd2_some]
  simp only [nI01, sk_eq lK q4 (by omega), ↓reduceIte]
  obtain ⟨u5, w5, v5, z5⟩ := S_word (Y := Y) (N2 := N2) (e := e) hL g1 hM hT w4.2.1 (i := 5) (by omega)
  have n5 : NB f g u5 := n4.keep rfl v5 z5
  by_cases q5 : tK t L (tS t L a) = 15
  · rw [if_pos q5] at w5
    obtain ⟨c2, g2, h2, e2, f1, f2⟩ := S_rule E hQ n5 haT h4 w5.2 (b := 1) (by omega)
    refine ⟨f, c2, g2, h2, e2, ?_, ?_⟩
    · rw [w5.1, bd2_some]
      simp only [nz10, ↓reduceIte]
      exact congrArg (fun z => bd z fun N' => bd (f_X8_expect Y m (nI 59) N') fun N'' => some N'') f1
    · rw [q5]
      simp only [nI01, eq_self, ↓reduceIte, (show (nI 15 = nI 11) = False from pEQf (by omega) (by omega) (by omega)), (show (nI 15 = nI 12) = False from pEQf (by omega) (by omega) (by omega)), (show (nI 15 = nI 13) = False from pEQf (by omega) (by omega) (by omega)), (show (nI 15 = nI 14) = False from pEQf (by omega) (by omega) (by omega))]
      rcases f2 with ⟨s1, s2, ⟨o3, s3, s4⟩, s5⟩ | ⟨s1, s2⟩
      · exact Or.inl ⟨s1, s2, ⟨o3, fun z => by rw [s3]; exact hf z, s4⟩, s5⟩
      · exact Or.inr ⟨s1, s2⟩
  rw [if_neg q5] at w5
  rw [w5.1, bd2_some]
  simp only [nI01, sk_eq lK q5 (by omega), ↓reduceIte]
  obtain ⟨u6, w6, v6, z6⟩ := S_word (Y := Y) (N2 := N2) (e := e) hL g1 hM hT w5.2.1 (i := 6) (by omega)
  have n6 : NB f g u6 := n5.keep rfl v6 z6
  by_cases q6 : tK t L (tS t L a) = 16
  · rw [if_pos q6] at w6
    obtain ⟨c2, g2, h2, e2, f1, f2⟩ := S_rule E hQ n6 haT h4 w6.2 (b := 2) (by omega)
    refine ⟨f, c2, g2, h2, e2, ?_, ?_⟩
    · rw [w6.1, bd2_some]
      simp only [nz10, ↓reduceIte]
      exact congrArg (fun z => bd z fun N' => bd (f_X8_expect Y m (nI 59) N') fun N'' => some N'') f1
    · rw [q6]
      simp only [nI01, eq_self, ↓reduceIte, (show (nI 16 = nI 11) = False from pEQf (by omega) (by omega) (by omega)), (show (nI 16 = nI 12) = False from pEQf (by omega) (by omega) (by omega)), (show (nI 16 = nI 13) = False from pEQf (by omega) (by omega) (by omega)), (show (nI 16 = nI 14) = False from pEQf (by omega) (by omega) (by omega)), (show (nI 16 = nI 15) = False from pEQf (by omega) (by omega) (by omega))]
      rcases f2 with ⟨s1, s2, ⟨o3, s3, s4⟩, s5⟩ | ⟨s1, s2⟩
      · exact Or.inl ⟨s1, s2, ⟨o3, fun z => by rw [s3]; exact hf z, s4⟩, s5⟩
      · exact Or.inr ⟨s1, s2⟩
  rw [if_neg q6] at w6
  rw [w6.1, bd2_some]
  simp only [nI01, sk_eq lK q6 (by omega), ↓reduceIte]
  obtain ⟨u7, w7, v7, z7⟩ := S_word (Y := Y) (N2 := N2) (e := e) hL g1 hM hT w6.2.1 (i := 7) (by omega)
  have n7 : NB f g u7 := n6.keep rfl v7 z7
  by_cases q7 : tK t L (tS t L a) = 17
  · rw [if_pos q7] at w7
    obtain ⟨c2, g2, h2, e2, f1, f2⟩ := S_rule E hQ n7 haT h4 w7.2 (b := 3) (by omega)
    refine ⟨f, c2, g2, h2, e2, ?_, ?_⟩
    · rw [w7.1, bd2_some]
      simp only [nz10, ↓reduceIte]
      exact congrArg (fun z => bd z fun N' => bd (f_X8_expect Y m (nI 59) N') fun N'' => some N'') f1
    · rw [q7]
      simp only [nI01, eq_self, ↓reduceIte, (show (nI 17 = nI 11) = False from pEQf (by omega) (by omega) (by omega)), (show (nI 17 = nI 12) = False from pEQf (by omega) (by omega) (by omega)), (show (nI 17 = nI 13) = False from pEQf (by omega) (by omega) (by omega)), (show (nI 17 = nI 14) = False from pEQf (by omega) (by omega) (by omega)), (show (nI 17 = nI 15) = False from pEQf (by omega) (by omega) (by omega)), (show (nI 17 = nI 16) = False from pEQf (by omega) (by omega) (by omega))]
      rcases f2 with ⟨s1, s2, ⟨o3, s3, s4⟩, s5⟩ | ⟨s1, s2⟩
      · exact Or.inl ⟨s1, s2, ⟨o3, fun z => by rw [s3]; exact hf z, s4⟩, s5⟩
      · exact Or.inr ⟨s1, s2⟩
  rw [if_neg q7] at w7
  rw [w7.1, bd2_some]
  simp only [nI01, sk_eq lK q7 (by omega), ↓reduceIte]
  obtain ⟨u8, w8, v8, z8⟩ := S_word (Y := Y) (N2 := N2) (e := e) hL g1 hM hT w7.2.1 (i := 8) (by omega)
  have n8 : NB f g u8 := n7.keep rfl v8 z8
  by_cases q8 : tK t L (tS t L a) = 18
  · rw [if_pos q8] at w8
    obtain ⟨c2, g2, h2, e2, f1, f2⟩ := S_rule E hQ n8 haT h4 w8.2 (b := 4) (by omega)
    refine ⟨f, c2, g2, h2, e2, ?_, ?_⟩
    · rw [w8.1, bd2_some]
      simp only [nz10, ↓reduceIte]
      exact congrArg (fun z => bd z fun N' => bd (f_X8_expect Y m (nI 59) N') fun N'' => some N'') f1
    · rw [q8]
      simp only [nI01, eq_self, ↓reduceIte, (show (nI 18 = nI 11) = False from pEQf (by omega) (by omega) (by omega)), (show (nI 18 = nI 12) = False from pEQf (by omega) (by omega) (by omega)), (show (nI 18 = nI 13) = False from pEQf (by omega) (by omega) (by omega)), (show (nI 18 = nI 14) = False from pEQf (by omega) (by omega) (by omega)), (show (nI 18 = nI 15) = False from pEQf (by omega) (by omega) (by omega)), (show (nI 18 = nI 16) = False from pEQf (by omega) (by omega) (by omega)), (show (nI 18 = nI 17) = False from pEQf (by omega) (by omega) (by omega))]
      rcases f2 with ⟨s1, s2, ⟨o3, s3, s4⟩, s5⟩ | ⟨s1, s2⟩
      · exact Or.inl ⟨s1, s2, ⟨o3, fun z => by rw [s3]; exact hf z, s4⟩, s5⟩
      · exact Or.inr ⟨s1, s2⟩
  rw [if_neg q8] at w8
  rw [w8.1, bd2_some]
  simp only [nI01, sk_eq lK q8 (by omega), ↓reduceIte]
  obtain ⟨u9, w9, v9, z9⟩ := S_word (Y := Y) (N2 := N2) (e := e) hL g1 hM hT w8.2.1 (i := 9) (by omega)
  have n9 : NB f g u9 := n8.keep rfl v9 z9
  by_cases q9 : tK t L (tS t L a) = 19
  · rw [if_pos q9] at w9
    obtain ⟨c2, g2, h2, e2, f1, f2⟩ := S_finest E hQ hf n9 haT h4 w9.2
    refine ⟨false, c2, g2, h2, e2, ?_, ?_⟩
    · rw [w9.1, bd2_some]
      simp only [nz10, ↓reduceIte]
      cases hO : f_X8_once Y m (nI 5) (nI (tS t L a)) (MM N2 m u9 e) with
      | none => rw [hO] at f1; cases f1
      | some M => 
        rw [hO, bd_some] at f1
        rw [bd_some, g9]
        simp only [lt_eq]
        rw [f1, bd_some]
    · rw [q9]
      simp only [nI01, eq_self, ↓reduceIte, (show (nI 19 = nI 11) = False from pEQf (by omega) (by omega) (by omega)), (show (nI 19 = nI 12) = False from pEQf (by omega) (by omega) (by omega)), (show (nI 19 = nI 13) = False from pEQf (by omega) (by omega) (by omega)), (show (nI 19 = nI 14) = False from pEQf (by omega) (by omega) (by omega)), (show (nI 19 = nI 15) = False from pEQf (by omega) (by omega) (by omega)), (show (nI 19 = nI 16) = False from pEQf (by omega) (by omega) (by omega)), (show (nI 19 = nI 17) = False from pEQf (by omega) (by omega) (by omega)), (show (nI 19 = nI 18) = False from pEQf (by omega) (by omega) (by omega))]
      rcases f2 with ⟨s1, s2, ⟨o3, s3, s4⟩, s5⟩ | ⟨s1, s2⟩
      · exact Or.inl ⟨s1, s2, ⟨o3, (fun z => by cases z), s4⟩, s5⟩
      · exact Or.inr ⟨s1, s2⟩
  rw [if_neg q9] at w9
  rw [w9.1, bd2_some]
  simp only [nI01, sk_eq lK q9 (by omega), ↓reduceIte]
  have rp := w9.2.1.rep (Y := Y) (N := N2) (m := m) (e := e) (x := -nI 2) (y := nI (tS t L a))
  rw [rp, bd_some]
  refine ⟨f, c, upd (upd g 0 (-nI 2)) 1 (nI (tS t L a)), _, e, rfl, Or.inr ⟨by rw [kf, bd2_some]; simp only [xz0, ↓reduceIte], hg.fail mc2 (x := -nI 2) (y := nI (tS t L a)) (by rw [upd_n (by omega), upd_s]) (upd_s _ _ _) (by rw [upd_n (by omega), upd_s]) (upd_s _ _ _) ((w9.2.1.2.2.2.2.2.2.up (by omega) _).up (by omega) _)⟩⟩
end SS
