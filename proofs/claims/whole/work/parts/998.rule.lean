/-! BOTH READ A RULE, ONCE -/
theorem bits : ∀ b, b < 6 → ∀ x, x < 64 → ((((nI x >>> (nI b &&& nI 31)) &&& nI 1 = nI 1) ↔ ¬ (nI (16384 * x) &&& (nI 1 <<< (nI (14 + b) &&& nI 31)) = nI 0)) ∧ (nI x ||| (nI 1 <<< (nI b &&& nI 31))) = nI (x ||| 2 ^ b) ∧ (nI (16384 * x) ||| (nI 1 <<< (nI (14 + b) &&& nI 31))) = nI (16384 * (x ||| 2 ^ b)) ∧ (x ||| 2 ^ b) < 64 ∧ (b = 5 → nI (16384 * x) &&& (nI 1 <<< (nI (14 + b) &&& nI 31)) = nI 0 → x < 32) ∧ decide ((x ||| 2 ^ b) < 32) = (if b = 5 then false else decide (x < 32))) := by decide +kernel
section RU
variable {f : Bool} {Y : XY} {N N2 : XN} {B T L m a : Nat} {t : Nat → Nat} {c : Nat → Nat → Int32} {g h h0 e : XD} {P : Nat → Int32} {ops : List Int32}
/-- a statement that may stand once begins -/
theorem S_once (E : EN Y N N2 B T L m t) (hn : NB f g h) (ha : a ≤ T) (h4 : g 4 = nI a) (hg : RG T L t h0 (a + 1) (upd g 4 (nI (a + 1))) h) {b : Nat} (hb : b < 6) : ∃ g' h', f_X8_once Y m (nI b) (nI (tS t L a)) (MM N2 m h e) = some (MM N2 m h' e) ∧ ((f_X4_beginsOnce Y (B + 6) (nI (14 + b)) (KS N B c g) = some (nI 1, KS N B c g') ∧ RG T L t h0 (a + 1) g' h' ∧ NB (if b = 5 then false else f) g' h' ∧ (b = 5 → f = true)) ∨ (f_X4_beginsOnce Y (B + 6) (nI (14 + b)) (KS N B c g) = some (nI 0, KS N B c g') ∧ RB h0 g' h')) := by
  obtain ⟨hR, hT, hL, ⟨g1, g9, k9⟩, hM⟩ := E
  obtain ⟨⟨x, x1, x0, x2, x3⟩, x4⟩ := hn
  obtain ⟨b1, b2, b3, b4, b5, b6⟩ := bits b hb x x1
  obtain ⟨a1, a2, a3, a6, a4, a7, a5⟩ := id hg
  have kf := K_fails (c := c) (g := g) hR hT ha h4 (x := -nI 2)
  by_cases q : nI (16384 * x) &&& (nI 1 <<< (nI (14 + b) &&& nI 31)) = nI 0
  · have q2 : ¬ ((nI x >>> (nI b &&& nI 31)) &&& nI 1 = nI 1) := fun z => b1.mp z q
    refine ⟨upd (upd g 6 (nI (16384 * (x ||| 2 ^ b)))) 4 (nI (a + 1)), upd h 16 (nI (x ||| 2 ^ b)), ?_, Or.inl ⟨?_, ⟨a1, upd_s _ _ _, ?_, ?_, ?_, ?_, a5.up (by omega) _⟩, ⟨⟨_, b4, by rw [b6, x0], upd_s _ _ _, ?_⟩, ?_⟩, fun z => by rw [← x0]; exact decide_eq_true (b5 z q)⟩⟩
    · unfold f_X8_once
      simp only [↓lt_eq, nI_lit, gi_MM, x2, eq_false q2, if_false, b2, si_MM]
    · unfold f_X4_beginsOnce
      have h46 : upd g 6 (nI (16384 * (x ||| 2 ^ b))) 4 = nI a := by rw [upd_n (by omega)]; exact h4
      simp only [↓lt_eq, nI_lit, gi_KS, x3, eq_true q, if_true, b3, si_KS, h46, nI_add]
    · rw [upd_n (by omega)]; exact a3
    · rw [upd_n (by omega)]; exact a6
    · rw [upd_n (by omega)]; exact a4
    · obtain ⟨p, p1, p2, p3⟩ := a7
      exact ⟨p, p1, p2, by rw [upd_n (by omega)]; exact p3⟩
    · rw [upd_n (by omega), upd_s]
    · rw [upd_n (by omega)]; exact x4
  · have q2 : (nI x >>> (nI b &&& nI 31)) &&& nI 1 = nI 1 := b1.mpr q
    refine ⟨upd (upd g 0 (-nI 2)) 1 (nI (tS t L a)), upd (upd (upd h 5 (-nI 2)) 6 (nI (tS t L a))) 16 (nI (x ||| 2 ^ b)), ?_, Or.inr ⟨?_, hg.fail mc2 (x := -nI 2) (y := nI (tS t L a)) ?_ (upd_s _ _ _) ?_ ?_ (((a5.up (by omega) _).up (by omega) _).up (by omega) _)⟩⟩
    · have h16 : upd (upd h 5 (-nI 2)) 6 (nI (tS t L a)) 16 = nI x := by rw [upd_n (by omega), upd_n (by omega)]; exact x2
      unfold f_X8_once
      simp only [↓lt_eq, nI_lit, gi_MM, x2, eq_true q2, if_true, hg.rep, bd_some, h16, b2, si_MM]
    · unfold f_X4_beginsOnce
      simp only [nI_lit, gi_KS, x3, eq_false q, if_false, kf, bd2_some, xz0, if_true]
    · rw [upd_n (by omega), upd_s]
    · rw [upd_n (by omega), upd_n (by omega), upd_s]
    · rw [upd_n (by omega), upd_s]
/-- the model's part of a rule behind a fault -/
theorem M_once_bad (h5 : h 5 ≠ nI 0) {x y : Int32} : ∃ v, f_X8_once Y m x y (MM N2 m h e) = some (MM N2 m (upd h 16 v) e) := by
  unfold f_X8_once
  simp only [↓lt_eq, nI_lit, gi_MM, M_report_bad h5, bd_some, si_MM]
  split
  · exact ⟨_, rfl⟩
  · exact ⟨_, rfl⟩
/-- a rule's bounds, its field in the class's world -/
def lo5 (b : Nat) : Nat := if b = 2 then 0 else if b = 4 then 0 else 1
def hi5 (b : Nat) : Nat := if b = 2 then 999 else 99
theorem K_rule {b : Nat} (hb : b < 5) {M : XN} : f_X4_readsRule Y (B + 6) (nI (14 + b)) M = bd2 (f_X4_readsNumber Y (B + 6) (nI (lo5 b)) (nI (hi5 b)) M) fun r N' => if r = nI 0 then some (nI 0, N') else some (nI 1, si N' (gp Y (B + 6) 3) (8 + b) (gi N' (B + 6) 5)) := by
  unfold f_X4_readsRule
  rcases (show b = 0 ∨ b = 1 ∨ b = 2 ∨ b = 3 ∨ b = 4 by omega) with rfl | rfl | rfl | rfl | rfl
  all_goals (simp (disch := omega) only [↓lt_eq, nI_lit, Nat.reduceAdd, ↓reduceIte, pLEt, pLEf, pLTt, pLTf, pEQf, pML, pMG, pMf, pMg]; rfl)
/-- a rule: begun once, its number read and kept -/
theorem S_rule (E : EN Y N N2 B T L m t) (hQ : QD P ops e c) (hn : NB f g h) (ha : a ≤ T) (h4 : g 4 = nI a) (hg : RG T L t h0 (a + 1) (upd g 4 (nI (a + 1))) h) {b : Nat} (hb : b < 5) : OUT f N N2 B T L m t h0 P (fun o => o = ops) a (bd2 (f_X4_beginsOnce Y (B + 6) (nI (14 + b)) (KS N B c g)) fun r N' => if r = nI 0 then some (nI 0, N') else bd2 (f_X4_readsRule Y (B + 6) (nI (14 + b)) N') fun r N' => if r = nI 0 then some (nI 0, N') else some (nI 1, N')) (f_X8_readOnce Y m (nI b) (nI (tS t L a)) (nI (5 + b)) (nI (lo5 b)) (nI (hi5 b)) (MM N2 m h e)) := by
  obtain ⟨g2, h2, m2, s2⟩ := S_once (c := c) (e := e) E hn ha h4 hg (b := b) (by omega)
  obtain ⟨hR, hT, hL, ⟨g1, g9, k9⟩, hM⟩ := E
  obtain ⟨r1, r2, r3, r4, r5, hY⟩ := id hR
  have lb : lo5 b ≤ 9999 := by unfold lo5; (repeat' split) <;> omega
  have hb9 : hi5 b ≤ 999 := by unfold hi5; split <;> omega
  have hb8 : (nI (hi5 b)).toInt = hi5 b := nI_toInt (by omega)
  unfold f_X8_readOnce
  rcases s2 with ⟨s2, b1, b2, -⟩ | ⟨s2, b1⟩
  · rw [if_neg (by omega)] at b2
    obtain ⟨g3, h3, v, m3, s3⟩ := S_number (N2 := N2) (c := c) (e := e) hR hT hL g1 hM b1 (x := lo5 b) (y := nI (hi5 b)) lb (by omega)
    rcases s3 with ⟨s3, d1, ⟨d2, d3, d4⟩, -, d5, d6, d7⟩ | ⟨s3, d1⟩
    · have hp : Wp (8 + b) (5 + b) := by unfold Wp; omega
      refine ⟨up2 c 0 (8 + b) (nI v), g3, h3, upd e (5 + b) (nI v), ?_, Or.inl ⟨?_, ⟨_, by omega, d1⟩, ⟨ops, rfl, hQ.rule hp (by omega) (fun z => ?_)⟩, b2.keep d5 d6 d7⟩⟩
      · simp (disch := omega) only [m2, bd_some, m3, bd2_some, nI_lit, g9, k9, xb_nI, if_true, nI_clamp, si_MMd, ↓lt_eq]
      · simp only [s2, bd2_some, nz10, if_false, K_rule hb, s3, r2, gi_KS, d2, si_KSw0]
      · have b3 : b = 3 := by omega
        rw [b3] at d3 d4 hb8
        have : lo5 3 = 1 := rfl
        have : hi5 3 = 99 := rfl
        omega
    · refine ⟨c, g3, h3, upd e (5 + b) (nI v), ?_, Or.inr ⟨?_, d1⟩⟩
      · simp (disch := omega) only [m2, bd_some, m3, bd2_some, nI_lit, g9, k9, xb_nI, if_true, nI_clamp, si_MMd, ↓lt_eq]
      · simp only [s2, bd2_some, nz10, if_false, K_rule hb, s3, nI01, if_true]
  · refine ⟨c, g2, h2, upd e (5 + b) (nI 0), ?_, Or.inr ⟨?_, b1⟩⟩
    · simp (disch := omega) only [m2, bd_some, M_number_bad b1.1, bd2_some, nI_lit, g9, k9, xb_nI, if_true, nI_clamp, si_MMd, ↓lt_eq]
    · simp only [s2, bd2_some, nI01, if_true]
end RU
