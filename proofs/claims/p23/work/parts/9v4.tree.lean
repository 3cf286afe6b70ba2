/-! A TREE'S TEXT, READ -/
theorem CTp.zero {Y : XY} {N : XN} {B T L m D v1 s : Nat} {t : Nat → Nat} {P : Nat → Int32} {e0 : XD} {x6 : Int32} {tk : List (Nat × Nat)} {o : List Int32} (h : ∀ D', CFp Y N B T L t P e0 x6 tk o D' v1 s) (hD : 1 ≤ D) : CTp Y N B T L t P e0 x6 m tk o D v1 s := by
  obtain ⟨z, rfl⟩ : ∃ z, D = z + 1 := ⟨D - 1, by omega⟩
  exact (T_of_F (h z)).mono (Nat.zero_le _)
theorem CSp.zero {Y : XY} {N : XN} {B T L m D v1 s : Nat} {t : Nat → Nat} {P : Nat → Int32} {e0 : XD} {x6 : Int32} {tk : List (Nat × Nat)} {o : List Int32} (h : ∀ D', CFp Y N B T L t P e0 x6 tk o D' v1 s) (hR : RD Y B) (hT : TK9 N B T L t) (hD : 2 ≤ D) : CSp Y N B T L t P e0 x6 m tk o D v1 s := by
  obtain ⟨z, rfl⟩ : ∃ z, D = z + 1 := ⟨D - 1, by omega⟩
  exact (S_of_T (CTp.zero (m := 0) h (by omega)) (by omega) hR hT).mono (Nat.zero_le _)
/-- these tokens are read as these steps -/
def RDT (D0 : Nat) (tk : Nat → List (Nat × Nat)) (ops : List Int32) : Prop := ∀ (Y : XY) (N : XN) (B T L : Nat) (t : Nat → Nat) (P : Nat → Int32) (e0 : XD) (x6 : Int32), RD Y B → TK9 N B T L t → ∀ s v1, s + D0 ≤ 15 → (∀ D, 4 * D0 ≤ D → v1 + D0 ≤ 5 → CSp Y N B T L t P e0 x6 D0 (tk 1) ops D v1 s) ∧ (∀ D, 4 * D0 + 2 ≤ D → v1 + D0 ≤ 4 → CTp Y N B T L t P e0 x6 D0 (tk 2) ops D v1 s) ∧ ∀ D, 4 * D0 + 1 ≤ D → v1 + D0 ≤ 4 → CFp Y N B T L t P e0 x6 (tk 3) ops D v1 s
/-- the text's tokens -/
def LXT (tx : Nat → List Nat) (tk : Nat → List (Nat × Nat)) : Prop := ∀ lev c cs us, isL c = false → isD c = false → LXR (c :: cs) us → LXR (tx lev ++ c :: cs) (tk lev ++ us)
theorem LX_sgn {c : Nat} (hc : 2 ≤ c ∧ c ≤ 5) {bs : List Nat} {us : List (Nat × Nat)} (h : LXR bs us) : ∃ d ds, sgn c ++ bs = d :: ds ∧ isL d = false ∧ isD d = false ∧ LXR (d :: ds) ((c + 4, 0) :: us) := by
  rcases (by omega : c = 2 ∨ c = 3 ∨ c = 4 ∨ c = 5) with rfl | rfl | rfl | rfl
  · exact ⟨43, bs, rfl, rfl, rfl, LXR.sg 43 (by decide) h⟩
  · exact ⟨32, 45 :: 32 :: bs, rfl, rfl, rfl, LXR.sp (LXR.sg 45 (by decide) (LXR.sp h))⟩
  · exact ⟨42, 32 :: bs, rfl, rfl, rfl, LXR.sg 42 (by decide) (LXR.sp h)⟩
  · exact ⟨47, bs, rfl, rfl, rfl, LXR.sg 47 (by decide) h⟩
theorem R_leaf {tk : List (Nat × Nat)} {ops : List Int32} (h : ∀ (Y : XY) (N : XN) (B T L : Nat) (t : Nat → Nat) (P : Nat → Int32) (e0 : XD) (x6 : Int32), RD Y B → TK9 N B T L t → ∀ s v1, s < 16 → ∀ D, CFp Y N B T L t P e0 x6 tk ops D v1 s) (D0 : Nat) : RDT (D0 + 1) (fun _ => tk) ops := fun Y N B T L t P e0 x6 hR hT s v1 hs => ⟨fun D hD _ => CSp.zero (h Y N B T L t P e0 x6 hR hT s v1 (by omega)) hR hT (by omega), fun D hD _ => CTp.zero (h Y N B T L t P e0 x6 hR hT s v1 (by omega)) (by omega), fun D _ _ => h Y N B T L t P e0 x6 hR hT s v1 (by omega) D⟩
def brT (o lev : Nat) (s : List (Nat × Nat)) : List (Nat × Nat) := if o < lev then (4, 0) :: (s ++ [(5, 0)]) else s
theorem V_ND : ∀ (D0 : Nat) {Y' : XY} {N' : XN} {x : Nat} {ops : List Int32} {tx : Nat → List Nat} {vl : (Nat → Int) → Int}, ND D0 Y' N' x ops tx vl → D0 ≤ 3 → ∃ tk : Nat → List (Nat × Nat), tk 0 = tk 1 ∧ LXT tx tk ∧ RDT D0 tk ops := by
  intro D0
  induction D0 with
  | zero => intro Y' N' x ops tx vl h; exact h.elim
  | succ D0 IH =>
    intro Y' N' x ops tx vl h h3
    obtain ⟨-, h⟩ := h
    rcases h with ⟨v, hv, -, -, rfl, rfl, -⟩ | ⟨v, hv, -, -, rfl, rfl, -⟩ | ⟨c, p, r, lo, ro, tl, tr, lv, rv, hc, -, -, -, ndl, ndr, rfl, rfl, -⟩
    · refine ⟨fun _ => [(2, v)], rfl, fun lev c cs us _ hd hl => ?_, R_leaf (fun Y N B T L t P e0 x6 hR hT s v1 hs D => F_num hv hs hR hT) D0⟩
      show LXR (dgs v ++ c :: cs) ((2, v) :: us)
      rw [dgs_NT hv]
      exact LXR.nm v hv c hd hl
    · obtain ⟨i, hi, hi2, hw⟩ : ∃ i, ((v = 0 ∧ i = 2) ∨ (v = 1 ∧ i = 10) ∨ (v = 2 ∧ i = 11) ∨ (v = 3 ∧ i = 12)) ∧ i < 13 ∧ vword v = wB i := by
        rcases (by omega : v = 0 ∨ v = 1 ∨ v = 2 ∨ v = 3) with rfl | rfl | rfl | rfl
        · exact ⟨2, by omega, by omega, rfl⟩
        · exact ⟨10, by omega, by omega, rfl⟩
        · exact ⟨11, by omega, by omega, rfl⟩
        · exact ⟨12, by omega, by omega, rfl⟩
      refine ⟨fun _ => [(10 + i, 0)], rfl, fun lev c cs us hcl _ hl => ?_, R_leaf (fun Y N B T L t P e0 x6 hR hT s v1 hs D => F_word hi hs hR hT) D0⟩
      show LXR (vword v ++ c :: cs) ((10 + i, 0) :: us)
      rw [hw]
      exact LXR.wd i hi2 c hcl hl
    · obtain ⟨kl, l0, l1, l2⟩ := IH ndl (by omega)
      obtain ⟨kr, r0, r1, r2⟩ := IH ndr (by omega)
      have how : own c = 1 ∧ c < 4 ∨ own c = 2 ∧ 4 ≤ c := by unfold own; split <;> omega
      have body : ∀ d cs us, isL d = false → isD d = false → LXR (d :: cs) us → LXR (tl (own c) ++ (sgn c ++ tr (own c + 1)) ++ d :: cs) (kl (own c) ++ (c + 4, 0) :: kr (own c + 1) ++ us) := fun d cs us h1 h2 h => by
        obtain ⟨f, fs, f1, f2, f3, f4⟩ := LX_sgn hc (r1 (own c + 1) d cs us h1 h2 h)
        have := l1 (own c) f fs _ f2 f3 f4
        rw [← f1] at this
        rw [List.append_assoc, List.append_assoc, List.append_assoc]
        exact this
      refine ⟨fun lev => brT (own c) lev (kl (own c) ++ (c + 4, 0) :: kr (own c + 1)), ?_, fun lev d cs us h1 h2 h => ?_, fun Y N B T L t P e0 x6 hR hT s v1 hs => ?_⟩
      · show brT (own c) 0 _ = brT (own c) 1 _
        unfold brT
        rw [if_neg (by omega), if_neg (by omega)]
      · show LXR (brk (own c) lev (tl (own c) ++ (sgn c ++ tr (own c + 1))) ++ d :: cs) (brT (own c) lev (kl (own c) ++ (c + 4, 0) :: kr (own c + 1)) ++ us)
        unfold brk brT
        by_cases q : own c < lev
        · rw [if_pos q, if_pos q]
          have a := body 41 (d :: cs) ((5, 0) :: us) rfl rfl (LXR.sg 41 (by decide) h)
          have b := LXR.sg 40 (by decide) a
          have e1 : 40 :: (tl (own c) ++ (sgn c ++ tr (own c + 1)) ++ [41]) ++ d :: cs = 40 :: (tl (own c) ++ (sgn c ++ tr (own c + 1)) ++ 41 :: d :: cs) := by
            show 40 :: (tl (own c) ++ (sgn c ++ tr (own c + 1)) ++ [41] ++ d :: cs) = _
            rw [List.append_assoc (tl (own c) ++ (sgn c ++ tr (own c + 1)))]
            rfl
          have e2 : (4, 0) :: (kl (own c) ++ (c + 4, 0) :: kr (own c + 1) ++ [(5, 0)]) ++ us = (4, 0) :: (kl (own c) ++ (c + 4, 0) :: kr (own c + 1) ++ (5, 0) :: us) := by
            show (4, 0) :: (kl (own c) ++ (c + 4, 0) :: kr (own c + 1) ++ [(5, 0)] ++ us) = _
            rw [List.append_assoc (kl (own c) ++ (c + 4, 0) :: kr (own c + 1))]
            rfl
          rw [e1, e2]
          exact b
        · rw [if_neg q, if_neg q]
          exact body d cs us h1 h2 h
      · have eo : ocode c = -nI (c + 4) := by
          rcases (by omega : c = 2 ∨ c = 3 ∨ c = 4 ∨ c = 5) with rfl | rfl | rfl | rfl <;> rfl
        rw [eo]
        rcases how with ⟨ho, hc4⟩ | ⟨ho, hc4⟩
        · rw [ho]
          have t1 : brT 1 1 (kl 1 ++ (c + 4, 0) :: kr (1 + 1)) = kl 1 ++ (c + 4, 0) :: kr (1 + 1) := if_neg (by omega)
          have t2 : brT 1 2 (kl 1 ++ (c + 4, 0) :: kr (1 + 1)) = (4, 0) :: (kl 1 ++ (c + 4, 0) :: kr (1 + 1) ++ [(5, 0)]) := if_pos (by omega)
          have t3 : brT 1 3 (kl 1 ++ (c + 4, 0) :: kr (1 + 1)) = (4, 0) :: (kl 1 ++ (c + 4, 0) :: kr (1 + 1) ++ [(5, 0)]) := if_pos (by omega)
          show (∀ D, 4 * (D0 + 1) ≤ D → v1 + (D0 + 1) ≤ 5 → CSp Y N B T L t P e0 x6 (D0 + 1) (brT 1 1 (kl 1 ++ (c + 4, 0) :: kr (1 + 1))) _ D v1 s) ∧ (∀ D, 4 * (D0 + 1) + 2 ≤ D → v1 + (D0 + 1) ≤ 4 → CTp Y N B T L t P e0 x6 (D0 + 1) (brT 1 2 (kl 1 ++ (c + 4, 0) :: kr (1 + 1))) _ D v1 s) ∧ ∀ D, 4 * (D0 + 1) + 1 ≤ D → v1 + (D0 + 1) ≤ 4 → CFp Y N B T L t P e0 x6 (brT 1 3 (kl 1 ++ (c + 4, 0) :: kr (1 + 1))) _ D v1 s
          rw [t1, t2, t3]
          have hS : ∀ v D, 4 * (D0 + 1) ≤ D → v + (D0 + 1) ≤ 5 → CSp Y N B T L t P e0 x6 (D0 + 1) (kl 1 ++ (c + 4, 0) :: kr (1 + 1)) (lo ++ (ro ++ [-nI (c + 4)])) D v s := fun v D hD hv => by
            obtain ⟨z, rfl⟩ : ∃ z, D = z + 1 := ⟨D - 1, by omega⟩
            exact S_step ((l2 Y N B T L t P e0 x6 hR hT s v (by omega)).1 (z + 1) (by omega) (by omega)) ((r2 Y N B T L t P e0 x6 hR hT (s + 1) v (by omega)).2.1 z (by omega) (by omega)) (by omega) (by omega) (by omega) hR hT
          have hF : ∀ D, 4 * (D0 + 1) + 1 ≤ D → v1 + (D0 + 1) ≤ 4 → CFp Y N B T L t P e0 x6 ((4, 0) :: (kl 1 ++ (c + 4, 0) :: kr (1 + 1) ++ [(5, 0)])) (lo ++ (ro ++ [-nI (c + 4)])) D v1 s := fun D hD hv => by
            obtain ⟨z, rfl⟩ : ∃ z, D = z + 1 := ⟨D - 1, by omega⟩
            exact F_of_S (hS (v1 + 1) z (by omega) (by omega)) (by omega) (by omega) hR hT
          refine ⟨fun D hD hv => hS v1 D hD hv, fun D hD hv => ?_, hF⟩
          obtain ⟨z, rfl⟩ : ∃ z, D = z + 1 := ⟨D - 1, by omega⟩
          exact (T_of_F (hF z (by omega) hv)).mono (Nat.zero_le _)
        · rw [ho]
          have t1 : brT 2 1 (kl 2 ++ (c + 4, 0) :: kr (2 + 1)) = kl 2 ++ (c + 4, 0) :: kr (2 + 1) := if_neg (by omega)
          have t2 : brT 2 2 (kl 2 ++ (c + 4, 0) :: kr (2 + 1)) = kl 2 ++ (c + 4, 0) :: kr (2 + 1) := if_neg (by omega)
          have t3 : brT 2 3 (kl 2 ++ (c + 4, 0) :: kr (2 + 1)) = (4, 0) :: (kl 2 ++ (c + 4, 0) :: kr (2 + 1) ++ [(5, 0)]) := if_pos (by omega)
          show (∀ D, 4 * (D0 + 1) ≤ D → v1 + (D0 + 1) ≤ 5 → CSp Y N B T L t P e0 x6 (D0 + 1) (brT 2 1 (kl 2 ++ (c + 4, 0) :: kr (2 + 1))) _ D v1 s) ∧ (∀ D, 4 * (D0 + 1) + 2 ≤ D → v1 + (D0 + 1) ≤ 4 → CTp Y N B T L t P e0 x6 (D0 + 1) (brT 2 2 (kl 2 ++ (c + 4, 0) :: kr (2 + 1))) _ D v1 s) ∧ ∀ D, 4 * (D0 + 1) + 1 ≤ D → v1 + (D0 + 1) ≤ 4 → CFp Y N B T L t P e0 x6 (brT 2 3 (kl 2 ++ (c + 4, 0) :: kr (2 + 1))) _ D v1 s
          rw [t1, t2, t3]
          have hTt : ∀ v D, 4 * D0 + 3 ≤ D → v + (D0 + 1) ≤ 5 → CTp Y N B T L t P e0 x6 (D0 + 1) (kl 2 ++ (c + 4, 0) :: kr (2 + 1)) (lo ++ (ro ++ [-nI (c + 4)])) D v s := fun v D hD hv => by
            obtain ⟨z, rfl⟩ : ∃ z, D = z + 1 := ⟨D - 1, by omega⟩
            exact T_step ((l2 Y N B T L t P e0 x6 hR hT s v (by omega)).2.1 (z + 1) (by omega) (by omega)) ((r2 Y N B T L t P e0 x6 hR hT (s + 1) v (by omega)).2.2 z (by omega) (by omega)) (by omega) (by omega) (by omega) hR hT
          have hS : ∀ v D, 4 * (D0 + 1) ≤ D → v + (D0 + 1) ≤ 5 → CSp Y N B T L t P e0 x6 (D0 + 1) (kl 2 ++ (c + 4, 0) :: kr (2 + 1)) (lo ++ (ro ++ [-nI (c + 4)])) D v s := fun v D hD hv => by
            obtain ⟨z, rfl⟩ : ∃ z, D = z + 1 := ⟨D - 1, by omega⟩
            exact (S_of_T (hTt v z (by omega) hv) (by omega) hR hT).mono (Nat.zero_le _)
          refine ⟨fun D hD hv => hS v1 D hD hv, fun D hD hv => hTt v1 D (by omega) (by omega), fun D hD hv => ?_⟩
          obtain ⟨z, rfl⟩ : ∃ z, D = z + 1 := ⟨D - 1, by omega⟩
          exact F_of_S (hS (v1 + 1) z (by omega) (by omega)) (by omega) (by omega) hR hT
