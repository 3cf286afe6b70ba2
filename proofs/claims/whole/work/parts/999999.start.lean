/-! THE LAW'S START -/
/-- before anything is made: the heap ends at B -/
def yZ (B : Nat) : XY := (fun _ _ => none, fun a => if a = B then (9, 0) else (0, 0))
def mZ : XN := (fun _ _ => 0, fun _ _ => 0)
theorem kcZ {B : Nat} : kc (yZ B) B = 9 := by
  unfold kc yZ
  simp only [if_true]
theorem xH_Z {G : XG} {H : Heap} (hB : xB G = H.size) : xH G (yZ H.size) mZ H := by
  have k0 : ∀ a, a ≠ H.size → kc (yZ H.size) a = 0 := fun a ha => by
    unfold kc yZ
    simp only [if_neg ha]
  refine ⟨fun a => ?_, fun a ha => ?_⟩
  · by_cases e : a = H.size
    · subst e
      unfold xAt
      rw [kcZ]
    · unfold xAt
      rw [k0 a e]
      exact trivial
  · by_cases e : a = H.size
    · rw [e, hB]; exact Nat.le_refl _
    · exact absurd (k0 a e) ha
set_option maxHeartbeats 4000000 in
set_option maxRecDepth 100000 in
theorem law_start {G : XG} {tb : List ExceptionTableEntry} {nm ds : String} {B : Nat} (hN : xSl G ≤ 3072) : ExZ G ⟨RL, nm, ds⟩ cL_law 7 ret tb room_1 (law_Z G) 0 0 0 [(0, .ref (xSb G))] [] (yZ B) mZ := by
  refine x_newO (q := B) dL_law_0 vc_X7 xin7 tyX7_ok kl9_L_8 it9_X7 wn_X7 (fun j hj => match j, hj with | 0, _ => rfl | 1, _ => rfl | 2, _ => rfl | 3, _ => rfl | 4, _ => rfl | 5, _ => rfl | 6, _ => rfl | 7, _ => rfl | 8, _ => rfl | 9, _ => rfl | q + 10, h => absurd h (by omega)) kcZ ⟨Nat.le_of_ble_eq_true rfl, Nat.le_of_ble_eq_true rfl⟩ ?_
  refine x_dup dL_law_3 rfl ?_
  refine x_init (R' := xR 3 907 16792) (As := []) (b := B) dL_law_4 ml_L_67 wi_X7_init wn_X7 wc_X7_init rfl hp_X7_init ⟨Nat.le_of_ble_eq_true rfl, Nat.le_of_ble_eq_true rfl⟩ rfl (Nat.le_of_ble_eq_true rfl) ⟨Nat.le_of_ble_eq_true rfl, Nat.le_of_ble_eq_true rfl⟩ (I_X7 (kcq rfl) (kce rfl)) ?_
  refine x_astore_n (L' := [(0, .ref (xSb G)), (1, .ref B)]) [1, 0] dL_law_7 rfl (by decide) rfl ?_
  have e8 : kc (yL (yK (yZ B) B 17 0) B) (B + 908) = 9 := (BV.p (BV.l0 (kcq rfl)) 8).2.2
  refine x_newO (q := B + 908) dL_law_8 vc_X8 xin8 tyX8_ok kl9_L_68 it9_X8 wn_X8 (fun j hj => match j, hj with | 0, _ => rfl | 1, _ => rfl | 2, _ => rfl | 3, _ => rfl | 4, _ => rfl | 5, _ => rfl | 6, _ => rfl | 7, _ => rfl | 8, _ => rfl | 9, _ => rfl | 10, _ => rfl | 11, _ => rfl | 12, _ => rfl | 13, _ => rfl | 14, _ => rfl | 15, _ => rfl | 16, _ => rfl | 17, _ => rfl | 18, _ => rfl | q + 19, h => absurd h (by omega)) e8 ⟨Nat.le_of_ble_eq_true rfl, Nat.le_of_ble_eq_true rfl⟩ ?_
  refine x_dup dL_law_11 rfl ?_
  refine x_init (R' := xR 2 16 20919) (As := []) (b := B + 908) dL_law_12 ml_L_70 wi_X8_init wn_X8 wc_X8_init rfl hp_X8_init ⟨Nat.le_of_ble_eq_true rfl, Nat.le_of_ble_eq_true rfl⟩ rfl (Nat.le_of_ble_eq_true rfl) ⟨Nat.le_of_ble_eq_true rfl, Nat.le_of_ble_eq_true rfl⟩ (I_X8 (kcq rfl) (kce rfl)) ?_
  refine x_astore_n (L' := [(0, .ref (xSb G)), (1, .ref B), (2, .ref (B + 908))]) [1, 2, 0] dL_law_15 rfl (by decide) rfl ?_
  refine x_iconst (v := 1) dL_law_16 rfl ?_
  have e9 : kc (yX8 (yK (yL (yK (yZ B) B 17 0) B) (B + 908) 18 0) (B + 908)) (B + 925) = 9 := (yX8_at (kcq rfl)).2.2.2.2.2.2.2.2.2.2.1
  refine x_newP (q := B + 925) (M := 1) (kd := 3) dL_law_17 rfl ac9_long (by decide) rfl (by decide) (Or.inr (Or.inr ⟨rfl, rfl, rfl⟩)) e9 ⟨Nat.le_of_ble_eq_true rfl, Nat.le_of_ble_eq_true rfl⟩ ?_
  refine x_astore_n (L' := [(0, .ref (xSb G)), (1, .ref B), (2, .ref (B + 908)), (3, .ref (B + 925))]) [1, 2, 3, 0] dL_law_19 rfl (by decide) rfl ?_
  refine x_iconst (v := nI (6 * 0)) dL_law_20 (by decide) ?_
  refine x_istore (L' := [(0, .ref (xSb G)), (1, .ref B), (2, .ref (B + 908)), (3, .ref (B + 925)), (4, .int (nI (6 * 0)))]) [1, 2, 3, 4, 0] dL_law_21 (by decide) rfl ?_
  refine x_cut (a := B) (b := B + 926) ?_
  exact law_loop hN 513 0 (yF (yZ B) B) (mF mZ B) _ _ stK mF_IV rfl (Nat.le_of_ble_eq_true rfl) (Nat.le_of_ble_eq_true rfl)
/-- what the Statement gives of the start -/
def xGv : List Cond := flatC (Jvm.Cond.and given_1 narrow_1)
def tmK (i : Nat) : Term := Term.string RX5 (63 + 2 * i)
theorem gv_ex : ∀ i, i < 13 → Cond.exactly (tmK i) "java/lang/String" ∈ xGv := by decide +kernel
theorem gv_co : ∀ i, i < 13 → Cond.eq (.field (tmK i) "java/lang/String" "coder" "B") (.int 0) ∈ xGv := by decide +kernel
theorem gv_ar : ∀ i, i < 13 → Cond.arrayOf (.field (tmK i) "java/lang/String" "value" "[B") .byte ∈ xGv := by decide +kernel
theorem gv_le : ∀ i, i < 13 → Cond.eq (.length (.field (tmK i) "java/lang/String" "value" "[B")) (.int (Int32.ofNat (xWo i).length)) ∈ xGv := by decide +kernel
theorem gv_el0 : ∀ j, j < 5 → xGv[287 + j]? = some (Cond.eq (.elem (.field (tmK 0) "java/lang/String" "value" "[B") (.int (Int32.ofNat j))) (.int ((xWo 0).getD j 0))) := by decide +kernel
theorem gv_el1 : ∀ j, j < 7 → xGv[296 + j]? = some (Cond.eq (.elem (.field (tmK 1) "java/lang/String" "value" "[B") (.int (Int32.ofNat j))) (.int ((xWo 1).getD j 0))) := by decide +kernel
theorem gv_el2 : ∀ j, j < 4 → xGv[307 + j]? = some (Cond.eq (.elem (.field (tmK 2) "java/lang/String" "value" "[B") (.int (Int32.ofNat j))) (.int ((xWo 2).getD j 0))) := by decide +kernel
theorem gv_el3 : ∀ j, j < 5 → xGv[315 + j]? = some (Cond.eq (.elem (.field (tmK 3) "java/lang/String" "value" "[B") (.int (Int32.ofNat j))) (.int ((xWo 3).getD j 0))) := by decide +kernel
theorem gv_el4 : ∀ j, j < 8 → xGv[324 + j]? = some (Cond.eq (.elem (.field (tmK 4) "java/lang/String" "value" "[B") (.int (Int32.ofNat j))) (.int ((xWo 4).getD j 0))) := by decide +kernel
theorem gv_el5 : ∀ j, j < 6 → xGv[336 + j]? = some (Cond.eq (.elem (.field (tmK 5) "java/lang/String" "value" "[B") (.int (Int32.ofNat j))) (.int ((xWo 5).getD j 0))) := by decide +kernel
theorem gv_el6 : ∀ j, j < 5 → xGv[346 + j]? = some (Cond.eq (.elem (.field (tmK 6) "java/lang/String" "value" "[B") (.int (Int32.ofNat j))) (.int ((xWo 6).getD j 0))) := by decide +kernel
theorem gv_el7 : ∀ j, j < 6 → xGv[355 + j]? = some (Cond.eq (.elem (.field (tmK 7) "java/lang/String" "value" "[B") (.int (Int32.ofNat j))) (.int ((xWo 7).getD j 0))) := by decide +kernel
theorem gv_el8 : ∀ j, j < 4 → xGv[365 + j]? = some (Cond.eq (.elem (.field (tmK 8) "java/lang/String" "value" "[B") (.int (Int32.ofNat j))) (.int ((xWo 8).getD j 0))) := by decide +kernel
theorem gv_el9 : ∀ j, j < 4 → xGv[373 + j]? = some (Cond.eq (.elem (.field (tmK 9) "java/lang/String" "value" "[B") (.int (Int32.ofNat j))) (.int ((xWo 9).getD j 0))) := by decide +kernel
theorem gv_el10 : ∀ j, j < 4 → xGv[381 + j]? = some (Cond.eq (.elem (.field (tmK 10) "java/lang/String" "value" "[B") (.int (Int32.ofNat j))) (.int ((xWo 10).getD j 0))) := by decide +kernel
theorem gv_el11 : ∀ j, j < 4 → xGv[389 + j]? = some (Cond.eq (.elem (.field (tmK 11) "java/lang/String" "value" "[B") (.int (Int32.ofNat j))) (.int ((xWo 11).getD j 0))) := by decide +kernel
theorem gv_el12 : ∀ j, j < 6 → xGv[397 + j]? = some (Cond.eq (.elem (.field (tmK 12) "java/lang/String" "value" "[B") (.int (Int32.ofNat j))) (.int ((xWo 12).getD j 0))) := by decide +kernel
theorem gv_el : ∀ i, i < 13 → ∀ j, j < (xWo i).length → Cond.eq (.elem (.field (tmK i) "java/lang/String" "value" "[B") (.int (Int32.ofNat j))) (.int ((xWo i).getD j 0)) ∈ xGv := fun i hi => match i, hi with
  | 0, _ => fun j hj => List.mem_of_getElem? (gv_el0 j hj)
  | 1, _ => fun j hj => List.mem_of_getElem? (gv_el1 j hj)
  | 2, _ => fun j hj => List.mem_of_getElem? (gv_el2 j hj)
  | 3, _ => fun j hj => List.mem_of_getElem? (gv_el3 j hj)
  | 4, _ => fun j hj => List.mem_of_getElem? (gv_el4 j hj)
  | 5, _ => fun j hj => List.mem_of_getElem? (gv_el5 j hj)
  | 6, _ => fun j hj => List.mem_of_getElem? (gv_el6 j hj)
  | 7, _ => fun j hj => List.mem_of_getElem? (gv_el7 j hj)
  | 8, _ => fun j hj => List.mem_of_getElem? (gv_el8 j hj)
  | 9, _ => fun j hj => List.mem_of_getElem? (gv_el9 j hj)
  | 10, _ => fun j hj => List.mem_of_getElem? (gv_el10 j hj)
  | 11, _ => fun j hj => List.mem_of_getElem? (gv_el11 j hj)
  | 12, _ => fun j hj => List.mem_of_getElem? (gv_el12 j hj)
  | i + 13, h => absurd h (by omega)
theorem gv_wd : ∀ q ∈ xWd, q.2.2.2 < 13 ∧ Cond.stringRef q.1 q.2.1 q.2.2.1 ∈ lw_tbl ∧ ((q.1 = RX5 ∧ q.2.1 = 63 + 2 * q.2.2.2) ∨ Cond.eq (tmK q.2.2.2) (Term.string q.1 q.2.1) ∈ xGv) := by decide +kernel
theorem gv_ms : ∀ q ∈ xMs, Cond.stringRef RX7 q.1 q.2 ∈ lw_tbl ∧ Cond.exactly (Term.string RX7 q.1) "java/lang/String" ∈ xGv := by decide +kernel
theorem gv_de : ∀ x ∈ xDe, Cond.declares x ∈ lw_tbl := by decide +kernel
theorem gv_cx : ∀ x ∈ xEx, Cond.castable x x ∈ lw_tbl := by decide +kernel
theorem gv_ne : ∀ q ∈ xNe, Cond.methodLinkNest q.1 q.2.1 q.2.2 RX7 ∈ lw_tbl := by decide +kernel
theorem gv_np : ∀ q ∈ xNp, Cond.not (.castable q.1 q.2) ∈ xGv := by decide +kernel
theorem gv_ao : ∀ C ∈ xAo, Cond.arrayOver (.object C) ∈ lw_tbl := by decide +kernel
theorem gv_aoa : Cond.arrayOver (.array .int) ∈ lw_tbl := List.mem_of_getElem? (i := 1015) (by decide +kernel)
theorem gv_us : Cond.laysStatic Bundle.tN "UNASSIGNED_STACK" Bundle.steD ∈ lw_tbl := List.mem_of_getElem? (i := 493) (by decide +kernel)
theorem gv_ss : Cond.laysStatic Bundle.tN "SUPPRESSED_SENTINEL" Bundle.listD ∈ lw_tbl := List.mem_of_getElem? (i := 495) (by decide +kernel)
theorem gv_ti : Cond.initialized Bundle.tN ∈ lw_tbl := List.mem_of_getElem? (i := 88) (by decide +kernel)
theorem gv_cs : Cond.laysStatic "java/lang/String" "COMPACT_STRINGS" "Z" ∈ lw_tbl := List.mem_of_getElem? (i := 658) (by decide +kernel)
theorem gv_si : Cond.initialized "java/lang/String" ∈ lw_tbl := List.mem_of_getElem? (i := 92) (by decide +kernel)
theorem gv_sf : Cond.laysStatic "jdk/internal/util/Preconditions" "SIOOBE_FORMATTER" "Ljava/util/function/BiFunction;" ∈ lw_tbl := List.mem_of_getElem? (i := 674) (by decide +kernel)
theorem gv_pi : Cond.initialized "jdk/internal/util/Preconditions" ∈ lw_tbl := List.mem_of_getElem? (i := 94) (by decide +kernel)
theorem gv_g1 : Cond.isRef (.static Bundle.tN "UNASSIGNED_STACK" Bundle.steD) ∈ xGv := by decide +kernel
theorem gv_g2 : Cond.isRef (.static Bundle.tN "SUPPRESSED_SENTINEL" Bundle.listD) ∈ xGv := by decide +kernel
theorem gv_g3 : Cond.eq (.static "java/lang/String" "COMPACT_STRINGS" "Z") (.int 1) ∈ xGv := by decide +kernel
theorem gv_g4 : Cond.isRef (.static "jdk/internal/util/Preconditions" "SIOOBE_FORMATTER" "Ljava/util/function/BiFunction;") ∈ xGv := by decide +kernel
/-- the words' cells -/
theorem st_words {args : Array Value} {s : State} {A : Nat → Prop} (hg : ∀ w ∈ xGv, w.before args s = true) (hA : ∀ a : Nat, a < s.heap.size → ¬ A a) : ∃ ad : Nat → Nat × Nat, ∀ i, i < 13 → (tmK i).eval args s none [] s = some (.ref (ad i).1) ∧ va_O "java/lang/String" (ad i).1 A s s.heap ∧ va_OF "java/lang/String" "coder" "B" (.int 0) (ad i).1 A s s.heap ∧ va_OF "java/lang/String" "value" "[B" (.ref (ad i).2) (ad i).1 A s s.heap ∧ va_T .byte (ad i).2 (xWo i).length (fun j => .int ((xWo i).getD j 0)) A s s.heap := by
  have h0 : ∀ i : Nat, ∃ q : Nat × Nat, i < 13 → (tmK i).eval args s none [] s = some (.ref q.1) ∧ va_O "java/lang/String" q.1 A s s.heap ∧ va_OF "java/lang/String" "coder" "B" (.int 0) q.1 A s s.heap ∧ va_OF "java/lang/String" "value" "[B" (.ref q.2) q.1 A s s.heap ∧ va_T .byte q.2 (xWo i).length (fun j => .int ((xWo i).getD j 0)) A s s.heap := by
    intro i
    by_cases hi : i < 13
    · obtain ⟨a, c, cA, kA, q1, -⟩ := Cond.exactly_spec (args := args) (first := s) (o := none) (s := s) (idx := []) (t := tmK i) (cls := "java/lang/String") (hg _ (gv_ex i hi))
      obtain ⟨t, ht, hT⟩ := va_Tof (f := fun j => .int ((xWo i).getD j 0)) (A := A) (N := (xWo i).length) (by have := xWo_len i; omega) (hg _ (gv_ar i hi)) (va_eqt (hg _ (gv_le i hi))) (fun j hj => va_eqt (hg _ (gv_el i hi j hj))) hA
      exact ⟨(a, t), fun _ => ⟨q1, va_Oof (hg _ (gv_ex i hi)) q1 hA, vk_OFof q1 (va_eqt (hg _ (gv_co i hi))) hA, vk_OFof q1 ht hA, hT⟩⟩
    · exact ⟨(0, 0), fun h => absurd h hi⟩
  obtain ⟨ad, had⟩ := Classical.axiomOfChoice h0
  exact ⟨ad, fun i hi => had i hi⟩
/-- an array class of numbers -/
theorem st_arrP {args : Array Value} {s : State} {ty : FieldType} (h : (Cond.arrayClass ty).before args s = true) : ∃ cA, ArrOfT s cA ty ∧ s.vm.findClass ("[" ++ ty.toString) = some cA := by
  obtain ⟨c, k, comp, h1, h2, h3⟩ := Cond.arrayClass_spec h
  exact ⟨c, fun n z => ⟨(fun k9 h9 => nomatch h9), k, h2, comp, h3⟩, h1⟩
theorem st_arrR {args : Array Value} {s : State} {C : String} (h : (Cond.arrayOver (.object C)).before args s = true) : ∃ cA, ArrOfT s cA (.object C) ∧ va_RA s cA (.object C) := by
  obtain ⟨comp, c, k, h1, h2, h3, h4, h5⟩ := Cond.arrayOver_spec h
  exact ⟨c, fun n z => ⟨(fun k9 h9 => nomatch h9), k, h3, comp, h4⟩, k, comp, h3, h4, h1, h5⟩
theorem st_arrA {s : State} (h : va_AOA .int s) : ∃ cA, ArrOfT s cA (.array .int) ∧ s.vm.findClass ("[" ++ (FieldType.array .int).toString) = some cA := by
  obtain ⟨comp, c, k, h1, h2, h3, h4, h5⟩ := va_AOA.spec h
  exact ⟨c, fun n z => ⟨(fun k9 h9 => nomatch h9), k, h3, comp, h4⟩, h5⟩
/-- the launch's numbers -/
theorem st_G {args : Array Value} {s : State} (b L : Nat) (xs : Nat → Int32) (hts : ∀ w ∈ lw_tbl, w.before args s = true) (hg : ∀ w ∈ xGv, w.before args s = true) (hX : va_X b L xs s s.heap) (hb : b < s.heap.size) : ∃ G : XG, xB G = s.heap.size ∧ xSb G = b ∧ xSl G = L ∧ xK G s ∧ xC G s s.heap := by
  have hU : ∀ w ∈ UW, w.before args s = true := fun w hw => hts w (List.mem_filter.mp hw).1
  obtain ⟨c0, i0, k0⟩ := u_known (s := s) (C := RX0) (T := TX0) (N := 3) hU xin0 (hU _ it9_X0)
  obtain ⟨c1, i1, k1⟩ := u_known (s := s) (C := RX1) (T := TX1) (N := 7) hU xin1 (hU _ it9_X1)
  obtain ⟨c2, i2, k2⟩ := u_known (s := s) (C := RX2) (T := TX2) (N := 5) hU xin2 (hU _ it9_X2)
  obtain ⟨c3, i3, k3⟩ := u_known (s := s) (C := RX3) (T := TX3) (N := 8) hU xin3 (hU _ it9_X3)
  obtain ⟨c4, i4, k4⟩ := u_known (s := s) (C := RX4) (T := TX4) (N := 7) hU xin4 (hU _ it9_X4)
  obtain ⟨c5, i5, k5⟩ := u_known (s := s) (C := RX5) (T := TX5) (N := 4) hU xin5 (hU _ it9_X5)
  obtain ⟨c6, i6, k6⟩ := u_known (s := s) (C := RX6) (T := TX6) (N := 15) hU xin6 (hU _ it9_X6)
  obtain ⟨c7, i7, k7⟩ := u_known (s := s) (C := RX7) (T := TX7) (N := 10) hU xin7 (hU _ it9_X7)
  obtain ⟨c8, i8, k8⟩ := u_known (s := s) (C := RX8) (T := TX8) (N := 19) hU xin8 (hU _ it9_X8)
  obtain ⟨t0, p0, r0⟩ := st_arrP (hU _ ac9_int)
  obtain ⟨t1, p1, r1⟩ := st_arrP (hU _ ac9_byte)
  obtain ⟨t2, p2, r2⟩ := st_arrP (hU _ ac9_long)
  obtain ⟨t3, p3, r3⟩ := st_arrR (hts _ (gv_ao RX1 (by decide)))
  obtain ⟨t4, p4, r4⟩ := st_arrR (hts _ (gv_ao RX2 (by decide)))
  obtain ⟨t5, p5, r5⟩ := st_arrR (hts _ (gv_ao RX3 (by decide)))
  obtain ⟨t6, p6, r6⟩ := st_arrR (hts _ (gv_ao RX6 (by decide)))
  have hAA : va_AOA .int s := hts _ gv_aoa
  obtain ⟨t7, p7, r7⟩ := st_arrA hAA
  have hA : ∀ a : Nat, a < s.heap.size → ¬ (fun q : Nat => s.heap.size ≤ q) a := fun a h q => absurd h (Nat.not_lt.mpr q)
  obtain ⟨ad, had⟩ := st_words hg hA
  refine ⟨((fun c => if c = 0 then c0 else if c = 1 then c1 else if c = 2 then c2 else if c = 3 then c3 else if c = 4 then c4 else if c = 5 then c5 else if c = 6 then c6 else if c = 7 then c7 else c8, fun c => if c = 0 then i0 else if c = 1 then i1 else if c = 2 then i2 else if c = 3 then i3 else if c = 4 then i4 else if c = 5 then i5 else if c = 6 then i6 else if c = 7 then i7 else i8), fun k => if k = 0 then t0 else if k = 1 then t1 else if k = 2 then t2 else if k = 3 then t3 else if k = 4 then t4 else if k = 5 then t5 else if k = 6 then t6 else t7, fun i => (ad i).1, fun i => (ad i).2, s.heap.size, b, L, xs), rfl, rfl, rfl, ⟨fun c q hq => ?_, fun k q hq => ?_⟩, ?_⟩
  · match c, hq with
    | 0, hq => cases hq; exact k0
    | 1, hq => cases hq; exact k1
    | 2, hq => cases hq; exact k2
    | 3, hq => cases hq; exact k3
    | 4, hq => cases hq; exact k4
    | 5, hq => cases hq; exact k5
    | 6, hq => cases hq; exact k6
    | 7, hq => cases hq; exact k7
    | 8, hq => cases hq; exact k8
    | c + 9, hq => exact nomatch hq
  · match k, hq with
    | 0, hq => cases hq; exact ⟨p0, r0⟩
    | 1, hq => cases hq; exact ⟨p1, r1⟩
    | 2, hq => cases hq; exact ⟨p2, r2⟩
    | 3, hq => cases hq; exact ⟨p3, r3⟩
    | 4, hq => cases hq; exact ⟨p4, r4⟩
    | 5, hq => cases hq; exact ⟨p5, r5⟩
    | 6, hq => cases hq; exact ⟨p6, r6⟩
    | 7, hq => cases hq; exact ⟨p7, r7⟩
    | k + 8, hq => exact nomatch hq
  · refine ⟨fun i hi => (had i hi).2, fun q hq => ?_, fun q hq => ?_, vx_Zqof (hts _ gv_us) (hts _ gv_ti) (hg _ gv_g1) hA, vx_Zqof (hts _ gv_ss) (hts _ gv_ti) (hg _ gv_g2) hA, va_Zof (hts _ gv_cs) (hts _ gv_si) (va_eqt (hg _ gv_g3)) hA, va_Zqof (hts _ gv_sf) (hts _ gv_pi) (hg _ gv_g4) hA, fun x hx => va_Nw.of rfl (hts _ (gv_de x hx)), fun x hx => va_Nw.of rfl (hts _ (gv_cx x hx)), ⟨hX, hA b hb⟩, fun q hq => va_Nw.of rfl (hts _ (gv_ne q hq)), fun q hq => va_Nc.of (hg _ (gv_np q hq)), fun C hC => va_AO.of (hts _ (gv_ao C hC)), hAA⟩
    · obtain ⟨g1, g2, g3⟩ := gv_wd q hq
      refine vk_R.of (hts _ g2) ?_
      have e0 := (had q.2.2.2 g1).1
      rcases g3 with ⟨e1, e2⟩ | g3
      · rw [e1, e2]
        exact e0
      · exact va_eqR (hg _ g3) e0
    · obtain ⟨g1, g2⟩ := gv_ms q hq
      obtain ⟨a, c, cA, kA, q1, -⟩ := Cond.exactly_spec (args := args) (first := s) (o := none) (s := s) (idx := []) (t := Term.string RX7 q.1) (cls := "java/lang/String") (hg _ g2)
      exact ⟨a, vk_R.of (hts _ g1) q1⟩
/-- from the entry, for every script of at most 3072 ints, the law comes to its end with true -/
theorem whole_start {p : Program} {e : Env} {s : State} {m : MethodId} {below : List Frame} {meth : Method} {c : Code} (l : Launch) (hflags : l.flags = flags0) {b L : Nat} {xs : Nat → Int32} (hL : L ≤ 3072) (C0 : lw_At p s m meth c b L xs) : W p l e room_1 s m #[Value.ref b] below meth c s.heap [] 0 0 (lw_Z below #[Value.ref b] s) (entryFrame m ([Value.ref b] : List Value).toArray 7) := by
  obtain ⟨hx, hb, hr, hml, hown, hts, hX, hbl, hlocks, hgv⟩ := C0
  obtain ⟨G, g1, g2, g3, g4, g5⟩ := st_G b L xs hts (flat_of_before _ hgv) hX hbl
  have hl9 : l.stackTraces = false := by
    unfold Launch.stackTraces
    rw [hflags]
    decide +kernel
  have hl := lv_entry ([.ref b]) (n := 7) (Nat.le_of_ble_eq_true rfl)
  rw [lg_entry_eq]
  generalize (lg_sl ([.ref b]) ++ List.replicate (7 - (lg_sl ([.ref b])).length) Slot.unset).toArray = ls at hl ⊢
  have hl : lv_has ls 7 [(0, .ref b)] := hl
  have key := law_start (G := G) (tb := c.exceptionTable.toList) (nm := meth.name) (ds := "") (B := s.heap.size) (by rw [g3]; exact hL) p l e s m #[Value.ref b] below meth c s.heap [] ls ⟨hx, hl9, hb, hml, hown, rfl, hr, hlocks, rfl, fun w hw => hts w (List.mem_filter.mp hw).1, g4, g5, by rw [g1]; exact Nat.le_refl _⟩ (xH_Z g1) va_S.rf (by rw [g2]; exact hl)
  intro T hT X
  obtain ⟨t, a1, a2⟩ := key T hT X
  exact ⟨t, a1, a2 g1⟩
