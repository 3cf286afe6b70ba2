/-! THE LAW'S START -/
theorem va_eqL {args : Array Value} {s : State} {t u : Term} {a : Nat} (h : (Cond.eq t u).before args s = true) (hu : u.eval args s none [] s = some (.ref a)) : t.eval args s none [] s = some (.ref a) := by
  cases hv : t.eval args s none [] s with
  | none => simp [Cond.before, Cond.holds, Cond.value, hv] at h
  | some w =>
    simp only [Cond.before, Cond.holds, Cond.value, hv, hu] at h
    cases w <;> simp_all
/-- the words' cells -/
theorem st_words {args : Array Value} {s : State} {A : Nat → Prop} (hg : ∀ w ∈ xGv, w.before args s = true) (hA : ∀ a : Nat, a < s.heap.size → ¬ A a) : ∃ ad : Nat → Nat × Nat, ∀ i, i < 37 → (tmK i).eval args s none [] s = some (.ref (ad i).1) ∧ va_O "java/lang/String" (ad i).1 A s s.heap ∧ va_OF "java/lang/String" "coder" "B" (.int 0) (ad i).1 A s s.heap ∧ va_OF "java/lang/String" "value" "[B" (.ref (ad i).2) (ad i).1 A s s.heap ∧ va_T .byte (ad i).2 (xWo i).length (fun j => .int ((xWo i).getD j 0)) A s s.heap := by
  have h0 : ∀ i : Nat, ∃ q : Nat × Nat, i < 37 → (tmK i).eval args s none [] s = some (.ref q.1) ∧ va_O "java/lang/String" q.1 A s s.heap ∧ va_OF "java/lang/String" "coder" "B" (.int 0) q.1 A s s.heap ∧ va_OF "java/lang/String" "value" "[B" (.ref q.2) q.1 A s s.heap ∧ va_T .byte q.2 (xWo i).length (fun j => .int ((xWo i).getD j 0)) A s s.heap := by
    intro i
    by_cases hi : i < 37
    · obtain ⟨a, c, cA, kA, q1, -⟩ := Cond.exactly_spec (args := args) (first := s) (o := none) (s := s) (idx := []) (t := tmK i) (cls := "java/lang/String") (hg _ (gv_ex i hi))
      obtain ⟨t, ht, hT⟩ := va_Tof (f := fun j => .int ((xWo i).getD j 0)) (A := A) (N := (xWo i).length) (by have := xWo_len i; omega) (hg _ (gv_ar i hi)) (va_eqt (hg _ (gv_le i hi))) (fun j hj => va_eqt (hg _ (gv_el i hi j hj))) hA
      exact ⟨(a, t), fun _ => ⟨q1, va_Oof (hg _ (gv_ex i hi)) q1 hA, vk_OFof q1 (va_eqt (hg _ (gv_co i hi))) hA, vk_OFof q1 ht hA, hT⟩⟩
    · exact ⟨(0, 0), fun h => absurd h hi⟩
  obtain ⟨ad, had⟩ := Classical.axiomOfChoice h0
  exact ⟨ad, fun i hi => had i hi⟩
/-- the tables of digits, and of words -/
theorem st_digits {args : Array Value} {s : State} {A : Nat → Prop} (hg : ∀ w ∈ xGv, w.before args s = true) (hA : ∀ a : Nat, a < s.heap.size → ¬ A a) : (∃ t : Nat, (tmD 100).eval args s none [] s = some (.ref t) ∧ va_T .byte t (xBy 100).length (fun j => .int ((xBy 100).getD j 0)) A s s.heap) ∧ ∃ t : Nat, (tmD 101).eval args s none [] s = some (.ref t) ∧ va_T .byte t (xBy 101).length (fun j => .int ((xBy 101).getD j 0)) A s s.heap := by
  have l0 : (xBy 100).length = 100 := by decide +kernel
  have l1 : (xBy 101).length = 100 := by decide +kernel
  exact ⟨va_Tof (by omega) (hg _ gv_da100) (va_eqt (hg _ gv_dl100)) (fun j hj => va_eqt (hg _ (gv_de100 j (by omega)))) hA, va_Tof (by omega) (hg _ gv_da101) (va_eqt (hg _ gv_dl101)) (fun j hj => va_eqt (hg _ (gv_de101 j (by omega)))) hA⟩
theorem st_lists {args : Array Value} {s : State} {A : Nat → Prop} {ad : Nat → Nat} (hg : ∀ w ∈ xGv, w.before args s = true) (hA : ∀ a : Nat, a < s.heap.size → ¬ A a) (had : ∀ i, i < 37 → (tmK i).eval args s none [] s = some (.ref (ad i))) : (∃ t : Nat, (tmD 102).eval args s none [] s = some (.ref t) ∧ va_T (.object "java/lang/String") t (xRy 102).length (fun j => .ref (ad ((xRy 102).getD j 0))) A s s.heap) ∧ ∃ t : Nat, (tmD 103).eval args s none [] s = some (.ref t) ∧ va_T (.object "java/lang/String") t (xRy 103).length (fun j => .ref (ad ((xRy 103).getD j 0))) A s s.heap := by
  have l2 : (xRy 102).length = 4 := rfl
  have l3 : (xRy 103).length = 5 := rfl
  have b2 : ∀ j, j < 4 → (xRy 102).getD j 0 < 37 := by decide
  have b3 : ∀ j, j < 5 → (xRy 103).getD j 0 < 37 := by decide
  exact ⟨va_Tof (by omega) (hg _ gv_da102) (va_eqt (hg _ gv_dl102)) (fun j hj => va_eqL (hg _ (List.mem_of_getElem? (gv_de102 j (by omega)))) (had _ (b2 j (by omega)))) hA, va_Tof (by omega) (hg _ gv_da103) (va_eqt (hg _ gv_dl103)) (fun j hj => va_eqL (hg _ (List.mem_of_getElem? (gv_de103 j (by omega)))) (had _ (b3 j (by omega)))) hA⟩
/-- a private method of a superclass, at the start -/
theorem st_priv {C9 : String} {M : Nat} {y x1 y1 : MethodName} {args : Array Value} {s : State} (hy : y.cls ≠ "java/lang/invoke/MethodHandle" ∧ y.cls ≠ "java/lang/invoke/VarHandle") (h1 : (Cond.instantiable C9 M).before args s = true) (h2 : (Cond.privateMethod y).before args s = true) (h3 : (Cond.instanceMethod y).before args s = true) (h4 : (Cond.selects C9 x1 y1).before args s = true) (h5 : y1.cls = y.cls) : (Cond.selects C9 y y).before args s = true := by
  obtain ⟨c, k, hc, hk, -, hniab, -, -⟩ := Cond.instantiable_spec h1
  obtain ⟨mk, methM, hnamed, hmethM, -, -⟩ := Cond.instanceMethod_spec h3
  have hfound : s.methodFound? y.cls y.name y.desc = some mk := State.methodFound?_of_named hnamed hy
  have hsel : selectMethod {} s.vm c mk = .method mk := selectMethod_private hmethM (Cond.privateMethod_at h2 mk methM hnamed hmethM)
  obtain ⟨m1, n1, n2⟩ := selects_ni h4
  have e1 : m1.cls = mk.cls := by
    have a1 := findClass_of_methodNamed n1
    have a2 := findClass_of_methodNamed hnamed
    rw [h5] at a1
    exact Option.some.inj (a1.symm.trans a2)
  rw [e1] at n2
  simp only [Cond.before, Cond.holds, Cond.value, hc, hfound, hnamed, hsel, n2]
  simp
theorem st_UW {args : Array Value} {s : State} (hts : ∀ w ∈ lw_tbl, w.before args s = true) : ∀ w ∈ UW, w.before args s = true := by
  intro w hw
  rcases List.mem_append.mp (List.mem_filter.mp hw).1 with h | h
  · exact hts w h
  · unfold xSB at h
    simp only [List.mem_cons, List.not_mem_nil, or_false] at h
    rcases h with rfl | rfl | rfl | rfl
    · exact st_priv (by decide) (hts _ gv_ib) (hts _ gv_p_ensureCapacityInternal) (hts _ gv_i_ensureCapacityInternal) (hts _ gv_il) rfl
    · exact st_priv (by decide) (hts _ gv_ib) (hts _ gv_p_newCapacity) (hts _ gv_i_newCapacity) (hts _ gv_il) rfl
    · exact st_priv (by decide) (hts _ gv_ib) (hts _ gv_p_putStringAt) (hts _ gv_i_putStringAt) (hts _ gv_il) rfl
    · exact st_priv (by decide) (hts _ gv_ib) (hts _ gv_p_inflateIfNeededFor) (hts _ gv_i_inflateIfNeededFor) (hts _ gv_il) rfl
/-- an array class of numbers -/
theorem st_arrP {args : Array Value} {s : State} {ty : FieldType} (h : (Cond.arrayClass ty).before args s = true) : ∃ cA, ArrOfT s cA ty ∧ s.vm.findClass ("[" ++ ty.toString) = some cA := by
  obtain ⟨c, k, comp, h1, h2, h3⟩ := Cond.arrayClass_spec h
  exact ⟨c, fun n z => ⟨(fun k9 h9 => nomatch h9), k, h2, comp, h3⟩, h1⟩
theorem st_arrR {args : Array Value} {s : State} {C : String} (h : (Cond.arrayOver (.object C)).before args s = true) : ∃ cA, ArrOfT s cA (.object C) ∧ va_RA s cA (.object C) := by
  obtain ⟨comp, c, k, h1, h2, h3, h4, h5⟩ := Cond.arrayOver_spec h
  exact ⟨c, fun n z => ⟨(fun k9 h9 => nomatch h9), k, h3, comp, h4⟩, k, comp, h3, h4, h1, h5⟩
theorem st_arrA {s : State} (h : va_AOA .int s) : ∃ cA, ArrOfT s cA (.array .int) ∧ s.vm.findClass ("[" ++ (FieldType.array .int).toString) = some cA := by
  obtain ⟨comp, c, k, h1, h2, h3, h4, h5⟩ := va_AOA.spec h
  exact ⟨c, fun n z => ⟨(fun k9 h9 => nomatch h9), k, h3, comp, h4⟩, h5⟩
/-- the launch's numbers -/
theorem st_G {args : Array Value} {s : State} (b L : Nat) (xs : Nat → Int32) (hts : ∀ w ∈ lw_tbl, w.before args s = true) (hg : ∀ w ∈ xGv, w.before args s = true) (hX : va_X b L xs s s.heap) (hb : b < s.heap.size) : ∃ G : XG, xB G = s.heap.size ∧ xSb G = b ∧ xSl G = L ∧ xK G s ∧ xC G s s.heap := by
  have hU : ∀ w ∈ UW, w.before args s = true := st_UW hts
  obtain ⟨c0, i0, k0⟩ := u_known (s := s) (C := RX0) (T := TX0) (N := 3) hU xin0 (hU _ it9_X0)
  obtain ⟨c1, i1, k1⟩ := u_known (s := s) (C := RX1) (T := TX1) (N := 7) hU xin1 (hU _ it9_X1)
  obtain ⟨c2, i2, k2⟩ := u_known (s := s) (C := RX2) (T := TX2) (N := 5) hU xin2 (hU _ it9_X2)
  obtain ⟨c3, i3, k3⟩ := u_known (s := s) (C := RX3) (T := TX3) (N := 8) hU xin3 (hU _ it9_X3)
  obtain ⟨c4, i4, k4⟩ := u_known (s := s) (C := RX4) (T := TX4) (N := 7) hU xin4 (hU _ it9_X4)
  obtain ⟨c5, i5, k5⟩ := u_known (s := s) (C := RX5) (T := TX5) (N := 4) hU xin5 (hU _ it9_X5)
  obtain ⟨c6, i6, k6⟩ := u_known (s := s) (C := RX6) (T := TX6) (N := 15) hU xin6 (hU _ it9_X6)
  obtain ⟨c7, i7, k7⟩ := u_known (s := s) (C := RX7) (T := TX7) (N := 10) hU xin7 (hU _ it9_X7)
  obtain ⟨c8, i8, k8⟩ := u_known (s := s) (C := RX8) (T := TX8) (N := 8) hU xin8 (hU _ it9_X8)
  obtain ⟨c9, i9, k9⟩ := u_known (s := s) (C := RX9) (T := TX9) (N := 4) hU xin9 (hU _ it9_X9)
  obtain ⟨c10, i10, k10⟩ := u_known (s := s) (C := RX10) (T := TX10) (N := 1) hU xin10 (hU _ it9_X10)
  obtain ⟨c11, i11, k11⟩ := u_known (s := s) (C := RJ0) (T := TJ0) (N := 4) hU xin11 (hU _ it9_J0)
  obtain ⟨c12, i12, k12⟩ := u_known (s := s) (C := RJ4) (T := TJ4) (N := 4) hU xin12 (hU _ it9_J4)
  obtain ⟨t0, p0, r0⟩ := st_arrP (hU _ ac9_int)
  obtain ⟨t1, p1, r1⟩ := st_arrP (hU _ ac9_byte)
  obtain ⟨t2, p2, r2⟩ := st_arrP (hU _ ac9_long)
  obtain ⟨t3, p3, r3⟩ := st_arrR (hts _ (gv_ao RX1 (by decide)))
  obtain ⟨t4, p4, r4⟩ := st_arrR (hts _ (gv_ao RX2 (by decide)))
  obtain ⟨t5, p5, r5⟩ := st_arrR (hts _ (gv_ao RX3 (by decide)))
  obtain ⟨t6, p6, r6⟩ := st_arrR (hts _ (gv_ao RX6 (by decide)))
  have hAA : va_AOA .int s := hts _ gv_aoa
  obtain ⟨t7, p7, r7⟩ := st_arrA hAA
  obtain ⟨t8, p8, r8⟩ := st_arrR (hts _ (gv_ao RX8 (by decide)))
  have hA : ∀ a : Nat, a < s.heap.size → ¬ (fun q : Nat => s.heap.size ≤ q) a := fun a h q => absurd h (Nat.not_lt.mpr q)
  obtain ⟨ad, had⟩ := st_words hg hA
  obtain ⟨⟨d0, d0e, d0T⟩, d1, d1e, d1T⟩ := st_digits hg hA
  obtain ⟨⟨d2, d2e, d2T⟩, d3, d3e, d3T⟩ := st_lists (ad := fun i => (ad i).1) hg hA (fun i hi => (had i hi).1)
  refine ⟨((fun c => if c = 0 then c0 else if c = 1 then c1 else if c = 2 then c2 else if c = 3 then c3 else if c = 4 then c4 else if c = 5 then c5 else if c = 6 then c6 else if c = 7 then c7 else if c = 8 then c8 else if c = 9 then c9 else if c = 10 then c10 else if c = 11 then c11 else c12, fun c => if c = 0 then i0 else if c = 1 then i1 else if c = 2 then i2 else if c = 3 then i3 else if c = 4 then i4 else if c = 5 then i5 else if c = 6 then i6 else if c = 7 then i7 else if c = 8 then i8 else if c = 9 then i9 else if c = 10 then i10 else if c = 11 then i11 else i12), fun k => if k = 0 then t0 else if k = 1 then t1 else if k = 2 then t2 else if k = 3 then t3 else if k = 4 then t4 else if k = 5 then t5 else if k = 6 then t6 else if k = 7 then t7 else t8, fun i => (ad i).1, fun i => if i = 100 then d0 else if i = 101 then d1 else if i = 102 then d2 else if i = 103 then d3 else (ad i).2, s.heap.size, b, L, xs), rfl, rfl, rfl, ⟨fun c q hq => ?_, fun k q hq => ?_⟩, ?_⟩
  · match c, hq with
    | 0, hq => cases hq; exact k0
    | 1, hq => cases hq; exact k1
    | 2, hq => cases hq; exact k2
    | 3, hq => cases hq; exact k3
    | 4, hq => cases hq; exact k4
    | 5, hq => cases hq; exact k5
    | 6, hq => cases hq; exact k6
    | 7, hq => cases hq; exact k7
    | 8, hq => cases hq; exact k8
    | 9, hq => cases hq; exact k9
    | 10, hq => cases hq; exact k10
    | 11, hq => cases hq; exact k11
    | 12, hq => cases hq; exact k12
    | c + 13, hq => exact nomatch hq
  · match k, hq with
    | 0, hq => cases hq; exact ⟨p0, r0⟩
    | 1, hq => cases hq; exact ⟨p1, r1⟩
    | 2, hq => cases hq; exact ⟨p2, r2⟩
    | 3, hq => cases hq; exact ⟨p3, r3⟩
    | 4, hq => cases hq; exact ⟨p4, r4⟩
    | 5, hq => cases hq; exact ⟨p5, r5⟩
    | 6, hq => cases hq; exact ⟨p6, r6⟩
    | 7, hq => cases hq; exact ⟨p7, r7⟩
    | 8, hq => cases hq; exact ⟨p8, r8⟩
    | k + 9, hq => exact nomatch hq
  · refine ⟨fun i hi => ?_, fun q hq => ?_, fun q hq => ?_, vx_Zqof (hts _ gv_us) (hts _ gv_ti) (hg _ gv_g1) hA, vx_Zqof (hts _ gv_ss) (hts _ gv_ti) (hg _ gv_g2) hA, va_Zof (hts _ gv_cs) (hts _ gv_si) (va_eqt (hg _ gv_g3)) hA, va_Zqof (hts _ gv_sf) (hts _ gv_pi) (hg _ gv_g4) hA, fun x hx => va_Nw.of rfl (hts _ (gv_de x hx)), fun x hx => va_Nw.of rfl (hts _ (gv_cx x hx)), ⟨hX, hA b hb⟩, fun q hq => va_Nw.of rfl (hts _ (gv_ne q hq)), fun q hq => va_Nc.of (hg _ (gv_np q hq)), fun C hC => va_AO.of (hts _ (gv_ao C hC)), hAA, fun q hq => ?_, fun i hi => ?_, fun i hi => ?_, fun q hq => va_Nw.of rfl (hts _ (gv_cl q hq)), va_Nw.of rfl (hts _ gv_fl), fun q hq => va_Nw.of rfl (hts _ (gv_nl q hq))⟩
    · obtain ⟨-, y1, y2, y3, y4⟩ := had i hi
      have e : (if i = 100 then d0 else if i = 101 then d1 else if i = 102 then d2 else if i = 103 then d3 else (ad i).2) = (ad i).2 := by
        rw [if_neg (by omega), if_neg (by omega), if_neg (by omega), if_neg (by omega)]
      refine ⟨y1, y2, ?_, ?_⟩
      · show va_OF "java/lang/String" "value" "[B" (.ref (if i = 100 then d0 else if i = 101 then d1 else if i = 102 then d2 else if i = 103 then d3 else (ad i).2)) (ad i).1 _ s s.heap
        rw [e]
        exact y3
      · show va_T .byte (if i = 100 then d0 else if i = 101 then d1 else if i = 102 then d2 else if i = 103 then d3 else (ad i).2) _ _ _ s s.heap
        rw [e]
        exact y4
    · obtain ⟨g1, g2, g3⟩ := gv_wd q hq
      refine vk_R.of (hts _ g2) ?_
      have e0 := (had q.2.2.2 g1).1
      rw [g3] at e0
      exact e0
    · obtain ⟨g1, g2⟩ := gv_ms q hq
      obtain ⟨a, c, cA, kA, q1, -⟩ := Cond.exactly_spec (args := args) (first := s) (o := none) (s := s) (idx := []) (t := Term.string RX7 q.1) (cls := "java/lang/String") (hg _ g2)
      exact ⟨a, vk_R.of (hts _ g1) q1⟩
    · unfold xSt at hq
      simp only [List.mem_cons, List.not_mem_nil, or_false] at hq
      rcases hq with rfl | rfl | rfl | rfl
      · exact va_Zof (hts _ gv_do) (hts _ gv_ii) d0e hA
      · exact va_Zof (hts _ gv_dt) (hts _ gv_ii) d1e hA
      · exact va_Zof (hts _ gv_va) (hts _ gv_li) d2e hA
      · exact va_Zof (hts _ gv_nu) (hts _ gv_li) d3e hA
    · rcases hi with rfl | rfl
      · exact d0T
      · exact d1T
    · rcases hi with rfl | rfl
      · exact d2T
      · exact d3T
/-- from the entry, for every script of at most 260 ints, the law comes to its end with true -/
theorem whole_start {p : Program} {e : Env} {s : State} {m : MethodId} {below : List Frame} {meth : Method} {c : Code} (l : Launch) (hflags : l.flags = flags0) {b L : Nat} {xs : Nat → Int32} (hL : L ≤ 260) (C0 : lw_At p s m meth c b L xs) : W p l e room_1 s m #[Value.ref b] below meth c s.heap [] 0 0 (lw_Z below #[Value.ref b] s) (entryFrame m ([Value.ref b] : List Value).toArray 26) := by
  obtain ⟨hx, hb, hr, hml, hown, hts, hX, hbl, hlocks, hgv⟩ := C0
  obtain ⟨G, g1, g2, g3, g4, g5⟩ := st_G b L xs hts (flat_of_before _ hgv) hX hbl
  obtain ⟨Y0, N0, f1, f2, f3⟩ := st_fz g4 g5 g1
  have hl9 : l.stackTraces = false := by
    unfold Launch.stackTraces
    rw [hflags]
    decide +kernel
  have hl := lv_entry ([.ref b]) (n := 26) (Nat.le_of_ble_eq_true rfl)
  rw [lg_entry_eq]
  generalize (lg_sl ([.ref b]) ++ List.replicate (26 - (lg_sl ([.ref b])).length) Slot.unset).toArray = ls at hl ⊢
  have hl : lv_has ls 26 [(0, .ref b)] := hl
  have hlaw : f_L_law G Y0 0 N0 := law_all (Y0 := Y0) (N0 := N0) (fun B hB => f3.cz hB) (by rw [g3]; exact hL) (fun a _ _ => ⟨⟨rfl, rfl⟩, fun _ => rfl, fun _ => rfl⟩) ⟨xB G, Or.inr f2, by rw [f2]; rfl⟩
  have key := T_L_law (G := G) (tb := c.exceptionTable.toList) (nm := meth.name) (ds := "") Y0 0 N0 hlaw p l e s m #[Value.ref b] below meth c s.heap [] ls ⟨hx, hl9, hb, hml, hown, rfl, hr, hlocks, rfl, st_UW hts, g4, g5, by rw [g1]; exact Nat.le_refl _⟩ f1 va_S.rf (by rw [g2]; exact hl)
  intro T hT X
  obtain ⟨t, a1, a2⟩ := key T hT X
  exact ⟨t, a1, a2 g1⟩
