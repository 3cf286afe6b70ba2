/-! CLONES, CASTS, STATICS, STRINGS, ARRAYCOPY -/
theorem wsys : Cond.initialized "java/lang/System" ∈ UW := xu_mem (List.mem_of_getElem? (i := 54) (by decide +kernel)) (by decide +kernel)
theorem wacn : Cond.native arraycopyName ∈ UW := xu_mem (List.mem_of_getElem? (i := 1158) (by decide +kernel)) (by decide +kernel)
theorem wacs : Cond.static arraycopyName ∈ UW := xu_mem (List.mem_of_getElem? (i := 1157) (by decide +kernel)) (by decide +kernel)
theorem wcln : Cond.native ⟨"java/lang/Object", "clone", "()Ljava/lang/Object;"⟩ ∈ UW := xu_mem (List.mem_of_getElem? (i := 447) (by decide +kernel)) (by decide +kernel)
theorem wcli : Cond.instanceMethod ⟨"java/lang/Object", "clone", "()Ljava/lang/Object;"⟩ ∈ UW := xu_mem (List.mem_of_getElem? (i := 448) (by decide +kernel)) (by decide +kernel)
theorem wcsI : Cond.sameMethod "[I" "java/lang/Object" "clone" "()Ljava/lang/Object;" ∈ UW := xu_mem (List.mem_of_getElem? (i := 446) (by decide +kernel)) (by decide +kernel)
theorem wcsB : Cond.sameMethod "[B" "java/lang/Object" "clone" "()Ljava/lang/Object;" ∈ UW := xu_mem (List.mem_of_getElem? (i := 1151) (by decide +kernel)) (by decide +kernel)
theorem wceI : Cond.selects "[I" ⟨"[I", "clone", "()Ljava/lang/Object;"⟩ ⟨"java/lang/Object", "clone", "()Ljava/lang/Object;"⟩ ∈ UW := xu_mem (List.mem_of_getElem? (i := 449) (by decide +kernel)) (by decide +kernel)
theorem wceB : Cond.selects "[B" ⟨"[B", "clone", "()Ljava/lang/Object;"⟩ ⟨"java/lang/Object", "clone", "()Ljava/lang/Object;"⟩ ∈ UW := xu_mem (List.mem_of_getElem? (i := 1152) (by decide +kernel)) (by decide +kernel)
theorem xC.st {i : Nat} {G : XG} {s : State} {H : Heap} {locs : List Loc} (hi : i < 37) (h : xC G s s.heap) (hS : va_S (xA G) s.heap H locs) : ∃ cell : Cell, H[xS G i]? = some cell ∧ cell.vm.isStatics = false ∧ s.vm.findClass RJ0 = some cell.cls := by
  obtain ⟨cell, h1, h2, h3, -⟩ := (h.str i hi).1.kept hS.2.1
  exact ⟨cell, h1, h2, h3⟩
/-- memory behind a clone -/
def nC (N : XN) (q a : Nat) : XN := (fun b j => if b = q then N.1 a j else N.1 b j, fun b j => if b = q then 0 else N.2 b j)
section XMI
variable {G : XG} {yy zz : MethodName} {cc cc' : ByteArray} {nL nL' : Nat} {ret ret' : Option FieldType} {tb : List ExceptionTableEntry} {R R' : Room} {Z : List Frame → Array Value → State → State → Prop} {Y Y' : XY} {N N' : XN} {k n pc : Nat} {L : List (Nat × Value)} {st rest As : List Value} {v : Option Value} {ix q : Nat}
theorem x_castI {a : Nat} (hd : decode cc pc = .ok (.checkcast ix, 3)) (hw : Cond.classLink yy.cls ix "[I" ∈ UW) (hk : kc Y a = 1) (kk : ExZ G yy cc nL ret tb R Z k n (pc + 3) L (.ref a :: st) Y N) : ExZ G yy cc nL ret tb R Z k n pc L (.ref a :: st) Y N := by
  intro p l e s m args below meth c H locs ls C hH hS hL
  have k1 := kk p l e s m args below meth c H locs ls C hH hS hL
  have hP : va_P G.1 vwCl [(a, .inl (G.2.1 0, kn Y a, .inl (N.1 a)))] H := fun k9 q9 h9 => by
    match k9, h9 with
    | 0, h9 => cases h9; exact xAt_1 hk (hH.1 a)
  exact va_castA C.1 C.2.2.1 C.2.2.2.2.1 (C.2.2.2.2.2.2.2.2.2.1 _ hw) hP 0 rfl (C.2.2.2.2.2.2.2.2.2.2.1.2 0 _ rfl).2 hd k1
theorem x_castB {a : Nat} (hd : decode cc pc = .ok (.checkcast ix, 3)) (hw : Cond.classLink yy.cls ix "[B" ∈ UW) (hk : kc Y a = 2) (kk : ExZ G yy cc nL ret tb R Z k n (pc + 3) L (.ref a :: st) Y N) : ExZ G yy cc nL ret tb R Z k n pc L (.ref a :: st) Y N := by
  intro p l e s m args below meth c H locs ls C hH hS hL
  have k1 := kk p l e s m args below meth c H locs ls C hH hS hL
  have hP : va_P G.1 vwCl [(a, .inl (G.2.1 1, kn Y a, .inl (N.1 a)))] H := fun k9 q9 h9 => by
    match k9, h9 with
    | 0, h9 => cases h9; exact xAt_2 hk (hH.1 a)
  exact va_castA C.1 C.2.2.1 C.2.2.2.2.1 (C.2.2.2.2.2.2.2.2.2.1 _ hw) hP 0 rfl (C.2.2.2.2.2.2.2.2.2.2.1.2 1 _ rfl).2 hd k1
theorem xH.pushC {Y : XY} {N : XN} {H H1 : Heap} {q a c : Nat} (h : xH G Y N H) (h9 : kc Y q = 9) (hc : (c = 1 ∧ kc Y a = 1) ∨ (c = 2 ∧ kc Y a = 2)) (z1 : H1.size = q + 1) (o1 : ∀ x : Nat, x < q → H1[x]? = H[x]?) (hnew : H1[q]? = H[a]?) : xH G (yK Y q c (kn Y a)) (nC N q a) H1 := by
  have e1 : (yK Y q c (kn Y a)).1 q = fun _ => none := by funext i; simp [yK]
  have hkq : kc (yK Y q c (kn Y a)) q = c := kcq rfl
  have hnq : kn (yK Y q c (kn Y a)) q = kn Y a := knq rfl
  have f1 : (nC N q a).1 q = N.1 a := by funext j; simp [nC]
  have P := xH.push (c := c) (n := kn Y a) h h9 z1 o1
  -- the other cells are those of a plain push
  have hnewAt : xAt G (yK Y q c (kn Y a)) (nC N q a) H1 q := by
    unfold xAt
    rw [hkq, hnq, f1]
    rcases hc with ⟨rfl, hk⟩ | ⟨rfl, hk⟩
    · rw [hnew]; exact xAt_1 hk (h.1 a)
    · rw [hnew]; exact xAt_2 hk (h.1 a)
  have hz : H.size = q := (h.1 q).end9 h9
  refine ⟨fun b => ?_, fun b hb hf => ?_⟩
  · by_cases e : b = q
    · rw [e]; exact hnewAt
    · by_cases e2 : b = q + 1
      · unfold xAt
        have : kc (yK Y q c (kn Y a)) b = 9 := kce e2
        rw [this, e2]
        exact z1
      · have hk : kc (yK Y q c (kn Y a)) b = kc Y b := by simp [kc, yK, e, e2]
        by_cases h0 : kc Y b = 0
        · unfold xAt
          rw [hk, h0]
          exact trivial
        · have h1 := h.1 b
          have hn9 : kc Y b ≠ 9 := fun z => e ((h1.end9 z).symm.trans hz)
          exact h1.keptA hn9 (fun hl => o1 b (by omega)) (by simp [yK, e, e2]) (fun k => by simp [yK, e]) (fun k => by simp [nC, e]) (fun k => by simp [nC, e])
  · by_cases e : b = q
    · rw [e]; exact h.2 q (by rw [h9]; decide) (by rw [h9]; rfl)
    · by_cases e2 : b = q + 1
      · have := h.2 q (by rw [h9]; decide) (by rw [h9]; rfl)
        rw [e2]; omega
      · exact h.2 b (by simpa [kc, yK, e, e2] using hb) (by simpa [kc, yK, e, e2] using hf)
theorem W_clone {p : Program} {l : Launch} {e : Env} {R : Room} {s : State} {m : MethodId} {args : Array Value} {below : List Frame} {meth : Method} {c9 : Code} {H : Heap} {locs : List Loc} {cells slots : Nat} {Q : State → Prop} {ls : Array Slot} {own ad : String} {a : Nat} {cA : ClassId} {M : Nat} {f : Nat → Int32} {ty : FieldType}
    (hexec : p.tables.exec = Jvm.exec) (hb : c9.code = cc) (hml : c9.maxLocals = ls.size) (hown : s.vm.findClass own = some m.cls) (hlink : (Cond.methodLink own ix ⟨ad, "clone", "()Ljava/lang/Object;"⟩).before args s = true) (hsame : (Cond.sameMethod ad "java/lang/Object" "clone" "()Ljava/lang/Object;").before args s = true)
    (hnat : (Cond.native ⟨"java/lang/Object", "clone", "()Ljava/lang/Object;"⟩).before args s = true) (hinst : (Cond.instanceMethod ⟨"java/lang/Object", "clone", "()Ljava/lang/Object;"⟩).before args s = true)
    (hsel : (Cond.selects ad ⟨ad, "clone", "()Ljava/lang/Object;"⟩ ⟨"java/lang/Object", "clone", "()Ljava/lang/Object;"⟩).before args s = true) (hcl : va_Nw (.castable ad "java/lang/Cloneable") s)
    (hArr : s.isArrayOf (arrV cA M (fun j => .int (f j))) ty) (hcell : H[a]? = some (arrV cA M (fun j => .int (f j)))) (hnm : s.vm.findClass ad = some cA) (hfit : ∀ i, i < M → fits ty (.int (f i)) = true)
    (hframes : 1 ≤ R.frames) (hlocals : (st.map fun v => v.category).sum + 14 ≤ R.locals) (hcells : cells + 1 ≤ R.cells) (hslots : slots + M ≤ R.slots) (hdg : decode cc pc = .ok (.invokevirtual ix, 3))
    (kk : W p l e R s m args below meth c9 (H.push (arrV cA M (fun j => .int (f j)))) locs (cells + 1) (slots + M) Q (F0 m (pc + 3) ls (.ref H.size :: st))) : W p l e R s m args below meth c9 H locs cells slots Q (F0 m pc ls (.ref a :: st)) := by
  have hsz : (arrV cA M (fun j => .int (f j))).slots.size = M := arrV_size _ _ _
  obtain ⟨c0, t0', f1, f2, f3⟩ := Cond.castable_spec (va_Nw.use (A := args) rfl hcl)
  cases hnm.symm.trans f1
  intro T hT X
  have hcellT : T.heap[a]? = some (arrV cA M (fun j => .int (f j))) := by rw [hT]; exact hcell
  obtain ⟨-, kA, hkA, comp, hkind⟩ := State.isArrayOf_alike X.warmed.alike hArr
  obtain ⟨-, kS, hkS, compS, hkindS⟩ := hArr
  obtain ⟨vm', X', st9⟩ := X.cloneArray hexec hown hlink hsame hnat hinst hsel (a := a) (cell := arrV cA M (fun j => .int (f j))) hcellT (fun k h => by cases h) (fun h => by cases h) hnm f2 f3
    (fun i v hv => by
      have hi : i < M := by
        have := (Array.getElem?_eq_some_iff.mp hv).1
        rw [hsz] at this
        exact this
      rw [arrV_read _ _ hi] at hv
      cases hv
      have hk' : T.vm.classes[cA]? = some kA := hkA
      have hcl0 : (arrV cA M (fun j => .int (f j))).cls = cA := rfl
      rw [hcl0]
      simpa [State.fitsSlot, State.slotType?, hk', hkind] using hfit i hi)
    (g := F0 m pc ls (.ref a :: st)) rfl (by rw [hml]) rfl (by rw [hb]; exact hdg) hframes (by show 2 * 0 + _ + 14 ≤ _; omega) hcells (by rw [hsz]; exact hslots) (hloader := Vm.clonesLoader_of_array hkS hkindS)
  rw [hsz] at X'
  obtain ⟨t, b1, b2⟩ := kk ((T.setVm vm').pushCell (arrV cA M (fun j => .int (f j)))) (by rw [← hT]; rfl) X'
  refine ⟨t, st9 t ?_, b2⟩
  rw [hT]
  exact b1
theorem x_cloneI {a : Nat} (hd : decode cc pc = .ok (.invokevirtual ix, 3)) (hl : Cond.methodLink yy.cls ix ⟨"[I", "clone", "()Ljava/lang/Object;"⟩ ∈ UW) (hk : kc Y a = 1) (h9 : kc Y q = 9) (hR : 1 ≤ R.frames ∧ 22 ≤ R.locals) (hW : (st.map fun v => v.category).sum ≤ 8) (hcap : k + 1 ≤ R.cells ∧ n + kn Y a ≤ R.slots)
    (kk : ExZ G yy cc nL ret tb R Z (k + 1) (n + kn Y a) (pc + 3) L (.ref q :: st) (yK Y q 1 (kn Y a)) (nC N q a)) : ExZ G yy cc nL ret tb R Z k n pc L (.ref a :: st) Y N := by
  intro p l e s m args below meth c9 H locs ls C hH hS hL
  have k1 := fun H' hH' hS' => kk p l e s m args below meth c9 H' locs ls C hH' hS' hL
  obtain ⟨hx, -, hb, hml, hown, -, -, -, -, hts, hK, hC9, hB9⟩ := C
  have hz : H.size = q := (hH.1 q).end9 h9
  refine W_clone (a := a) (ty := .int) (M := kn Y a) (f := N.1 a) (cA := G.2.1 0) hx hb (hml.trans hL.1.symm) hown (hts _ hl) (hts _ wcsI) (hts _ wcln) (hts _ wcli) (hts _ wceI) (hC9.cln "[I" (by decide)) ((hK.2 0 _ rfl).1 (kn Y a) (fun j => .int (N.1 a j))) (xAt_1 hk (hH.1 a)) (hK.2 0 _ rfl).2 (fun i _ => rfl) hR.1 (by omega) hcap.1 hcap.2 hd ?_
  generalize hH1 : H.push (arrV (G.2.1 0) (kn Y a) (fun j => .int (N.1 a j))) = H1
  have z1 : H1.size = q + 1 := by rw [← hH1, Array.size_push, hz]
  have e1 : H1[q]? = H[a]? := by
    rw [← hH1, ← hz, Array.getElem?_push_size]
    exact (xAt_1 hk (hH.1 a)).symm
  have o1 : ∀ x : Nat, x < q → H1[x]? = H[x]? := fun x hx => by rw [← hH1, Array.getElem?_push, if_neg (by omega)]
  rw [hz]
  exact k1 H1 (hH.pushC h9 (Or.inl ⟨rfl, hk⟩) z1 o1 e1) (va_S_grow hS (by omega) (fun x hx => o1 x (by omega)))
theorem x_cloneB {a : Nat} (hd : decode cc pc = .ok (.invokevirtual ix, 3)) (hl : Cond.methodLink yy.cls ix ⟨"[B", "clone", "()Ljava/lang/Object;"⟩ ∈ UW) (hk : kc Y a = 2) (hf : ∀ i, i < kn Y a → fits .byte (.int (N.1 a i)) = true) (h9 : kc Y q = 9) (hR : 1 ≤ R.frames ∧ 22 ≤ R.locals) (hW : (st.map fun v => v.category).sum ≤ 8) (hcap : k + 1 ≤ R.cells ∧ n + kn Y a ≤ R.slots)
    (kk : ExZ G yy cc nL ret tb R Z (k + 1) (n + kn Y a) (pc + 3) L (.ref q :: st) (yK Y q 2 (kn Y a)) (nC N q a)) : ExZ G yy cc nL ret tb R Z k n pc L (.ref a :: st) Y N := by
  intro p l e s m args below meth c9 H locs ls C hH hS hL
  have k1 := fun H' hH' hS' => kk p l e s m args below meth c9 H' locs ls C hH' hS' hL
  obtain ⟨hx, -, hb, hml, hown, -, -, -, -, hts, hK, hC9, hB9⟩ := C
  have hz : H.size = q := (hH.1 q).end9 h9
  refine W_clone (a := a) (ty := .byte) (M := kn Y a) (f := N.1 a) (cA := G.2.1 1) hx hb (hml.trans hL.1.symm) hown (hts _ hl) (hts _ wcsB) (hts _ wcln) (hts _ wcli) (hts _ wceB) (hC9.cln "[B" (by decide)) ((hK.2 1 _ rfl).1 (kn Y a) (fun j => .int (N.1 a j))) (xAt_2 hk (hH.1 a)) (hK.2 1 _ rfl).2 hf hR.1 (by omega) hcap.1 hcap.2 hd ?_
  generalize hH1 : H.push (arrV (G.2.1 1) (kn Y a) (fun j => .int (N.1 a j))) = H1
  have z1 : H1.size = q + 1 := by rw [← hH1, Array.size_push, hz]
  have e1 : H1[q]? = H[a]? := by
    rw [← hH1, ← hz, Array.getElem?_push_size]
    exact (xAt_2 hk (hH.1 a)).symm
  have o1 : ∀ x : Nat, x < q → H1[x]? = H[x]? := fun x hx => by rw [← hH1, Array.getElem?_push, if_neg (by omega)]
  rw [hz]
  exact k1 H1 (hH.pushC h9 (Or.inr ⟨rfl, hk⟩) z1 o1 e1) (va_S_grow hS (by omega) (fun x hx => o1 x (by omega)))
theorem x_getsJ {i : Nat} {C9 nm : String} {d9 : String} (hd : decode cc pc = .ok (.getstatic ix, 3)) (hs : (C9, nm, d9, i) ∈ xSt) (hw : Cond.fieldLink yy.cls ix C9 nm d9 ∈ UW) (kk : ExZ G yy cc nL ret tb R Z k n (pc + 3) L (.ref (xSv G i) :: st) Y N) : ExZ G yy cc nL ret tb R Z k n pc L st Y N := by
  intro p l e s m args below meth c H locs ls C hH hS hL
  exact va_gets C.1 C.2.2.1 (C.2.2.2.2.2.2.2.2.2.2.2.1.sta _ hs) hS C.2.2.2.2.1 (C.2.2.2.2.2.2.2.2.2.1 _ hw) (fun _ h => h) hd (kk p l e s m args below meth c H locs ls C hH hS hL)
theorem x_getsV (hd : decode cc pc = .ok (.getstatic 50, 3)) (hy : yy.cls = RX9) (kk : ExZ G yy cc nL ret tb R Z k n (pc + 3) L (.ref (xSv G 102) :: st) Y N) : ExZ G yy cc nL ret tb R Z k n pc L st Y N := by
  intro p l e s m args below meth c H locs ls C hH hS hL
  have hC := C.2.2.2.2.2.2.2.2.2.2.2.1
  exact va_getsN C.1 C.2.2.1 (hC.sta (RL, "VARIABLES", "[Ljava/lang/String;", 102) (by decide)) hS C.2.2.2.2.1 (by rw [hy]; exact va_Nw.use rfl hC.var) (fun _ h => h) hd (kk p l e s m args below meth c H locs ls C hH hS hL)
theorem x_getsC (hd : decode cc pc = .ok (.getstatic ix, 3)) (hw : Cond.fieldLink yy.cls ix "java/lang/String" "COMPACT_STRINGS" "Z" ∈ UW) (kk : ExZ G yy cc nL ret tb R Z k n (pc + 3) L (.int 1 :: st) Y N) : ExZ G yy cc nL ret tb R Z k n pc L st Y N := by
  intro p l e s m args below meth c H locs ls C hH hS hL
  exact va_gets C.1 C.2.2.1 C.2.2.2.2.2.2.2.2.2.2.2.1.com hS C.2.2.2.2.1 (C.2.2.2.2.2.2.2.2.2.1 _ hw) (fun _ h => h) hd (kk p l e s m args below meth c H locs ls C hH hS hL)
/-- a frozen byte array's cell -/
theorem x_fb {a : Nat} {s : State} {H : Heap} {locs : List Loc} (hC : xC G s s.heap) (hH : xH G Y N H) (hS : va_S (xA G) s.heap H locs) (hk : kc Y a = 41) : ∃ cell : Cell, H[a]? = some cell ∧ s.isArrayOf cell .byte ∧ cell.vm ≠ .unknown ∧ kn Y a ≤ cell.slots.size ∧ cell.slots.size.toInt32 = Int32.ofNat (kn Y a) ∧ (∀ j : Nat, j < kn Y a → cell.slots[j]? = some (.int (N.1 a j))) ∧ a < s.heap.size ∧ ¬ xA G a := by
  obtain ⟨i, hi, rfl, hn, hv⟩ := xAt_FB hk (hH.1 _)
  obtain ⟨cell, h1, h2, h3, h4, h5, h6, h7⟩ := hC.byt hi
  have hlt := (Array.getElem?_eq_some_iff.mp h1).1
  refine ⟨cell, by rw [hS.2.1 _ hlt h7]; exact h1, h2, h3, by rw [hn]; exact h4, by rw [hn]; exact h5, fun j hj => ?_, hlt, h7⟩
  rw [hn] at hj
  rw [h6 j hj, hv j hj]
theorem x_baldB {a : Nat} {i : Int32} (hd : decode cc pc = .ok (.baload, 1)) (hk : isB (kc Y a) = true) (hin : vp_in i (kn Y a)) (kk : ExZ G yy cc nL ret tb R Z k n (pc + 1) L (.int (gi N a i.toNatClampNeg) :: st) Y N) : ExZ G yy cc nL ret tb R Z k n pc L (.int i :: .ref a :: st) Y N := by
  rcases isB_or hk with h | h
  · exact x_bald hd h hin rfl kk
  · intro p l e s m args below meth c H locs ls C hH hS hL
    have k1 := kk p l e s m args below meth c H locs ls C hH hS hL
    obtain ⟨w, hw, rfl, hn, hv⟩ := xAt_FB h (hH.1 _)
    have hlt : i.toNatClampNeg < kn Y (xSv G w) := Nat.not_le.mp fun q => hin (Or.inr q)
    exact va_tb C.1 C.2.2.1 (C.2.2.2.2.2.2.2.2.2.2.2.1.byt hw) hS (by rw [← hn]; exact hin) (congrArg Value.int (hv _ (by rw [← hn]; exact hlt)).symm) hd k1
theorem x_blenB {a : Nat} {v : Int32} (hd : decode cc pc = .ok (.arraylength, 1)) (hk : isB (kc Y a) = true) (hv : Int32.ofNat (kn Y a) = v) (kk : ExZ G yy cc nL ret tb R Z k n (pc + 1) L (.int v :: st) Y N) : ExZ G yy cc nL ret tb R Z k n pc L (.ref a :: st) Y N := by
  rcases isB_or hk with h | h
  · exact x_blen hd h hv kk
  · intro p l e s m args below meth c H locs ls C hH hS hL
    have k1 := kk p l e s m args below meth c H locs ls C hH hS hL
    obtain ⟨cell, h1, h2, h3, h4, h5, h6, -⟩ := x_fb C.2.2.2.2.2.2.2.2.2.2.2.1 hH hS h
    exact W.alen C.1 C.2.2.1 h1 h2 (h5.trans hv) rfl rfl hd k1
/-- a String's fields, made or frozen -/
theorem x_getSc {a : Nat} (hd : decode cc pc = .ok (.getfield ix, 3)) (hw : Cond.fieldLink yy.cls ix (TJ0 1).1 (TJ0 1).2.1 (TJ0 1).2.2.1 ∈ UW) (hk : isS (kc Y a) = true) (kk : ExZ G yy cc nL ret tb R Z k n (pc + 3) L (.int (gi N a 1) :: st) Y N) : ExZ G yy cc nL ret tb R Z k n pc L (.ref a :: st) Y N := by
  rcases isS_or hk with h | h
  · exact x_geti (ci := 11) hd (show vwCl[11]? = some (RJ0, TJ0, 4) from rfl) xin11 (by decide) hw rfl h kk
  · intro p l e s m args below meth c H locs ls C hH hS hL
    have k1 := kk p l e s m args below meth c H locs ls C hH hS hL
    obtain ⟨w, hw9, rfl, -, h0⟩ := xAt_FS h (hH.1 _)
    have e : gi N (xS G w) 1 = 0 := h0
    rw [e] at k1
    exact vk_getf C.1 C.2.2.1 (C.2.2.2.2.2.2.2.2.2.2.2.1.str w hw9).2.1 hS C.2.2.2.2.1 (C.2.2.2.2.2.2.2.2.2.1 _ hw) (fun _ h => h) hd k1
theorem x_getSv {a b : Nat} (hd : decode cc pc = .ok (.getfield ix, 3)) (hw : Cond.fieldLink yy.cls ix (TJ0 0).1 (TJ0 0).2.1 (TJ0 0).2.2.1 ∈ UW) (hk : isS (kc Y a) = true) (hg : gr Y a 0 = some b) (kk : ExZ G yy cc nL ret tb R Z k n (pc + 3) L (.ref b :: st) Y N) : ExZ G yy cc nL ret tb R Z k n pc L (.ref a :: st) Y N := by
  rcases isS_or hk with h | h
  · exact x_getr (ci := 11) hd (show vwCl[11]? = some (RJ0, TJ0, 4) from rfl) xin11 (by decide) hw rfl h hg kk
  · intro p l e s m args below meth c H locs ls C hH hS hL
    have k1 := kk p l e s m args below meth c H locs ls C hH hS hL
    obtain ⟨w, hw9, rfl, h0, -⟩ := xAt_FS h (hH.1 _)
    have e : b = xSv G w := Option.some.inj (hg.symm.trans h0)
    subst e
    exact vk_getf C.1 C.2.2.1 (C.2.2.2.2.2.2.2.2.2.2.2.1.str w hw9).2.2.1 hS C.2.2.2.2.1 (C.2.2.2.2.2.2.2.2.2.1 _ hw) (fun _ h => h) hd k1
theorem x_nVS {b : Nat} (hd : decode cc pc = .ok (.invokevirtual ix, 3)) (hl : Cond.methodLink yy.cls ix zz ∈ UW) (hi : Cond.instanceMethod zz ∈ UW) (hs : Cond.selects zz.cls zz zz ∈ UW) (hn : Cond.initialized zz.cls ∈ UW) (hc : Cond.code zz cc' nL' ret' ∈ UW)
    (hp : HP zz As.length) (hR : R'.frames + 1 ≤ R.frames ∧ 8 + (nL' + 11) + R'.locals ≤ R.locals) (hst : st = As.reverse ++ .ref b :: rest) (hW : 2 * 0 + (rest.map fun v => v.category).sum ≤ 8) (hcap : k + R'.cells ≤ R.cells ∧ n + R'.slots ≤ R.slots)
    (hz : zz.cls = RJ0) (hk : isS (kc Y b) = true) (hC9 : Cn G zz cc' nL' ret' R' (.ref b :: As) v Y N Y' N')
    (kk : ExZ G yy cc nL ret tb R Z (k + R'.cells) (n + R'.slots) (pc + 3) L (v.toList ++ rest) Y' N') : ExZ G yy cc nL ret tb R Z k n pc L st Y N := by
  rcases isS_or hk with h | h
  · exact x_nV (ci := 11) (T9 := TJ0) (M := 4) hd hl hi hs hn hc hp hR hst hW hcap (by rw [hz]; rfl) h hC9 kk
  · intro p l e s m args below meth c H locs ls C hH hS hL
    have hts := C.2.2.2.2.2.2.2.2.2.1
    obtain ⟨w, hw9, rfl, -, -⟩ := xAt_FS h (hH.1 _)
    exact x_backN (va_runV (C := zz.cls) (Ts := UW) (n := As.length) ⟨C.1, C.2.2.1, C.2.2.2.1, C.2.2.2.2.1, hts⟩ (hC9 l C.2.1) ⟨x_cw hts hl hn hc hp hR, hts _ hi, hts _ hs⟩ ⟨xPre_blind, by rw [hz]; exact xC.st hw9 C.2.2.2.2.2.2.2.2.2.2.2.1 hS, fun U hU hW => ⟨rfl, xPre_at C hH hS hU hW⟩⟩ rfl rfl hL.1 hst hW hd hcap) C hS hL kk
end XMI
theorem W_acopy {cc : ByteArray} {p : Program} {l : Launch} {e : Env} {R : Room} {s : State} {m : MethodId} {args : Array Value} {below : List Frame} {meth : Method} {c : Code} {H : Heap} {locs : List Loc} {cells slots pc ix : Nat} {st : List Value} {Q : State → Prop} {ls : Array Slot} {own : String} {A : Nat → Prop} {a b : Nat} {c1 : ClassId} {n0 n1 : Nat} {f g : Nat → Int32} {scr : Cell} {sp dp m9 : Int32}
    (hexec : p.tables.exec = Jvm.exec) (hb : c.code = cc) (hml : c.maxLocals = ls.size) (hown : s.vm.findClass own = some m.cls) (hlink : (Cond.methodLink own ix arraycopyName).before args s = true) (hnat : (Cond.native arraycopyName).before args s = true) (hstat : (Cond.static arraycopyName).before args s = true) (hini : (Cond.initialized "java/lang/System").before args s = true)
    (hS : va_S A s.heap H locs) (hAb : A b) (hc0 : H[a]? = some scr) (harr : s.isArrayOf scr .byte) (hkn : scr.vm ≠ .unknown) (hsz : n0 ≤ scr.slots.size) (hsl : ∀ j, j < n0 → scr.slots[j]? = some (.int (f j))) (hArr1 : s.isArrayOf (arrV c1 n1 (fun j => .int (g j))) .byte) (hc1 : H[b]? = some (arrV c1 n1 (fun j => .int (g j))))
    (h1 : ¬ sp < 0) (h2 : ¬ dp < 0) (h3 : ¬ m9 < 0) (h4 : sp.toNatClampNeg + m9.toNatClampNeg ≤ n0) (h5 : dp.toNatClampNeg + m9.toNatClampNeg ≤ n1) (hfit : ∀ i, i < m9.toNatClampNeg → fits .byte (.int (f (sp.toNatClampNeg + i))) = true)
    (hframes : 1 ≤ R.frames) (hlocals : (st.map fun v => v.category).sum + (nativeFrameWords "java/lang/System" "arraycopy" 5 + 11) ≤ R.locals) (hdg : decode cc pc = .ok (.invokestatic ix, 3))
    (kk : ∀ (H1 : Heap) (locs1 : List Loc), H1.size = H.size → H1[b]? = some (arrV c1 n1 (fun j => .int (va_cpy f g sp.toNatClampNeg dp.toNatClampNeg m9.toNatClampNeg j))) → (∀ q : Nat, q ≠ b → H1[q]? = H[q]?) → va_S A s.heap H1 locs1 → W p l e R s m args below meth c H1 locs1 cells slots Q (F0 m (pc + 3) ls st)) :
    W p l e R s m args below meth c H locs cells slots Q (F0 m pc ls (.int m9 :: .int dp :: .ref b :: .int sp :: .ref a :: st)) := by
  have nn : ∀ z : Int32, ¬ z < 0 → z.toInt = (z.toNatClampNeg : Int) := by
    intro z hz
    have hz0 : (0 : Int) ≤ z.toInt := by
      have := Int32.not_lt.mp hz
      simpa using Int32.le_iff_toInt_le.mp this
    show z.toInt = ((z.toInt.toNat : Nat) : Int)
    omega
  intro T hT X
  obtain ⟨hs6, k0, hk0, cm0, hkk0⟩ := harr
  obtain ⟨-, k1, hk1, cm1, hkk1⟩ := hArr1
  obtain ⟨vm', X', step⟩ := X.arraycopy hexec hown hlink hnat hstat hini (src := a) (dst := b) (cs := scr) (cd := arrV c1 n1 (fun j => .int (g j))) (srcPos := sp) (destPos := dp) (n := m9) (by rw [hT]; exact hc0) (by rw [hT]; exact hc1)
    hs6 (fun _ h => by cases h) hkn (fun h => by cases h) hk0 hk1 hkk0 hkk1 (by simp [refKind]) h1 h2 h3
    (by rw [nn sp h1, nn m9 h3]; omega)
    (by rw [nn dp h2, nn m9 h3]; show ¬ _ > ((arrV c1 n1 (fun j => .int (g j))).slots.size : Int); rw [arrV_size]; omega)
    (fun vm₁ _ i hi => by
      have e : scr.slots.getD (sp.toNatClampNeg + i) .null = .int (f (sp.toNatClampNeg + i)) := by
        rw [Array.getD_eq_getD_getElem?, hsl _ (by omega)]
        rfl
      refine ⟨?_, ?_⟩
      · rw [e]
        exact hfit i hi
      · rw [e]
        exact trivial)
    (g := F0 m pc ls (.int m9 :: .int dp :: .ref b :: .int sp :: .ref a :: st)) rfl (by rw [hml]) (rest := st) rfl (by rw [hb]; exact hdg) hframes (by show 2 * 0 + _ + _ ≤ _; omega)
  have e1 : copied scr (arrV c1 n1 (fun j => .int (g j))) sp dp m9 = arrV c1 n1 (fun j => .int (va_cpy f g sp.toNatClampNeg dp.toNatClampNeg m9.toNatClampNeg j)) := va_copiedX (fun z => .int z) scr c1 f g hsl h4
  rw [e1] at X' step
  have hl : b < H.size := (Array.getElem?_eq_some_iff.mp hc1).1
  have hheap : ((T.setVm vm').setCell b (arrV c1 n1 (fun j => .int (va_cpy f g sp.toNatClampNeg dp.toNatClampNeg m9.toNatClampNeg j)))).heap = H.setIfInBounds b (arrV c1 n1 (fun j => .int (va_cpy f g sp.toNatClampNeg dp.toNatClampNeg m9.toNatClampNeg j))) := by rw [← hT]; rfl
  have oq : ∀ q : Nat, q ≠ b → (H.setIfInBounds b (arrV c1 n1 (fun j => .int (va_cpy f g sp.toNatClampNeg dp.toNatClampNeg m9.toNatClampNeg j))))[q]? = H[q]? := fun q hq => by simp [Array.getElem?_setIfInBounds, Ne.symm hq]
  obtain ⟨t, a1, b1⟩ := kk _ _ (by simp) (show (H.setIfInBounds b _)[b]? = some _ by simp [Array.getElem?_setIfInBounds, hl]) oq ⟨by simp; exact hS.1, fun q g1 g2 => by
      rw [oq q (fun e => g2 (by rw [e]; exact hAb))]
      exact hS.2.1 q g1 g2, fun q hq => by
      rcases List.mem_append.mp hq with h | h
      · exact hS.2.2 q h
      · obtain ⟨z, -, hz⟩ := List.mem_map.mp h
        rw [← hz]
        exact hAb⟩ _ hheap X'
  exact ⟨t, step t a1, b1⟩
/-- behind an arraycopy between byte arrays -/
def sb8 (N : XN) (a b sp dp n : Nat) : XN := (fun x j => if x = b then va_cpy (N.1 a) (N.1 b) sp dp n j else N.1 x j, N.2)
section XMJ
variable {G : XG} {yy : MethodName} {cc : ByteArray} {nL : Nat} {ret : Option FieldType} {tb : List ExceptionTableEntry} {R : Room} {Z : List Frame → Array Value → State → State → Prop} {Y : XY} {N : XN} {k n pc : Nat} {L : List (Nat × Value)} {st : List Value} {ix : Nat}
theorem x_acopy {a b : Nat} {sp dp m9 : Int32} (hd : decode cc pc = .ok (.invokestatic ix, 3)) (hl : Cond.methodLink yy.cls ix arraycopyName ∈ UW) (ha : isB (kc Y a) = true) (hb9 : kc Y b = 2) (h1 : ¬ sp < 0) (h2 : ¬ dp < 0) (h3 : ¬ m9 < 0) (h4 : sp.toNatClampNeg + m9.toNatClampNeg ≤ kn Y a) (h5 : dp.toNatClampNeg + m9.toNatClampNeg ≤ kn Y b) (hf : ∀ i, i < m9.toNatClampNeg → fits .byte (.int (N.1 a (sp.toNatClampNeg + i))) = true)
    (hR : 1 ≤ R.frames ∧ 42 ≤ R.locals) (hW : (st.map fun v => v.category).sum ≤ 8)
    (kk : ExZ G yy cc nL ret tb R Z k n (pc + 3) L st Y (sb8 N a b sp.toNatClampNeg dp.toNatClampNeg m9.toNatClampNeg)) : ExZ G yy cc nL ret tb R Z k n pc L (.int m9 :: .int dp :: .ref b :: .int sp :: .ref a :: st) Y N := by
  intro p l e s m args below meth c H locs ls C hH hS hL
  have k1 := fun H' locs' hH' hS' => kk p l e s m args below meth c H' locs' ls C hH' hS' hL
  have hC := C.2.2.2.2.2.2.2.2.2.2.2.1
  obtain ⟨hx, -, hb, hml, hown, -, -, -, -, hts, hK, -, -⟩ := C
  have hw9 : nativeFrameWords "java/lang/System" "arraycopy" 5 ≤ 23 := by decide
  have src : ∃ scr : Cell, H[a]? = some scr ∧ s.isArrayOf scr .byte ∧ scr.vm ≠ .unknown ∧ kn Y a ≤ scr.slots.size ∧ ∀ j, j < kn Y a → scr.slots[j]? = some (.int (N.1 a j)) := by
    rcases isB_or ha with h | h
    · refine ⟨_, xAt_2 h (hH.1 a), (hK.2 1 _ rfl).1 (kn Y a) (fun j => .int (N.1 a j)), (fun q => by cases q), ?_, fun j hj => ?_⟩
      · show _ ≤ (arrV _ _ _).slots.size
        rw [arrV_size]
        exact Nat.le_refl _
      · show (arrV _ _ _).slots[_]? = _
        rw [arrV_read _ _ hj]
    · obtain ⟨cell, g1, g2, g3, g4, g5, g6, -⟩ := x_fb hC hH hS h
      exact ⟨cell, g1, g2, g3, g4, g6⟩
  obtain ⟨scr, s1, s2, s3, s4, s5⟩ := src
  refine W_acopy (n0 := kn Y a) (n1 := kn Y b) (f := N.1 a) (g := N.1 b) (c1 := G.2.1 1) hx hb (hml.trans hL.1.symm) hown (hts _ hl) (hts _ wacn) (hts _ wacs) (hts _ wsys) hS (xA_of hH (by rw [hb9]; decide) (by rw [hb9]; rfl)) s1 s2 s3 s4 s5 ((hK.2 1 _ rfl).1 (kn Y b) (fun j => .int (N.1 b j))) (xAt_2 hb9 (hH.1 b)) h1 h2 h3 h4 h5 hf hR.1 (by omega) hd fun H1 locs1 z1 e1 oq hS1 => ?_
  refine k1 H1 _ (hH.put z1 oq rfl (fun _ _ _ => rfl) (fun x hx j => if_neg hx) (fun _ _ _ => rfl) ?_) hS1
  unfold xAt
  rw [hb9]
  show H1[b]? = some (vp_cell (G.2.1 1) (kn Y b, .inl ((sb8 N a b sp.toNatClampNeg dp.toNatClampNeg m9.toNatClampNeg).1 b)))
  have e2 : (sb8 N a b sp.toNatClampNeg dp.toNatClampNeg m9.toNatClampNeg).1 b = va_cpy (N.1 a) (N.1 b) sp.toNatClampNeg dp.toNatClampNeg m9.toNatClampNeg := by
    funext j
    show (if b = b then _ else _) = _
    rw [if_pos rfl]
  rw [e2, e1]
  rfl
end XMJ
