/-! METHODS THAT NEVER THROW: their contract, their ends, their calls -/
def Cn (G : XG) (yy : MethodName) (cc : ByteArray) (nL : Nat) (ret : Option FieldType) (R : Room) (As : List Value) (v : Option Value) (Y : XY) (N : XN) (Yf : XY) (Nf : XN) : Prop :=
  ∀ l : Launch, l.stackTraces = false → Met l yy (Cond.code yy cc nL ret :: UW) R (va_Pc As (xPre G Y N)) (xQ G (.inl v) Yf Nf) R.cells R.slots (xA G)
def xZn (G : XG) (R : Room) (v : Option Value) (Yf : XY) (Nf : XN) : List Frame → Array Value → State → State → Prop := fun below args s => MQ below (xQ G (.inl v) Yf Nf) args s R.cells R.slots (xA G)
theorem Cn.m {G : XG} {yy : MethodName} {cc : ByteArray} {nL : Nat} {R : Room} {As : List Value} {Y : XY} {N : XN} {Yf : XY} {Nf : XN} (h : Cn G yy cc nL none R As none Y N Yf Nf) : Cm G yy cc nL R As Y N Yf Nf := h
section XMO
variable {G : XG} {yy zz : MethodName} {cc cc' : ByteArray} {nL nL' : Nat} {ret ret' : Option FieldType} {tb : List ExceptionTableEntry} {R R' : Room} {Z : List Frame → Array Value → State → State → Prop} {Y Y' : XY} {N N' : XN} {k n pc : Nat} {L : List (Nat × Value)} {st rest As : List Value} {v : Option Value} {ix q : Nat}
theorem x_niret {v : Int32} (hd : decode cc pc = .ok (.ireturn, 1)) (hr : ret = some .int) (hk : R.cells = k) (hn : R.slots = n) : ExZ G yy cc nL ret tb R (xZn G R (some (.int v)) Y N) k n pc L [.int v] Y N := by
  intro p l e s m args below meth c H locs ls C hH hS hL
  subst hk; subst hn
  exact W.iret C.1 C.2.2.1 (C.2.2.2.2.2.2.1.trans hr) (fun t ht _ => xq_ret hH hS ht) hS.2.2 hd C.2.2.2.2.2.2.2.1
theorem x_nzret {v : Int32} (hd : decode cc pc = .ok (.ireturn, 1)) (hr : ret = some .boolean) (hz : v = 0 ∨ v = 1) (hk : R.cells = k) (hn : R.slots = n) : ExZ G yy cc nL ret tb R (xZn G R (some (.int v)) Y N) k n pc L [.int v] Y N := by
  intro p l e s m args below meth c H locs ls C hH hS hL
  subst hk; subst hn
  exact W.zret C.1 C.2.2.1 (C.2.2.2.2.2.2.1.trans hr) (by rcases hz with rfl | rfl <;> rfl) (fun t ht _ => xq_ret hH hS ht) hS.2.2 hd C.2.2.2.2.2.2.2.1
theorem x_nlret {v : Int64} (hd : decode cc pc = .ok (.lreturn, 1)) (hr : ret = some .long) (hk : R.cells = k) (hn : R.slots = n) : ExZ G yy cc nL ret tb R (xZn G R (some (.long v)) Y N) k n pc L [.long v] Y N := by
  intro p l e s m args below meth c H locs ls C hH hS hL
  subst hk; subst hn
  exact W.lret C.1 C.2.2.1 (C.2.2.2.2.2.2.1.trans hr) (fun t ht _ => xq_ret hH hS ht) hS.2.2 hd C.2.2.2.2.2.2.2.1
theorem x_naret {v : Nat} {ty : FieldType} (hd : decode cc pc = .ok (.areturn, 1)) (hr : ret = some ty) (ht9 : (∃ nm, ty = .object nm) ∨ ∃ t, ty = .array t) (hk : R.cells = k) (hn : R.slots = n) : ExZ G yy cc nL ret tb R (xZn G R (some (.ref v)) Y N) k n pc L [.ref v] Y N := by
  intro p l e s m args below meth c H locs ls C hH hS hL
  subst hk; subst hn
  exact W.aret C.1 C.2.2.1 (C.2.2.2.2.2.2.1.trans hr) ht9 (Or.inr ⟨_, rfl⟩) (fun t ht _ => xq_ret hH hS ht) hS.2.2 hd C.2.2.2.2.2.2.2.1
theorem x_nvret (hd : decode cc pc = .ok (.return_, 1)) (hr : ret = none) (hk : R.cells = k) (hn : R.slots = n) : ExZ G yy cc nL ret tb R (xZn G R none Y N) k n pc L [] Y N := by
  intro p l e s m args below meth c H locs ls C hH hS hL
  subst hk; subst hn
  exact W.vret C.1 C.2.2.1 (C.2.2.2.2.2.2.1.trans hr) (fun t ht _ => xq_ret hH hS ht) hS.2.2 hd C.2.2.2.2.2.2.2.1
theorem x_wide {k' n' : Nat} (h : k ≤ k' ∧ n ≤ n') (kk : ExZ G yy cc nL ret tb R Z k' n' pc L st Y N) : ExZ G yy cc nL ret tb R Z k n pc L st Y N := fun p l e s m args below meth c H locs ls C hH hS hL => W.widen h.1 h.2 (kk p l e s m args below meth c H locs ls C hH hS hL)
theorem x_entryN (hy : plainName yy.cls = true) (hlen : (lg_sl As).length ≤ nL) (hL : lv_args 0 As = L) (kk : ∀ tb, ExZ G yy cc nL ret tb R (xZn G R v Y' N') 0 0 0 L [] Y N) : Cn G yy cc nL ret R As v Y N Y' N' := by
  intro l hl
  refine Met.ofW (cc := cc) (maxL := nL) (ret := ret) hy rfl ?_
  intro p e s m args below meth c s₁ B hml hv
  obtain ⟨rfl, hK, hH, hC, hB⟩ := hv
  have hts := atoms_spec (ws := Cond.code yy cc nL ret :: UW) B.pre
  have hl9 := lv_entry As (n := nL) hlen
  rw [lg_entry_eq]
  rw [hL] at hl9
  exact kk _ p l e s m _ below meth c s.heap [] _ ⟨B.exec, hl, B.bytes, hml, findClass_of_methodNamed B.named, (name_of_methodNamed B.named B.method).1, B.returns, B.notSynchronized, rfl, fun w hw => hts w (List.mem_cons_of_mem _ hw), hK, hC, hB⟩ hH va_S.rf hl9
theorem x_backN {p : Program} {l : Launch} {e : Env} {s : State} {m : MethodId} {args : Array Value} {below : List Frame} {meth : Method} {c : Code} {H : Heap} {locs : List Loc} {ls : Array Slot} {a9 : Array Value}
    (hr : va_Run p l e R s m args below meth c H locs k n R'.cells R'.slots (F0 m pc ls st) rest (xQ G (.inl v) Y' N' a9) (xA G))
    (C : xCx G p l s m args meth c yy cc nL ret tb) (hS : va_S (xA G) s.heap H locs) (hL : lv_has ls nL L)
    (kk : ExZ G yy cc nL ret tb R Z (k + R'.cells) (n + R'.slots) (pc + 3) L (v.toList ++ rest) Y' N') : W p l e R s m args below meth c H locs k n (Z below args s) (F0 m pc ls st) := by
  intro T hT X
  obtain ⟨v9, st₀, t, T', Ls, h0, X', hLs, e1, e2, ⟨⟨v8, hv, hv2, hH9⟩, hF⟩, hst⟩ := hr T hT X
  cases hv
  cases hv2
  obtain ⟨k1, k2, k3⟩ := vx_keep h0 e1 hS (fun q _ h => h) (fun q h => h) hLs hF
  obtain ⟨t2, a1, b1⟩ := kk p l e s m args below meth c T'.heap (locs ++ Ls) ls C (by rw [e1]; exact hH9) k3 hL T' rfl X'
  exact ⟨t2, hst t2 a1, b1⟩
abbrev HP (zz : MethodName) (q : Nat) : Prop := zz.cls ≠ "java/lang/invoke/MethodHandle" ∧ zz.cls ≠ "java/lang/invoke/VarHandle" ∧ (parseMethodDescriptor zz.desc).map (fun d => d.parameters.length) = some q
theorem x_recv {p : Program} {l : Launch} {s : State} {m : MethodId} {args : Array Value} {meth : Method} {c : Code} {H : Heap} {b ci M : Nat} {C9 : String} {T9 : u_T} (C : xCx G p l s m args meth c yy cc nL ret tb) (hH : xH G Y N H) (hcl : vwCl[ci]? = some (C9, T9, M)) (hk : kc Y b = ci + 10) : ∃ cell : Cell, H[b]? = some cell ∧ cell.vm.isStatics = false ∧ s.vm.findClass C9 = some cell.cls := by
  obtain ⟨r, h1, cell, q1, q2, q3, q4⟩ := xAt_o (vl_lt hcl) hk (hH.1 b)
  exact ⟨cell, q1, by rw [q3]; rfl, by rw [q2]; exact (C.2.2.2.2.2.2.2.2.2.2.1.1 ci _ hcl).2.1⟩
theorem x_nV {b ci M : Nat} {T9 : u_T} (hd : decode cc pc = .ok (.invokevirtual ix, 3)) (hl : Cond.methodLink yy.cls ix zz ∈ UW) (hi : Cond.instanceMethod zz ∈ UW) (hs : Cond.selects zz.cls zz zz ∈ UW) (hn : Cond.initialized zz.cls ∈ UW) (hc : Cond.code zz cc' nL' ret' ∈ UW)
    (hp : HP zz As.length) (hR : R'.frames + 1 ≤ R.frames ∧ 8 + (nL' + 11) + R'.locals ≤ R.locals) (hst : st = As.reverse ++ .ref b :: rest) (hW : 2 * 0 + (rest.map fun v => v.category).sum ≤ 8) (hcap : k + R'.cells ≤ R.cells ∧ n + R'.slots ≤ R.slots)
    (hcl : vwCl[ci]? = some (zz.cls, T9, M)) (hk : kc Y b = ci + 10) (hC9 : Cn G zz cc' nL' ret' R' (.ref b :: As) v Y N Y' N')
    (kk : ExZ G yy cc nL ret tb R Z (k + R'.cells) (n + R'.slots) (pc + 3) L (v.toList ++ rest) Y' N') : ExZ G yy cc nL ret tb R Z k n pc L st Y N := by
  intro p l e s m args below meth c H locs ls C hH hS hL
  have hts := C.2.2.2.2.2.2.2.2.2.1
  exact x_backN (va_runV (C := zz.cls) (Ts := UW) (n := As.length) ⟨C.1, C.2.2.1, C.2.2.2.1, C.2.2.2.2.1, hts⟩ (hC9 l C.2.1) ⟨x_cw hts hl hn hc hp hR, hts _ hi, hts _ hs⟩ ⟨xPre_blind, x_recv C hH hcl hk, fun U hU hW => ⟨rfl, xPre_at C hH hS hU hW⟩⟩ rfl rfl hL.1 hst hW hd hcap) C hS hL kk
theorem x_nS (hd : decode cc pc = .ok (.invokestatic ix, 3)) (hl : Cond.methodLink yy.cls ix zz ∈ UW) (hi : Cond.static zz ∈ UW) (hn : Cond.initialized zz.cls ∈ UW) (hc : Cond.code zz cc' nL' ret' ∈ UW)
    (hp : HP zz As.length) (hR : R'.frames + 1 ≤ R.frames ∧ 8 + (nL' + 11) + R'.locals ≤ R.locals) (hst : st = As.reverse ++ rest) (hW : 2 * 0 + (rest.map fun v => v.category).sum ≤ 8) (hcap : k + R'.cells ≤ R.cells ∧ n + R'.slots ≤ R.slots)
    (hC9 : Cn G zz cc' nL' ret' R' As v Y N Y' N')
    (kk : ExZ G yy cc nL ret tb R Z (k + R'.cells) (n + R'.slots) (pc + 3) L (v.toList ++ rest) Y' N') : ExZ G yy cc nL ret tb R Z k n pc L st Y N := by
  intro p l e s m args below meth c H locs ls C hH hS hL
  have hts := C.2.2.2.2.2.2.2.2.2.1
  exact x_backN (va_runS (Ts := UW) (n := As.length) ⟨C.1, C.2.2.1, C.2.2.2.1, C.2.2.2.2.1, hts⟩ (hC9 l C.2.1) ⟨x_cw hts hl hn hc hp hR, hts _ hi⟩ ⟨xPre_blind, fun U hU hW => ⟨rfl, xPre_at C hH hS hU hW⟩⟩ rfl rfl hL.1 hst hW hd hcap) C hS hL kk
/-- the links between the law's nest mates -/
theorem x_nSN (hd : decode cc pc = .ok (.invokestatic ix, 3)) (hl : (yy.cls, ix, zz) ∈ xNl) (hi : Cond.static zz ∈ UW) (hn : Cond.initialized zz.cls ∈ UW) (hc : Cond.code zz cc' nL' ret' ∈ UW)
    (hp : HP zz As.length) (hR : R'.frames + 1 ≤ R.frames ∧ 8 + (nL' + 11) + R'.locals ≤ R.locals) (hst : st = As.reverse ++ rest) (hW : 2 * 0 + (rest.map fun v => v.category).sum ≤ 8) (hcap : k + R'.cells ≤ R.cells ∧ n + R'.slots ≤ R.slots)
    (hC9 : Cn G zz cc' nL' ret' R' As v Y N Y' N')
    (kk : ExZ G yy cc nL ret tb R Z (k + R'.cells) (n + R'.slots) (pc + 3) L (v.toList ++ rest) Y' N') : ExZ G yy cc nL ret tb R Z k n pc L st Y N := by
  intro p l e s m args below meth c H locs ls C hH hS hL
  have hts := C.2.2.2.2.2.2.2.2.2.1
  have hlk := C.2.2.2.2.2.2.2.2.2.2.2.1.nl _ hl
  exact x_backN (va_runSN (Ts := UW) (n := As.length) ⟨C.1, C.2.2.1, C.2.2.2.1, C.2.2.2.2.1, hts⟩ (hC9 l C.2.1) ⟨va_cnB As.length hts (xu_good _ _ _ _ hc) rfl rfl rfl hlk (hts _ hn) hp hR, hts _ hi, trivial⟩ ⟨xPre_blind, fun U hU hW => ⟨rfl, xPre_at C hH hS hU hW⟩⟩ rfl rfl hL.1 hst hW hd hcap) C hS hL kk
theorem x_nU {b ci M : Nat} {C9 owner : String} {T9 : u_T} {xx : MethodName} {b0 : ByteArray} {m0 : Nat} {r0 : Option FieldType} (hd : decode cc pc = .ok (.invokevirtual ix, 3)) (hl : Cond.methodLink yy.cls ix xx ∈ UW) (hsm : Cond.sameMethod xx.cls owner xx.name xx.desc ∈ UW) (hdi : Cond.instanceMethod ⟨owner, xx.name, xx.desc⟩ ∈ UW) (hdc : Cond.code ⟨owner, xx.name, xx.desc⟩ b0 m0 r0 ∈ UW) (hsel : ∀ (args : Array Value) (s : State), (∀ w ∈ UW, w.before args s = true) → (Cond.selects C9 xx zz).before args s = true) (hi : Cond.instanceMethod zz ∈ UW) (hn : Cond.initialized zz.cls ∈ UW) (hc : Cond.code zz cc' nL' ret' ∈ UW)
    (hp : owner ≠ "java/lang/invoke/MethodHandle" ∧ owner ≠ "java/lang/invoke/VarHandle" ∧ (parseMethodDescriptor xx.desc).map (fun d => d.parameters.length) = some As.length) (hR : R'.frames + 1 ≤ R.frames ∧ 8 + (nL' + 11) + R'.locals ≤ R.locals) (hst : st = As.reverse ++ .ref b :: rest) (hW : 2 * 0 + (rest.map fun v => v.category).sum ≤ 8) (hcap : k + R'.cells ≤ R.cells ∧ n + R'.slots ≤ R.slots)
    (hcl : vwCl[ci]? = some (C9, T9, M)) (hk : kc Y b = ci + 10) (hC9 : Cn G zz cc' nL' ret' R' (.ref b :: As) v Y N Y' N')
    (kk : ExZ G yy cc nL ret tb R Z (k + R'.cells) (n + R'.slots) (pc + 3) L (v.toList ++ rest) Y' N') : ExZ G yy cc nL ret tb R Z k n pc L st Y N := by
  intro p l e s m args below meth c H locs ls C hH hS hL
  have hts := C.2.2.2.2.2.2.2.2.2.1
  have s1 := hsel args s hts
  have s2 := hts _ hl
  have s3 := hts _ hsm
  have s4 := hts _ hi
  have s5 := hts _ hn
  have s6 := hts _ hc
  have s7 := hts _ hdi
  have s8 := va_Decl.of s7 (hts _ hdc)
  have cw : va_CU R s args yy.cls C9 owner ix xx zz cc' nL' ret' (Cond.code zz cc' nL' ret' :: UW) R' R'.cells R'.slots As.length := by
    refine ⟨⟨rfl, rfl, hR.1, hR.2, pay_in hts (xu_good _ _ _ _ hc), List.mem_cons_self⟩, s6, ?_, ⟨hp.1, hp.2.1⟩, fun sig h => ?_, ?_, ?_, ?_, ?_, ?_⟩
    all_goals first
      | exact s1
      | exact s2
      | exact s3
      | exact s4
      | exact s5
      | exact s7
      | exact s8
      | (have h2 := hp.2.2
         rw [h] at h2
         exact (Option.some.inj h2).symm)
  exact x_backN (va_runU (C := C9) (Ts := UW) (n := As.length) ⟨C.1, C.2.2.1, C.2.2.2.1, C.2.2.2.2.1, hts⟩ (hC9 l C.2.1) cw ⟨xPre_blind, x_recv C hH hcl hk, fun U hU hW => ⟨rfl, xPre_at C hH hS hU hW⟩⟩ rfl rfl hL.1 hst hW hd hcap) C hS hL kk
theorem selects_ni {C9 : String} {x y : MethodName} {args : Array Value} {s : State} (h : (Cond.selects C9 x y).before args s = true) : ∃ m, s.methodNamed? y = some m ∧ (s.vm.classes[m.cls]?).any (fun k => !k.isInterface) = true := by
  unfold Cond.before at h
  simp only [Cond.holds, Cond.value] at h
  cases hc : s.vm.findClass C9 with
  | none => simp [hc] at h
  | some c =>
    cases hf : s.methodFound? x.cls x.name x.desc with
    | none => simp [hc, hf] at h
    | some r =>
      cases hm : s.methodNamed? y with
      | none => simp [hc, hf, hm] at h
      | some m =>
        refine ⟨m, rfl, ?_⟩
        cases hs : selectMethod {} s.vm c r with
        | method m' =>
          simp only [hc, hf, hm, hs] at h
          have h2 : (decide (m' = m) && (s.vm.classes[m.cls]?).any (fun k => !k.isInterface)) = true := by simpa using h
          exact (Bool.and_eq_true_iff.mp h2).2
        | _ => simp [hc, hf, hm, hs] at h
/-- a private method of a superclass, called on an object of the class -/
theorem sel_priv {C9 : String} {M : Nat} {y x1 y1 : MethodName} (hy : y.cls ≠ "java/lang/invoke/MethodHandle" ∧ y.cls ≠ "java/lang/invoke/VarHandle") (h1 : Cond.instantiable C9 M ∈ UW) (h2 : Cond.privateMethod y ∈ UW) (h3 : Cond.instanceMethod y ∈ UW) (h4 : Cond.selects C9 x1 y1 ∈ UW) (h5 : y1.cls = y.cls) (args : Array Value) (s : State) (hts : ∀ w ∈ UW, w.before args s = true) : (Cond.selects C9 y y).before args s = true := by
  obtain ⟨c, k, hc, hk, -, hniab, -, -⟩ := Cond.instantiable_spec (hts _ h1)
  obtain ⟨mk, methM, hnamed, hmethM, -, -⟩ := Cond.instanceMethod_spec (hts _ h3)
  have hfound : s.methodFound? y.cls y.name y.desc = some mk := State.methodFound?_of_named hnamed hy
  have hsel : selectMethod {} s.vm c mk = .method mk := selectMethod_private hmethM (Cond.privateMethod_at (hts _ h2) mk methM hnamed hmethM)
  obtain ⟨m1, n1, n2⟩ := selects_ni (hts _ h4)
  have e1 : m1.cls = mk.cls := by
    have a1 := findClass_of_methodNamed n1
    have a2 := findClass_of_methodNamed hnamed
    rw [h5] at a1
    exact Option.some.inj (a1.symm.trans a2)
  rw [e1] at n2
  simp only [Cond.before, Cond.holds, Cond.value, hc, hfound, hnamed, hsel, n2]
  simp
theorem x_nSU {b ci M : Nat} {C9 : String} {T9 : u_T} (hd : decode cc pc = .ok (.invokespecial ix, 3)) (hT : GoodIn UW (va_wsSU yy.cls ix zz (Cond.code zz cc' nL' ret' :: UW)))
    (hp : HP zz As.length) (hp2 : zz.name ≠ "<init>") (hR : R'.frames + 1 ≤ R.frames ∧ 8 + (nL' + 11) + R'.locals ≤ R.locals) (hst : st = As.reverse ++ .ref b :: rest) (hW : 2 * 0 + (rest.map fun v => v.category).sum ≤ 8) (hcap : k + R'.cells ≤ R.cells ∧ n + R'.slots ≤ R.slots)
    (hcl : vwCl[ci]? = some (C9, T9, M)) (hk : kc Y b = ci + 10) (hC9 : Cn G zz cc' nL' ret' R' (.ref b :: As) v Y N Y' N')
    (kk : ExZ G yy cc nL ret tb R Z (k + R'.cells) (n + R'.slots) (pc + 3) L (v.toList ++ rest) Y' N') : ExZ G yy cc nL ret tb R Z k n pc L st Y N := by
  intro p l e s m args below meth c H locs ls C hH hS hL
  have hts := C.2.2.2.2.2.2.2.2.2.1
  have hat9 : ClassAt s C9 (G.1.1 ci) := (C.2.2.2.2.2.2.2.2.2.2.1.1 ci _ hcl).2
  exact x_backN (va_runSU (C := C9) (Ts := UW) (n := As.length) hat9 ⟨C.1, C.2.2.1, C.2.2.2.1, C.2.2.2.2.1, hts⟩ (hC9 l C.2.1) (va_cwSU As.length hts hT rfl rfl rfl ⟨hp2, hp.2.2⟩ hR) ⟨xPre_blind, x_recv C hH hcl hk, fun U hU hW => ⟨rfl, xPre_at C hH hS hU hW⟩⟩ rfl rfl hL.1 hst hW hd hcap) C hS hL kk
end XMO
