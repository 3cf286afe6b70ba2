/-! THE LAW'S OWN METHODS: rules for tables of handlers -/
theorem xu_goodW (y : MethodName) (cc : ByteArray) (n : Nat) (r : Option FieldType) (hh : List (Nat × Nat × Nat × Nat)) (h : Cond.codeWith y cc n r hh ∈ UW) : GoodIn UW (Cond.codeWith y cc n r hh :: UW) := fun w hw => (List.mem_cons.mp hw).elim (fun e => by subst e; exact ⟨h, good_of_word (List.mem_filter.mp h).2⟩) (fun h => ⟨h, good_of_word (List.mem_filter.mp h).2⟩)
def ClW (G : XG) (yy : MethodName) (cc : ByteArray) (nL : Nat) (ret : Option FieldType) (hh : List (Nat × Nat × Nat × Nat)) (R : Room) (As : List Value) (o : Option Value ⊕ String) (Y : XY) (N : XN) (Yf : XY) (Nf : XN) : Prop :=
  ∀ l : Launch, l.stackTraces = false → vx_Met l yy (Cond.codeWith yy cc nL ret hh :: UW) R (va_Pc As (xPre G Y N)) (xQ G o Yf Nf) (xX G o Yf Nf) R.cells R.slots (xA G)
section XWR
variable {G : XG} {yy zz : MethodName} {cc cc' : ByteArray} {nL nL' : Nat} {ret ret' : Option FieldType} {hh : List (Nat × Nat × Nat × Nat)} {tb : List ExceptionTableEntry} {R R' : Room} {Z : List Frame → Array Value → State → State → Prop} {o : Option Value ⊕ String} {Yf Y Y' : XY} {Nf N N' : XN} {k n pc : Nat} {L : List (Nat × Value)} {st rest As : List Value} {v : Option Value} {ix : Nat}
theorem x_entryW (hy : plainName yy.cls = true) (hlen : (lg_sl As).length ≤ nL) (hL : lv_args 0 As = L) (kk : ExZ G yy cc nL ret (tableOf hh) R (xZ G R o Yf Nf) 0 0 0 L [] Y N) : ClW G yy cc nL ret hh R As o Y N Yf Nf := by
  intro l hl
  refine vx_ofWH (cc := cc) (maxL := nL) (ret := ret) (hh := hh) hy rfl ?_
  intro p e s m args below meth c s₁ B hml hv
  obtain ⟨rfl, hK, hH, hC, hB⟩ := hv
  have hts := atoms_spec (ws := Cond.codeWith yy cc nL ret hh :: UW) B.pre
  have hl9 := lv_entry As (n := nL) hlen
  rw [lg_entry_eq]
  rw [hL] at hl9
  exact kk p l e s m _ below meth c s.heap [] _ ⟨B.exec, hl, B.bytes, hml, findClass_of_methodNamed B.named, (name_of_methodNamed B.named B.method).1, B.returns, B.notSynchronized, vx_table (x := yy) B (hts _ List.mem_cons_self), fun w hw => hts w (List.mem_cons_of_mem _ hw), hK, hC, hB⟩ hH va_S.rf hl9
/-- a virtual call that throws E, caught here by the row x of the table -/
theorem x_cvX {b ci M : Nat} {T9 : u_T} {E : String} {x : ExceptionTableEntry} (pre suf : List ExceptionTableEntry) (hd : decode cc pc = .ok (.invokevirtual ix, 3)) (hl : Cond.methodLink yy.cls ix zz ∈ UW) (hi : Cond.instanceMethod zz ∈ UW) (hs : Cond.selects zz.cls zz zz ∈ UW) (hn : Cond.initialized zz.cls ∈ UW) (hc : Cond.code zz cc' nL' ret' ∈ UW)
    (hp : zz.cls ≠ "java/lang/invoke/MethodHandle" ∧ zz.cls ≠ "java/lang/invoke/VarHandle" ∧ (parseMethodDescriptor zz.desc).map (fun d => d.parameters.length) = some As.length) (hR : R'.frames + 1 ≤ R.frames ∧ 8 + (nL' + 11) + R'.locals ≤ R.locals) (hst : st = As.reverse ++ .ref b :: rest) (hW : 2 * 0 + (rest.map fun v => v.category).sum ≤ 8) (hcap : k + R'.cells ≤ R.cells ∧ n + R'.slots ≤ R.slots)
    (hcl : vwCl[ci]? = some (zz.cls, T9, M)) (hk : kc Y b = ci + 10) (hC9 : Cl G zz cc' nL' ret' R' (.ref b :: As) (.inr E) Y N Y' N') (hsplit : tb = pre ++ x :: suf)
    (hpass : ∀ z ∈ pre, covers z pc = false ∨ (z.catchType ≠ 0 ∧ ∃ nm : String, Cond.classLink yy.cls z.catchType nm ∈ UW ∧ (E, nm) ∈ xNp)) (hx : covers x pc = true) (h0 : x.catchType ≠ 0) (hlink : Cond.classLink yy.cls x.catchType E ∈ UW) (hE : E ∈ xEx)
    (kk : ∀ q9 : Nat, ExZ G yy cc nL ret tb R Z (k + R'.cells) (n + R'.slots) x.handlerPc L [.ref q9] Y' N') : ExZ G yy cc nL ret tb R Z k n pc L st Y N := by
  intro p l e s m args below meth c H locs ls C hH hS hL
  have hts := C.2.2.2.2.2.2.2.2.2.1
  have hK := C.2.2.2.2.2.2.2.2.2.2.1
  obtain ⟨-, -, -, -, -, -, -, -, h9, -, -, h12, -⟩ := C.2.2.2.2.2.2.2.2.2.2.2.1
  have htb := C.2.2.2.2.2.2.2.2.1
  have hown := C.2.2.2.2.1
  have run := vx_runV (e := e) (below := below) (meth := meth) (C := zz.cls) (Ts := UW) (n := As.length) (locs := locs) (cells := k) (slots := n) (g := F0 m pc ls st) (rest := rest) (m := m) ⟨C.1, C.2.2.1, C.2.2.2.1, hown, hts⟩ (hC9 l C.2.1) ⟨x_cw hts hl hn hc hp hR, hts _ hi, hts _ hs⟩ ⟨xPre_blind, (by
    obtain ⟨r, h1, cell, q1, q2, q3, q4⟩ := xAt_o (vl_lt hcl) hk (hH.1 b)
    exact ⟨cell, q1, by rw [q3]; rfl, by rw [q2]; exact (hK.1 ci _ hcl).2.1⟩), fun U hU hW => ⟨rfl, xPre_at C hH hS hU hW⟩⟩ rfl rfl hL.1 hst hW hd hcap
  intro T hT X
  rcases run T hT X with ⟨v9, st₀, t, T', Ls, h0', X', hLs, e1, e2, ⟨⟨v8, hv, hv2, hH9⟩, hF⟩, hst'⟩ | ⟨q, st₀, t, T', Ls, E9, ce, h0', X', hLs, e1, e2, ⟨hE9, hH9, hF⟩, hce, hcv, hcl9, hst'⟩
  · cases hv
  · cases hE9
    obtain ⟨k1, k2, k3⟩ := vx_keep h0' e1 hS (fun q _ h => h) (fun q h => h) hLs hF
    obtain ⟨t2, a1, b1⟩ := vx_catch (own := yy.cls) (name := E) (q := q) (rest := rest) (pc := pc) (ls := ls) hown pre x suf (htb.trans hsplit) (fun z hz => by
      rcases hpass z hz with h | ⟨h, nm, g1, g2⟩
      · exact Or.inl h
      · exact Or.inr ⟨h, nm, hts _ g1, h12 _ g2⟩) hx h0 (hts _ hlink) (va_Nw.use rfl (h9 _ hE)) (by rw [e1]; exact hce) hcv hcl9 (kk q p l e s m args below meth c T'.heap (locs ++ Ls) ls C (by rw [e1]; exact hH9) k3 hL) T' rfl X'
    exact ⟨t2, hst'.trans a1, b1⟩
theorem x_cwW {s : State} {args : Array Value} (hts : ∀ w ∈ UW, w.before args s = true) (hl : Cond.methodLink yy.cls ix zz ∈ UW) (hi : Cond.static zz ∈ UW) (hn : Cond.initialized zz.cls ∈ UW) (hc : Cond.codeWith zz cc' nL' ret' hh ∈ UW) {q : Nat}
    (hp : zz.cls ≠ "java/lang/invoke/MethodHandle" ∧ zz.cls ≠ "java/lang/invoke/VarHandle" ∧ (parseMethodDescriptor zz.desc).map (fun d => d.parameters.length) = some q) (hR : R'.frames + 1 ≤ R.frames ∧ 8 + (nL' + 11) + R'.locals ≤ R.locals) :
    vx_CSW R s args yy.cls ix zz cc' nL' ret' hh (Cond.codeWith zz cc' nL' ret' hh :: UW) R' R'.cells R'.slots q :=
  ⟨⟨rfl, rfl, hR.1, hR.2, pay_in hts (xu_goodW _ _ _ _ _ hc), List.mem_cons_self⟩, hts _ hc, hts _ hn, ⟨hp.1, hp.2.1⟩, fun sig h => by
    have h2 := hp.2.2
    rw [h] at h2
    exact (Option.some.inj h2).symm, hts _ hl, hts _ hi⟩
theorem x_csW (hd : decode cc pc = .ok (.invokestatic ix, 3)) (hl : Cond.methodLink yy.cls ix zz ∈ UW) (hi : Cond.static zz ∈ UW) (hn : Cond.initialized zz.cls ∈ UW) (hc : Cond.codeWith zz cc' nL' ret' hh ∈ UW)
    (hp : zz.cls ≠ "java/lang/invoke/MethodHandle" ∧ zz.cls ≠ "java/lang/invoke/VarHandle" ∧ (parseMethodDescriptor zz.desc).map (fun d => d.parameters.length) = some As.length) (hR : R'.frames + 1 ≤ R.frames ∧ 8 + (nL' + 11) + R'.locals ≤ R.locals) (hst : st = As.reverse ++ rest) (hW : 2 * 0 + (rest.map fun v => v.category).sum ≤ 8) (hcap : k + R'.cells ≤ R.cells ∧ n + R'.slots ≤ R.slots)
    (hC9 : ClW G zz cc' nL' ret' hh R' As (.inl v) Y N Y' N')
    (kk : ExZ G yy cc nL ret tb R Z (k + R'.cells) (n + R'.slots) (pc + 3) L (v.toList ++ rest) Y' N') : ExZ G yy cc nL ret tb R Z k n pc L st Y N := by
  intro p l e s m args below meth c H locs ls C hH hS hL
  have hts := C.2.2.2.2.2.2.2.2.2.1
  exact x_back (vx_runSX (Ts := UW) (n := As.length) ⟨C.1, C.2.2.1, C.2.2.2.1, C.2.2.2.2.1, hts⟩ (hC9 l C.2.1) (x_cwW hts hl hi hn hc hp hR) ⟨xPre_blind, fun U hU hW => ⟨rfl, xPre_at C hH hS hU hW⟩⟩ rfl rfl hL.1 hst hW hd hcap) C hS hL kk
/-- the script's length, its numbers -/
theorem x_scrlen (hd : decode cc pc = .ok (.arraylength, 1)) (kk : ExZ G yy cc nL ret tb R Z k n (pc + 1) L (.int (Int32.ofNat (xSl G)) :: st) Y N) : ExZ G yy cc nL ret tb R Z k n pc L (.ref (xSb G) :: st) Y N := by
  intro p l e s m args below meth c H locs ls C hH hS hL
  obtain ⟨-, -, -, -, -, -, -, -, -, ⟨hX, hA⟩, -⟩ := C.2.2.2.2.2.2.2.2.2.2.2.1
  exact va_slen C.1 C.2.2.1 hX (by obtain ⟨scr, h, -⟩ := hX; exact (Array.getElem?_eq_some_iff.mp h).1) hA hS hd (kk p l e s m args below meth c H locs ls C hH hS hL)
theorem x_scrld {i : Int32} (hin : vp_in i (xSl G)) {j9 : Nat} (hj9 : i.toNatClampNeg = j9) (hd : decode cc pc = .ok (.iaload, 1)) (kk : ExZ G yy cc nL ret tb R Z k n (pc + 1) L (.int (xSx G j9) :: st) Y N) : ExZ G yy cc nL ret tb R Z k n pc L (.int i :: .ref (xSb G) :: st) Y N := by
  subst hj9
  intro p l e s m args below meth c H locs ls C hH hS hL
  obtain ⟨-, -, -, -, -, -, -, -, -, ⟨hX, hA⟩, -⟩ := C.2.2.2.2.2.2.2.2.2.2.2.1
  exact va_sld C.1 C.2.2.1 hX (by obtain ⟨scr, h, -⟩ := hX; exact (Array.getElem?_eq_some_iff.mp h).1) hA hS hin hd (kk p l e s m args below meth c H locs ls C hH hS hL)
theorem x_widen {k' n' : Nat} (h1 : k ≤ k') (h2 : n ≤ n') (kk : ExZ G yy cc nL ret tb R Z k' n' pc L st Y N) : ExZ G yy cc nL ret tb R Z k n pc L st Y N := fun p l e s m args below meth c H locs ls C hH hS hL => W.widen h1 h2 (kk p l e s m args below meth c H locs ls C hH hS hL)
end XWR
theorem vp01 : vp_in 0 1 := by unfold vp_in; decide
theorem kl9_L_40 : Cond.classLink RL 40 "java/lang/IllegalArgumentException" ∈ UW := xu_mem (List.mem_of_getElem? (i := 535) (by decide +kernel)) (by decide +kernel)
theorem kl9_L_50 : Cond.classLink RL 50 "java/lang/IndexOutOfBoundsException" ∈ UW := xu_mem (List.mem_of_getElem? (i := 801) (by decide +kernel)) (by decide +kernel)
theorem kl9_L_59 : Cond.classLink RL 59 "java/util/NoSuchElementException" ∈ UW := xu_mem (List.mem_of_getElem? (i := 1417) (by decide +kernel)) (by decide +kernel)
theorem kl9_L_86 : Cond.classLink RL 86 "java/lang/IllegalStateException" ∈ UW := xu_mem (List.mem_of_getElem? (i := 963) (by decide +kernel)) (by decide +kernel)
theorem wc_L_load : Cond.codeWith yL_load cL_load 3 (some .int) [(0, 5, 6, 40)] ∈ UW := xu_mem (List.mem_of_getElem? (i := 534) (by decide +kernel)) (by decide +kernel)
theorem wt_L_load : Cond.static yL_load ∈ UW := xu_mem (List.mem_of_getElem? (i := 533) (by decide +kernel)) (by decide +kernel)
theorem wc_L_calm : Cond.codeWith yL_calm cL_calm 3 (some .int) [(0, 5, 6, 50)] ∈ UW := xu_mem (List.mem_of_getElem? (i := 800) (by decide +kernel)) (by decide +kernel)
theorem wt_L_calm : Cond.static yL_calm ∈ UW := xu_mem (List.mem_of_getElem? (i := 799) (by decide +kernel)) (by decide +kernel)
theorem wc_L_endsAt : Cond.codeWith yL_endsAt cL_endsAt 3 (some .int) [(0, 5, 6, 50)] ∈ UW := xu_mem (List.mem_of_getElem? (i := 833) (by decide +kernel)) (by decide +kernel)
theorem wt_L_endsAt : Cond.static yL_endsAt ∈ UW := xu_mem (List.mem_of_getElem? (i := 832) (by decide +kernel)) (by decide +kernel)
theorem wc_L_bankruptIn : Cond.codeWith yL_bankruptIn cL_bankruptIn 3 (some .int) [(0, 5, 6, 50)] ∈ UW := xu_mem (List.mem_of_getElem? (i := 905) (by decide +kernel)) (by decide +kernel)
theorem wt_L_bankruptIn : Cond.static yL_bankruptIn ∈ UW := xu_mem (List.mem_of_getElem? (i := 904) (by decide +kernel)) (by decide +kernel)
theorem wc_L_finesIn : Cond.codeWith yL_finesIn cL_finesIn 3 (some .int) [(0, 5, 6, 40)] ∈ UW := xu_mem (List.mem_of_getElem? (i := 914) (by decide +kernel)) (by decide +kernel)
theorem wt_L_finesIn : Cond.static yL_finesIn ∈ UW := xu_mem (List.mem_of_getElem? (i := 913) (by decide +kernel)) (by decide +kernel)
theorem wc_L_advise : Cond.codeWith yL_advise cL_advise 3 (some .int) [(0, 5, 6, 50)] ∈ UW := xu_mem (List.mem_of_getElem? (i := 931) (by decide +kernel)) (by decide +kernel)
theorem wt_L_advise : Cond.static yL_advise ∈ UW := xu_mem (List.mem_of_getElem? (i := 930) (by decide +kernel)) (by decide +kernel)
theorem wc_L_pass : Cond.codeWith yL_pass cL_pass 3 (some .int) [(0, 5, 6, 40)] ∈ UW := xu_mem (List.mem_of_getElem? (i := 951) (by decide +kernel)) (by decide +kernel)
theorem wt_L_pass : Cond.static yL_pass ∈ UW := xu_mem (List.mem_of_getElem? (i := 950) (by decide +kernel)) (by decide +kernel)
theorem wc_L_raise : Cond.codeWith yL_raise cL_raise 4 (some .int) [(0, 6, 7, 50), (0, 6, 11, 40), (0, 6, 15, 86)] ∈ UW := xu_mem (List.mem_of_getElem? (i := 962) (by decide +kernel)) (by decide +kernel)
theorem wt_L_raise : Cond.static yL_raise ∈ UW := xu_mem (List.mem_of_getElem? (i := 961) (by decide +kernel)) (by decide +kernel)
theorem wc_L_lease : Cond.codeWith yL_lease cL_lease 4 (some .int) [(0, 6, 7, 50)] ∈ UW := xu_mem (List.mem_of_getElem? (i := 990) (by decide +kernel)) (by decide +kernel)
theorem wt_L_lease : Cond.static yL_lease ∈ UW := xu_mem (List.mem_of_getElem? (i := 989) (by decide +kernel)) (by decide +kernel)
theorem wc_L_release : Cond.codeWith yL_release cL_release 4 (some .int) [(0, 6, 7, 50)] ∈ UW := xu_mem (List.mem_of_getElem? (i := 998) (by decide +kernel)) (by decide +kernel)
theorem wt_L_release : Cond.static yL_release ∈ UW := xu_mem (List.mem_of_getElem? (i := 997) (by decide +kernel)) (by decide +kernel)
theorem wc_L_fund : Cond.codeWith yL_fund cL_fund 4 (some .int) [(0, 6, 7, 50), (0, 6, 11, 40)] ∈ UW := xu_mem (List.mem_of_getElem? (i := 1010) (by decide +kernel)) (by decide +kernel)
theorem wt_L_fund : Cond.static yL_fund ∈ UW := xu_mem (List.mem_of_getElem? (i := 1009) (by decide +kernel)) (by decide +kernel)
theorem wc_L_state : Cond.codeWith yL_state cL_state 3 (some .int) [(0, 5, 6, 40)] ∈ UW := xu_mem (List.mem_of_getElem? (i := 1401) (by decide +kernel)) (by decide +kernel)
theorem wt_L_state : Cond.static yL_state ∈ UW := xu_mem (List.mem_of_getElem? (i := 1400) (by decide +kernel)) (by decide +kernel)
theorem wc_L_handler : Cond.codeWith yL_handler cL_handler 4 (some .int) [(0, 6, 7, 50), (0, 6, 11, 40)] ∈ UW := xu_mem (List.mem_of_getElem? (i := 1406) (by decide +kernel)) (by decide +kernel)
theorem wt_L_handler : Cond.static yL_handler ∈ UW := xu_mem (List.mem_of_getElem? (i := 1405) (by decide +kernel)) (by decide +kernel)
theorem wc_L_line : Cond.codeWith yL_line cL_line 4 (some .int) [(0, 6, 7, 50), (0, 6, 11, 40)] ∈ UW := xu_mem (List.mem_of_getElem? (i := 1411) (by decide +kernel)) (by decide +kernel)
theorem wt_L_line : Cond.static yL_line ∈ UW := xu_mem (List.mem_of_getElem? (i := 1410) (by decide +kernel)) (by decide +kernel)
theorem wc_L_tenant : Cond.codeWith yL_tenant cL_tenant 4 (some .int) [(0, 6, 7, 50), (0, 6, 11, 59)] ∈ UW := xu_mem (List.mem_of_getElem? (i := 1416) (by decide +kernel)) (by decide +kernel)
theorem wt_L_tenant : Cond.static yL_tenant ∈ UW := xu_mem (List.mem_of_getElem? (i := 1415) (by decide +kernel)) (by decide +kernel)
theorem wc_L_request : Cond.codeWith yL_request cL_request 4 (some .int) [(0, 6, 7, 50), (0, 6, 11, 40)] ∈ UW := xu_mem (List.mem_of_getElem? (i := 1422) (by decide +kernel)) (by decide +kernel)
theorem wt_L_request : Cond.static yL_request ∈ UW := xu_mem (List.mem_of_getElem? (i := 1421) (by decide +kernel)) (by decide +kernel)
