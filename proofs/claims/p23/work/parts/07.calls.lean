section XCL
variable {G : XG} {yy zz : MethodName} {cc cc' : ByteArray} {nL nL' : Nat} {ret ret' : Option FieldType} {tb : List ExceptionTableEntry} {R R' : Room} {Z : List Frame → Array Value → State → State → Prop} {o : Option Value ⊕ String} {Yf Y Y' : XY} {Nf N N' : XN} {k n pc : Nat} {L : List (Nat × Value)} {st rest As : List Value} {v : Option Value} {ix : Nat}
/-- the words of a call -/
theorem x_cw {s : State} {args : Array Value} (hts : ∀ w ∈ UW, w.before args s = true) (hl : Cond.methodLink yy.cls ix zz ∈ UW) (hn : Cond.initialized zz.cls ∈ UW) (hc : Cond.code zz cc' nL' ret' ∈ UW) {q : Nat}
    (hp : zz.cls ≠ "java/lang/invoke/MethodHandle" ∧ zz.cls ≠ "java/lang/invoke/VarHandle" ∧ (parseMethodDescriptor zz.desc).map (fun d => d.parameters.length) = some q) (hR : R'.frames + 1 ≤ R.frames ∧ 8 + (nL' + 11) + R'.locals ≤ R.locals) :
    CallB R s args yy.cls ix zz cc' nL' ret' (Cond.code zz cc' nL' ret' :: UW) R' R'.cells R'.slots q :=
  callB_of q hts (xu_good _ _ _ _ hc) rfl rfl rfl (hts _ hn) (hts _ hl) hp hR
/-- behind a call that returns -/
theorem x_back {p : Program} {l : Launch} {e : Env} {s : State} {m : MethodId} {args : Array Value} {below : List Frame} {meth : Method} {c : Code} {H : Heap} {locs : List Loc} {ls : Array Slot} {a9 : Array Value}
    (hr : vx_Run p l e R s m args below meth c H locs k n R'.cells R'.slots (F0 m pc ls st) rest (xQ G (.inl v) Y' N' a9) (xX G (.inl v) Y' N') (xA G))
    (C : xCx G p l s m args meth c yy cc nL ret tb) (hS : va_S (xA G) s.heap H locs) (hL : lv_has ls nL L)
    (kk : ExZ G yy cc nL ret tb R Z (k + R'.cells) (n + R'.slots) (pc + 3) L (v.toList ++ rest) Y' N') : W p l e R s m args below meth c H locs k n (Z below args s) (F0 m pc ls st) := by
  intro T hT X
  rcases hr T hT X with ⟨v9, st₀, t, T', Ls, h0, X', hLs, e1, e2, ⟨⟨v8, hv, hv2, hH9⟩, hF⟩, hst⟩ | ⟨q, st₀, t, T', Ls, E, ce, h0, X', hLs, e1, e2, ⟨hE, -, -⟩, -⟩
  · cases hv
    cases hv2
    obtain ⟨k1, k2, k3⟩ := vx_keep h0 e1 hS (fun q _ h => h) (fun q h => h) hLs hF
    obtain ⟨t2, a1, b1⟩ := kk p l e s m args below meth c T'.heap (locs ++ Ls) ls C (by rw [e1]; exact hH9) k3 hL T' rfl X'
    exact ⟨t2, hst t2 a1, b1⟩
  · cases hE
theorem xPre_at {p : Program} {l : Launch} {s U : State} {m : MethodId} {args : Array Value} {meth : Method} {c : Code} {H : Heap} {locs : List Loc} (C : xCx G p l s m args meth c yy cc nL ret tb) (hH : xH G Y N H) (hS : va_S (xA G) s.heap H locs) (hU : U.heap = H) (hW : s.WarmedH U.vm) : xPre G Y N U := by
  obtain ⟨-, -, -, -, -, -, -, -, -, -, hK, hC, hB⟩ := C
  exact ⟨va_K.moved hW.alike hK, by rw [hU]; exact hH, hC.to hS hW hU, by rw [hU]; exact Nat.le_trans hB hS.1⟩
theorem x_callV {b ci M : Nat} {T9 : u_T} (hd : decode cc pc = .ok (.invokevirtual ix, 3)) (hl : Cond.methodLink yy.cls ix zz ∈ UW) (hi : Cond.instanceMethod zz ∈ UW) (hs : Cond.selects zz.cls zz zz ∈ UW) (hn : Cond.initialized zz.cls ∈ UW) (hc : Cond.code zz cc' nL' ret' ∈ UW)
    (hp : zz.cls ≠ "java/lang/invoke/MethodHandle" ∧ zz.cls ≠ "java/lang/invoke/VarHandle" ∧ (parseMethodDescriptor zz.desc).map (fun d => d.parameters.length) = some As.length) (hR : R'.frames + 1 ≤ R.frames ∧ 8 + (nL' + 11) + R'.locals ≤ R.locals) (hst : st = As.reverse ++ .ref b :: rest) (hW : 2 * 0 + (rest.map fun v => v.category).sum ≤ 8) (hcap : k + R'.cells ≤ R.cells ∧ n + R'.slots ≤ R.slots)
    (hcl : vwCl[ci]? = some (zz.cls, T9, M)) (hk : kc Y b = ci + 10) (hC9 : Cl G zz cc' nL' ret' R' (.ref b :: As) (.inl v) Y N Y' N')
    (kk : ExZ G yy cc nL ret tb R Z (k + R'.cells) (n + R'.slots) (pc + 3) L (v.toList ++ rest) Y' N') : ExZ G yy cc nL ret tb R Z k n pc L st Y N := by
  intro p l e s m args below meth c H locs ls C hH hS hL
  have hts := C.2.2.2.2.2.2.2.2.2.1
  have hK := C.2.2.2.2.2.2.2.2.2.2.1
  refine x_back (vx_runV (C := zz.cls) (Ts := UW) (n := As.length) ⟨C.1, C.2.2.1, C.2.2.2.1, C.2.2.2.2.1, hts⟩ (hC9 l C.2.1) ⟨x_cw hts hl hn hc hp hR, hts _ hi, hts _ hs⟩ ⟨xPre_blind, ?_, fun U hU hW => ⟨rfl, xPre_at C hH hS hU hW⟩⟩ rfl rfl hL.1 hst hW hd hcap) C hS hL kk
  obtain ⟨r, h1, cell, q1, q2, q3, q4⟩ := xAt_o (vl_lt hcl) hk (hH.1 b)
  exact ⟨cell, q1, by rw [q3]; rfl, by rw [q2]; exact (hK.1 ci _ hcl).2.1⟩
theorem x_callS (hd : decode cc pc = .ok (.invokestatic ix, 3)) (hl : Cond.methodLink yy.cls ix zz ∈ UW) (hi : Cond.static zz ∈ UW) (hn : Cond.initialized zz.cls ∈ UW) (hc : Cond.code zz cc' nL' ret' ∈ UW)
    (hp : zz.cls ≠ "java/lang/invoke/MethodHandle" ∧ zz.cls ≠ "java/lang/invoke/VarHandle" ∧ (parseMethodDescriptor zz.desc).map (fun d => d.parameters.length) = some As.length) (hR : R'.frames + 1 ≤ R.frames ∧ 8 + (nL' + 11) + R'.locals ≤ R.locals) (hst : st = As.reverse ++ rest) (hW : 2 * 0 + (rest.map fun v => v.category).sum ≤ 8) (hcap : k + R'.cells ≤ R.cells ∧ n + R'.slots ≤ R.slots)
    (hC9 : Cl G zz cc' nL' ret' R' As (.inl v) Y N Y' N')
    (kk : ExZ G yy cc nL ret tb R Z (k + R'.cells) (n + R'.slots) (pc + 3) L (v.toList ++ rest) Y' N') : ExZ G yy cc nL ret tb R Z k n pc L st Y N := by
  intro p l e s m args below meth c H locs ls C hH hS hL
  have hts := C.2.2.2.2.2.2.2.2.2.1
  exact x_back (vx_runS (Ts := UW) (n := As.length) ⟨C.1, C.2.2.1, C.2.2.2.1, C.2.2.2.2.1, hts⟩ (hC9 l C.2.1) ⟨x_cw hts hl hn hc hp hR, hts _ hi⟩ ⟨xPre_blind, fun U hU hW => ⟨rfl, xPre_at C hH hS hU hW⟩⟩ rfl rfl hL.1 hst hW hd hcap) C hS hL kk
/-- a method's contract out of its walk -/
theorem x_entry (hy : plainName yy.cls = true) (hlen : (lg_sl As).length ≤ nL) (hL : lv_args 0 As = L) (kk : Ex G yy cc nL ret R o Yf Nf 0 0 0 L [] Y N) : Cl G yy cc nL ret R As o Y N Yf Nf := by
  intro l hl
  refine vx_ofW (cc := cc) (maxL := nL) (ret := ret) hy rfl ?_
  intro p e s m args below meth c s₁ B hml het hv
  obtain ⟨rfl, hK, hH, hC, hB⟩ := hv
  have hts := atoms_spec (ws := Cond.code yy cc nL ret :: UW) B.pre
  have hl9 := lv_entry As (n := nL) hlen
  rw [lg_entry_eq]
  rw [hL] at hl9
  exact kk p l e s m _ below meth c s.heap [] _ ⟨B.exec, hl, B.bytes, hml, findClass_of_methodNamed B.named, (name_of_methodNamed B.named B.method).1, B.returns, B.notSynchronized, List.eq_nil_iff_forall_not_mem.mpr (fun x hx => het x hx), fun w hw => hts w (List.mem_cons_of_mem _ hw), hK, hC, hB⟩ hH va_S.rf hl9
end XCL
/-- case by case down a printed function -/
theorem x_if {α : Type} {c : Prop} [Decidable c] {A B o : α} (h : (if c then A else B) = o) : (c ∧ A = o) ∨ (¬ c ∧ B = o) := by
  by_cases hc : c
  · exact Or.inl ⟨hc, (if_pos hc).symm.trans h⟩
  · exact Or.inr ⟨hc, (if_neg hc).symm.trans h⟩
theorem x_ck {α : Type} {c : Prop} [Decidable c] {A : Option α} {o : α} (h : (if c then A else none) = some o) : c ∧ A = some o := by
  by_cases hc : c
  · exact ⟨hc, (if_pos hc).symm.trans h⟩
  · rw [if_neg hc] at h
    cases h
theorem x_cn {α : Type} {c : Prop} [Decidable c] {A : Option α} {o : α} (h : (if c then none else A) = some o) : ¬ c ∧ A = some o := by
  by_cases hc : c
  · rw [if_pos hc] at h
    cases h
  · exact ⟨hc, (if_neg hc).symm.trans h⟩
theorem x_bd {α β : Type} {a : Option α} {f : α → Option β} {o : β} (h : a.bind f = some o) : ∃ x, a = some x ∧ f x = some o := Option.bind_eq_some_iff.mp h
theorem x_so {α : Type} {a b : α} (h : some a = some b) : a = b := Option.some.inj h
/-- loops end far below this -/
def FU : Nat := 4096
def xR (d c s : Nat) : Room := { frames := d, cells := c, slots := s, locals := 42 * d }
section XCM
variable {G : XG} {yy zz : MethodName} {cc cc' : ByteArray} {nL nL' : Nat} {ret ret' : Option FieldType} {tb : List ExceptionTableEntry} {Z : List Frame → Array Value → State → State → Prop} {Y Y' : XY} {N N' : XN} {k n pc : Nat} {L : List (Nat × Value)} {st rest As : List Value} {v : Option Value} {ix d d' c0 s0 : Nat}
theorem x_cv {b ci M : Nat} {T9 : u_T} (hd : decode cc pc = .ok (.invokevirtual ix, 3)) (hl : Cond.methodLink yy.cls ix zz ∈ UW) (hi : Cond.instanceMethod zz ∈ UW) (hs : Cond.selects zz.cls zz zz ∈ UW) (hn : Cond.initialized zz.cls ∈ UW) (hc : Cond.code zz cc' nL' ret' ∈ UW)
    (hp : zz.cls ≠ "java/lang/invoke/MethodHandle" ∧ zz.cls ≠ "java/lang/invoke/VarHandle" ∧ (parseMethodDescriptor zz.desc).map (fun d => d.parameters.length) = some As.length) (h1 : d' + 1 ≤ d) (h2 : nL' ≤ 23) (hst : st = As.reverse ++ .ref b :: rest) (hW : 2 * 0 + (rest.map fun v => v.category).sum ≤ 8) (hcap : k ≤ c0 ∧ n ≤ s0)
    (hcl : vwCl[ci]? = some (zz.cls, T9, M)) (hk : kc Y b = ci + 10) (hC9 : Cl G zz cc' nL' ret' (xR d' 0 0) (.ref b :: As) (.inl v) Y N Y' N')
    (kk : ExZ G yy cc nL ret tb (xR d c0 s0) Z k n (pc + 3) L (v.toList ++ rest) Y' N') : ExZ G yy cc nL ret tb (xR d c0 s0) Z k n pc L st Y N :=
  x_callV (R := xR d c0 s0) (R' := xR d' 0 0) hd hl hi hs hn hc hp ⟨h1, by show 8 + (nL' + 11) + 42 * d' ≤ 42 * d; omega⟩ hst hW hcap hcl hk hC9 kk
theorem x_cs (hd : decode cc pc = .ok (.invokestatic ix, 3)) (hl : Cond.methodLink yy.cls ix zz ∈ UW) (hi : Cond.static zz ∈ UW) (hn : Cond.initialized zz.cls ∈ UW) (hc : Cond.code zz cc' nL' ret' ∈ UW)
    (hp : zz.cls ≠ "java/lang/invoke/MethodHandle" ∧ zz.cls ≠ "java/lang/invoke/VarHandle" ∧ (parseMethodDescriptor zz.desc).map (fun d => d.parameters.length) = some As.length) (h1 : d' + 1 ≤ d) (h2 : nL' ≤ 23) (hst : st = As.reverse ++ rest) (hW : 2 * 0 + (rest.map fun v => v.category).sum ≤ 8) (hcap : k ≤ c0 ∧ n ≤ s0)
    (hC9 : Cl G zz cc' nL' ret' (xR d' 0 0) As (.inl v) Y N Y' N')
    (kk : ExZ G yy cc nL ret tb (xR d c0 s0) Z k n (pc + 3) L (v.toList ++ rest) Y' N') : ExZ G yy cc nL ret tb (xR d c0 s0) Z k n pc L st Y N :=
  x_callS (R := xR d c0 s0) (R' := xR d' 0 0) hd hl hi hn hc hp ⟨h1, by show 8 + (nL' + 11) + 42 * d' ≤ 42 * d; omega⟩ hst hW hcap hC9 kk
/-- a word among the String constants -/
theorem x_ldcS {i : Nat} {tx : String} (hd : decode cc pc = .ok (.ldc ix, 2)) (hw : (yy.cls, ix, tx, i) ∈ xWd) (kk : ExZ G yy cc nL ret tb (xR d c0 s0) Z k n (pc + 2) L (.ref (xS G i) :: st) Y N) : ExZ G yy cc nL ret tb (xR d c0 s0) Z k n pc L st Y N := by
  intro p l e s m args below meth c H locs ls C hH hS hL
  exact va_ldcS C.1 C.2.2.1 C.2.2.2.2.1 (C.2.2.2.2.2.2.2.2.2.2.2.1.2.1 _ hw) hd (kk p l e s m args below meth c H locs ls C hH hS hL)
/-- a computed number, or a memory, gets a name -/
theorem x_nmi {v x : Int32} (h : v = x) (kk : ExZ G yy cc nL ret tb (xR d c0 s0) Z k n pc L (.int v :: st) Y N) : ExZ G yy cc nL ret tb (xR d c0 s0) Z k n pc L (.int x :: st) Y N := h ▸ kk
theorem x_nml {v x : Int64} (h : v = x) (kk : ExZ G yy cc nL ret tb (xR d c0 s0) Z k n pc L (.long v :: st) Y N) : ExZ G yy cc nL ret tb (xR d c0 s0) Z k n pc L (.long x :: st) Y N := h ▸ kk
theorem x_nmr {v x : Nat} (h : v = x) (kk : ExZ G yy cc nL ret tb (xR d c0 s0) Z k n pc L (.ref v :: st) Y N) : ExZ G yy cc nL ret tb (xR d c0 s0) Z k n pc L (.ref x :: st) Y N := h ▸ kk
theorem x_nmN {N9 : XN} (h : N9 = N) (kk : ExZ G yy cc nL ret tb (xR d c0 s0) Z k n pc L st Y N9) : ExZ G yy cc nL ret tb (xR d c0 s0) Z k n pc L st Y N := h ▸ kk
end XCM
def lt {α β : Type} (a : α) (f : α → β) : β := f a
theorem x_lt {α β : Type} {a : α} {f : α → β} {o : β} (h : lt a f = o) : ∃ x, x = a ∧ f x = o := ⟨a, rfl, h⟩
def bd {α β : Type} (a : Option α) (f : α → Option β) : Option β := a.bind f
def bd2 {α β γ : Type} (a : Option (α × β)) (f : α → β → Option γ) : Option γ := a.bind fun p => f p.1 p.2
def bdx {α β γ : Type} (a : Option ((α ⊕ String) × β)) (f : α → β → Option γ) : Option γ := a.bind fun p => match p.1 with
  | .inl r => f r p.2
  | .inr _ => none
theorem x_bd1 {α β : Type} {a : Option α} {f : α → Option β} {o : β} (h : bd a f = some o) : ∃ x, a = some x ∧ f x = some o := Option.bind_eq_some_iff.mp h
theorem x_bd2 {α β γ : Type} {a : Option (α × β)} {f : α → β → Option γ} {o : γ} (h : bd2 a f = some o) : ∃ x y, a = some (x, y) ∧ f x y = some o := by
  obtain ⟨⟨x, y⟩, h1, h2⟩ := Option.bind_eq_some_iff.mp h
  exact ⟨x, y, h1, h2⟩
theorem x_bdx {α β γ : Type} {a : Option ((α ⊕ String) × β)} {f : α → β → Option γ} {o : γ} (h : bdx a f = some o) : ∃ x y, a = some (.inl x, y) ∧ f x y = some o := by
  obtain ⟨⟨x, y⟩, h1, h2⟩ := Option.bind_eq_some_iff.mp h
  cases x with
  | inl r => exact ⟨r, y, h1, h2⟩
  | inr _ => cases h2
/-- what the references hold, once all is made -/
def wtO (Y : XY) (a f K : Nat) : Prop := gr Y a f = some (gp Y a f) ∧ kc Y (gp Y a f) = K
def wtF (Y : XY) (a f K n : Nat) : Prop := gr Y a f = some (gp Y a f) ∧ kc Y (gp Y a f) = K ∧ kn Y (gp Y a f) = n
def WT (Y : XY) : Prop := ∀ a,
  (kc Y a = 10 → wtF Y a 0 1 700 ∧ wtF Y a 2 1 16) ∧
  (kc Y a = 12 → wtF Y a 3 1 3) ∧
  (kc Y a = 15 → wtF Y a 0 1 701 ∧ wtF Y a 1 1 701 ∧ wtF Y a 2 1 701) ∧
  (kc Y a = 16 → wtF Y a 0 4 6 ∧ wtF Y a 2 5 8 ∧ wtF Y a 4 6 60 ∧ wtO Y a 13 10 ∧ wtF Y a 14 1 3) ∧
  (kc Y a = 17 → wtF Y a 0 2 700 ∧ wtO Y a 3 15 ∧ wtO Y a 4 14 ∧ wtO Y a 5 16 ∧ wtO Y a 6 16 ∧ wtF Y a 7 7 8) ∧
  (kc Y a = 4 → ∀ k, k < kn Y a → wtO Y a k 11) ∧
  (kc Y a = 5 → ∀ k, k < kn Y a → wtO Y a k 12) ∧
  (kc Y a = 6 → ∀ k, k < kn Y a → wtO Y a k 13) ∧
  (kc Y a = 7 → ∀ k, k < kn Y a → wtO Y a k 16)
section WTS
variable {Y : XY} {a : Nat}
theorem wt_X0_0 (h : WT Y) (k : kc Y a = 10) : wtF Y a 0 1 700 := ((h a).1 k).1
theorem wt_X0_2 (h : WT Y) (k : kc Y a = 10) : wtF Y a 2 1 16 := ((h a).1 k).2
theorem wt_X2_3 (h : WT Y) (k : kc Y a = 12) : wtF Y a 3 1 3 := (h a).2.1 k
theorem wt_X5_0 (h : WT Y) (k : kc Y a = 15) : wtF Y a 0 1 701 := ((h a).2.2.1 k).1
theorem wt_X5_1 (h : WT Y) (k : kc Y a = 15) : wtF Y a 1 1 701 := ((h a).2.2.1 k).2.1
theorem wt_X5_2 (h : WT Y) (k : kc Y a = 15) : wtF Y a 2 1 701 := ((h a).2.2.1 k).2.2
theorem wt_X6_0 (h : WT Y) (k : kc Y a = 16) : wtF Y a 0 4 6 := ((h a).2.2.2.1 k).1
theorem wt_X6_2 (h : WT Y) (k : kc Y a = 16) : wtF Y a 2 5 8 := ((h a).2.2.2.1 k).2.1
theorem wt_X6_4 (h : WT Y) (k : kc Y a = 16) : wtF Y a 4 6 60 := ((h a).2.2.2.1 k).2.2.1
theorem wt_X6_13 (h : WT Y) (k : kc Y a = 16) : wtO Y a 13 10 := ((h a).2.2.2.1 k).2.2.2.1
theorem wt_X6_14 (h : WT Y) (k : kc Y a = 16) : wtF Y a 14 1 3 := ((h a).2.2.2.1 k).2.2.2.2
theorem wt_X7_0 (h : WT Y) (k : kc Y a = 17) : wtF Y a 0 2 700 := ((h a).2.2.2.2.1 k).1
theorem wt_X7_3 (h : WT Y) (k : kc Y a = 17) : wtO Y a 3 15 := ((h a).2.2.2.2.1 k).2.1
theorem wt_X7_4 (h : WT Y) (k : kc Y a = 17) : wtO Y a 4 14 := ((h a).2.2.2.2.1 k).2.2.1
theorem wt_X7_5 (h : WT Y) (k : kc Y a = 17) : wtO Y a 5 16 := ((h a).2.2.2.2.1 k).2.2.2.1
theorem wt_X7_6 (h : WT Y) (k : kc Y a = 17) : wtO Y a 6 16 := ((h a).2.2.2.2.1 k).2.2.2.2.1
theorem wt_X7_7 (h : WT Y) (k : kc Y a = 17) : wtF Y a 7 7 8 := ((h a).2.2.2.2.1 k).2.2.2.2.2
theorem wt_4 (h : WT Y) (k : kc Y a = 4) {i : Int32} (hi : vp_in i (kn Y a)) : wtO Y a i.toNatClampNeg 11 := (h a).2.2.2.2.2.1 k _ (Nat.not_le.mp fun q => hi (Or.inr q))
theorem wt_5 (h : WT Y) (k : kc Y a = 5) {i : Int32} (hi : vp_in i (kn Y a)) : wtO Y a i.toNatClampNeg 12 := (h a).2.2.2.2.2.2.1 k _ (Nat.not_le.mp fun q => hi (Or.inr q))
theorem wt_6 (h : WT Y) (k : kc Y a = 6) {i : Int32} (hi : vp_in i (kn Y a)) : wtO Y a i.toNatClampNeg 13 := (h a).2.2.2.2.2.2.2.1 k _ (Nat.not_le.mp fun q => hi (Or.inr q))
theorem wt_7 (h : WT Y) (k : kc Y a = 7) {i : Int32} (hi : vp_in i (kn Y a)) : wtO Y a i.toNatClampNeg 16 := (h a).2.2.2.2.2.2.2.2 k _ (Nat.not_le.mp fun q => hi (Or.inr q))
end WTS
/-- the reader's two references, once they are put -/
def WR (Y : XY) (a : Nat) : Prop := wtO Y a 2 15 ∧ wtO Y a 3 16
theorem xb_at {Y : XY} {a n : Nat} {i : Int32} (h : kn Y a = n) (hc : xb i n = true) : vp_in i (kn Y a) := by rw [h]; exact xb_in hc
theorem x_swo {x : Int32} {lo hi : Int} (h : ∀ z : Int, lo ≤ z → z ≤ hi → ¬ x.toInt = z) : x.toInt < lo ∨ hi < x.toInt := by
  rcases Int.lt_or_le x.toInt lo with q | q
  · exact Or.inl q
  · rcases Int.lt_or_le hi x.toInt with r | r
    · exact Or.inr r
    · exact absurd rfl (h x.toInt q r)
theorem x_ti {x y : Int32} (h : ¬ x = y) {z : Int} (hz : y.toInt = z) : ¬ x.toInt = z := fun q => h (Int32.toInt_inj.mp (q.trans hz.symm))
