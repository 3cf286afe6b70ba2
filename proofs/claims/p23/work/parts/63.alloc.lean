/-! MAKING: the heap's end is the cell of kind 9 -/
def yK (Y : XY) (q c n : Nat) : XY := (fun b j => if b = q then none else Y.1 b j, fun b => if b = q then (c, n) else if b = q + 1 then (9, 0) else Y.2 b)
def n0 (N : XN) (q : Nat) : XN := (fun b j => if b = q then 0 else N.1 b j, fun b j => if b = q then 0 else N.2 b j)
theorem xAt.end9 {G : XG} {Y : XY} {N : XN} {H : Heap} {q : Nat} (h9 : kc Y q = 9) (h : xAt G Y N H q) : H.size = q := by
  unfold xAt at h
  rw [h9] at h
  exact h
theorem xH.push {G : XG} {Y : XY} {N : XN} {H H1 : Heap} {q c n : Nat} (h : xH G Y N H) (h9 : kc Y q = 9) (z1 : H1.size = q + 1) (o1 : ∀ x : Nat, x < q → H1[x]? = H[x]?) (hnew : xAt G (yK Y q c n) (n0 N q) H1 q) : xH G (yK Y q c n) (n0 N q) H1 := by
  have hz : H.size = q := (h.1 q).end9 h9
  have hB : xB G ≤ q := h.2 q (by rw [h9]; decide) (by rw [h9]; rfl)
  refine ⟨fun a => ?_, fun a ha hf => ?_⟩
  · by_cases e : a = q
    · rw [e]; exact hnew
    · by_cases e1 : a = q + 1
      · unfold xAt
        have : kc (yK Y q c n) a = 9 := by simp [kc, yK, e, e1]
        rw [this, e1]
        exact z1
      · have hk : kc (yK Y q c n) a = kc Y a := by simp [kc, yK, e, e1]
        by_cases h0 : kc Y a = 0
        · unfold xAt
          rw [hk, h0]
          exact trivial
        · have h1 := h.1 a
          have hn9 : kc Y a ≠ 9 := fun z => e ((h1.end9 z).symm.trans hz)
          exact h1.keptA hn9 (fun hl => o1 a (by omega)) (by simp [yK, e, e1]) (fun k => by simp [yK, e]) (fun k => by simp [n0, e]) (fun k => by simp [n0, e])
  · by_cases e : a = q
    · rw [e]; exact hB
    · by_cases e1 : a = q + 1
      · rw [e1]; omega
      · exact h.2 a (by simpa [kc, yK, e, e1] using ha) (by simpa [kc, yK, e, e1] using hf)
theorem va_S_grow {A : Nat → Prop} {H0 H H1 : Heap} {locs : List Loc} (hS : va_S A H0 H locs) (z : H.size ≤ H1.size) (o1 : ∀ x : Nat, x < H.size → H1[x]? = H[x]?) : va_S A H0 H1 locs :=
  ⟨Nat.le_trans hS.1 z, fun x h1 h2 => (o1 x (Nat.lt_of_lt_of_le h1 hS.1)).trans (hS.2.1 x h1 h2), hS.2.2⟩
section XAL
variable {G : XG} {yy zz : MethodName} {cc cc' : ByteArray} {nL nL' : Nat} {ret ret' : Option FieldType} {tb : List ExceptionTableEntry} {R R' : Room} {Z : List Frame → Array Value → State → State → Prop} {Y Y' : XY} {N N' : XN} {k n pc : Nat} {L : List (Nat × Value)} {st rest As : List Value} {ix q : Nat}
theorem x_newO {ci M : Nat} {C9 : String} {T9 : u_T} {ty0 : Nat → FieldType} (hd : decode cc pc = .ok (.new ix, 3)) (hc : vwCl[ci]? = some (C9, T9, M)) (hin : ∀ w ∈ u_ws C9 T9 M, w ∈ UW) (hty : ∀ k, k < M → parseFieldDescriptor (T9 k).2.2.1 = some (ty0 k)) (hcl : Cond.classLink yy.cls ix C9 ∈ UW) (his : Cond.instantiable C9 M ∈ UW) (hini : Cond.initialized C9 ∈ UW)
    (hdf : ∀ j, j < M → defaultValue (ty0 j) = if xrf ci j then .null else .int 0) (h9 : kc Y q = 9) (hcap : k + 1 ≤ R.cells ∧ n + M ≤ R.slots)
    (kk : ExZ G yy cc nL ret tb R Z (k + 1) (n + M) (pc + 3) L (.ref q :: st) (yK Y q (ci + 10) 0) (n0 N q)) : ExZ G yy cc nL ret tb R Z k n pc L st Y N := by
  intro p l e s m args below meth c H locs ls C hH hS hL
  have k1 := fun H' hH' hS' => kk p l e s m args below meth c H' locs ls C hH' hS' hL
  obtain ⟨hx, -, hb, hml, hown, -, -, -, -, hts, hK, -, -⟩ := C
  have hKn := hK.1 ci _ hc
  have hz : H.size = q := (hH.1 q).end9 h9
  refine W.newcK hx hb hown (hts _ hcl) (hts _ his) (hts _ hini) rfl hd hcap.1 hcap.2 hKn.2.1 hz fun H1 kC hkC e1 z1 o1 => ?_
  refine k1 H1 (hH.push h9 z1 o1 ?_) (va_S_grow hS (by omega) (fun x hx => o1 x (by omega)))
  have : kc (yK Y q (ci + 10) 0) q = ci + 10 := by simp [kc, yK]
  refine xAt.ofO this hc ((u_born ty0 hts hin hKn hkC e1 hty).to (fun j hj => ?_))
  rw [hdf j hj]
  simp [xV, yK, n0, gr, gi, va_rf]
theorem x_newP {at9 : ArrayType} {z : Int32} {M kd t : Nat} {ty : FieldType} (hd : decode cc pc = .ok (.newarray at9, 2)) (hty : newarray.typeOf at9 = ty) (hw : Cond.arrayClass ty ∈ UW) (hz0 : ¬ z < 0) (hM : z.toNatClampNeg = M) (hby : M * componentBytes ty ≤ 536870912) (hkd : (kd = 1 ∧ t = 0 ∧ ty = .int) ∨ (kd = 2 ∧ t = 1 ∧ ty = .byte) ∨ (kd = 3 ∧ t = 2 ∧ ty = .long)) (h9 : kc Y q = 9) (hcap : k + 1 ≤ R.cells ∧ n + M ≤ R.slots)
    (kk : ExZ G yy cc nL ret tb R Z (k + 1) (n + M) (pc + 2) L (.ref q :: st) (yK Y q kd M) (n0 N q)) : ExZ G yy cc nL ret tb R Z k n pc L (.int z :: st) Y N := by
  intro p l e s m args below meth c H locs ls C hH hS hL
  have k1 := fun H' hH' hS' => kk p l e s m args below meth c H' locs ls C hH' hS' hL
  obtain ⟨hx, -, hb, hml, hown, -, -, -, -, hts, hK, -, -⟩ := C
  have hz : H.size = q := (hH.1 q).end9 h9
  subst hty
  refine va_newaK hx hb (hts _ hw) rfl hd rfl hz0 hM hby hcap.1 hcap.2 hz fun H1 cA e1 z1 o1 hAr hNm => ?_
  refine k1 H1 (hH.push h9 z1 o1 ?_) (va_S_grow hS (by omega) (fun x hx => o1 x (by omega)))
  have hk : kc (yK Y q kd M) q = kd := by simp [kc, yK]
  have hk2 : kn (yK Y q kd M) q = M := by simp [kn, yK]
  have f1 : (n0 N q).1 q = fun _ => 0 := by funext j; simp [n0]
  have f2 : (n0 N q).2 q = fun _ => 0 := by funext j; simp [n0]
  unfold xAt
  rw [hk, hk2, f1, f2]
  rcases hkd with ⟨h1, h2, h3⟩ | ⟨h1, h2, h3⟩ | ⟨h1, h2, h3⟩
  · subst h1
    have hc9 : cA = G.2.1 0 := by
      have := (hK.2 0 _ rfl).2
      rw [h3] at hNm
      exact Option.some.inj (hNm.symm.trans this)
    rw [h3] at e1
    rw [e1, hc9]; rfl
  · subst h1
    have hc9 : cA = G.2.1 1 := by
      have := (hK.2 1 _ rfl).2
      rw [h3] at hNm
      exact Option.some.inj (hNm.symm.trans this)
    rw [h3] at e1
    rw [e1, hc9]; rfl
  · subst h1
    have hc9 : cA = G.2.1 2 := by
      have := (hK.2 2 _ rfl).2
      rw [h3] at hNm
      exact Option.some.inj (hNm.symm.trans this)
    rw [h3] at e1
    rw [e1, hc9]; rfl
theorem x_newR {z : Int32} {M j : Nat} {C9 : String} (hd : decode cc pc = .ok (.anewarray ix, 3)) (hw : Cond.classLink yy.cls ix C9 ∈ UW) (hov : C9 ∈ xAo) (hz0 : ¬ z < 0) (hM : z.toNatClampNeg = M) (hby : M * 4 ≤ 536870912) (hj : j < 4) (hkd : (xTys G)[j + 3]? = some (G.2.1 (j + 3), .object C9)) (h9 : kc Y q = 9) (hcap : k + 1 ≤ R.cells ∧ n + M ≤ R.slots)
    (kk : ExZ G yy cc nL ret tb R Z (k + 1) (n + M) (pc + 3) L (.ref q :: st) (yK Y q (j + 4) M) (n0 N q)) : ExZ G yy cc nL ret tb R Z k n pc L (.int z :: st) Y N := by
  intro p l e s m args below meth c H locs ls C hH hS hL
  have k1 := fun H' hH' hS' => kk p l e s m args below meth c H' locs ls C hH' hS' hL
  obtain ⟨hx, -, hb, hml, hown, -, -, -, -, hts, hK, hC9, -⟩ := C
  have hz : H.size = q := (hH.1 q).end9 h9
  subst hM
  refine W.anew hx hb hown (hts _ hw) (va_AO.use (hC9.2.2.2.2.2.2.2.2.2.2.2.2.1 _ hov)) rfl hd rfl hz0 hby hcap.1 hcap.2 fun cA kA comp f1 f2 f3 f4 => ?_
  rw [hz]
  generalize hH1 : H.push ({ cls := cA, slots := Array.replicate z.toNatClampNeg .null, vm := .none } : Cell) = H1
  have z1 : H1.size = q + 1 := by rw [← hH1, Array.size_push, hz]
  have e1 : H1[q]? = some (arrV cA z.toNatClampNeg (fun _ => .null)) := by rw [← hH1, ← hz, Array.getElem?_push_size, ← arrV_new]
  have o1 : ∀ x : Nat, x < q → H1[x]? = H[x]? := fun x hx => by rw [← hH1, Array.getElem?_push, if_neg (by omega)]
  refine k1 H1 (hH.push h9 z1 o1 ?_) (va_S_grow hS (by omega) (fun x hx => o1 x (by omega)))
  have hk : kc (yK Y q (j + 4) z.toNatClampNeg) q = j + 4 := by simp [kc, yK]
  have hk2 : kn (yK Y q (j + 4) z.toNatClampNeg) q = z.toNatClampNeg := by simp [kn, yK]
  have g1 : (yK Y q (j + 4) z.toNatClampNeg).1 q = fun _ => none := by funext i; simp [yK]
  have hc9 : cA = G.2.1 (j + 3) := by
    obtain ⟨kA9, comp9, -, -, -, h4⟩ := (hK.2 _ _ hkd).2
    exact Option.some.inj (f1.symm.trans h4)
  unfold xAt
  rw [hk, hk2, g1, e1, hc9]
  match j, hj with
  | 0, _ => rfl
  | 1, _ => rfl
  | 2, _ => rfl
  | 3, _ => rfl
theorem x_putF {a b ci f M : Nat} {C9 : String} {T9 : u_T} {ty0 : Nat → FieldType} (hd : decode cc pc = .ok (.putfield ix, 3)) (hc : vwCl[ci]? = some (C9, T9, M)) (hin : ∀ w ∈ u_ws C9 T9 M, w ∈ UW) (hty : ∀ k, k < M → parseFieldDescriptor (T9 k).2.2.1 = some (ty0 k)) (hnm : ∀ a, a < M → ∀ b, b < M → a ≠ b → (T9 a).2.1 ≠ (T9 b).2.1) (hf : f < M) (hw : Cond.fieldLink yy.cls ix (T9 f).1 (T9 f).2.1 (T9 f).2.2.1 ∈ UW) (hfin : (T9 f).2.2.2 = true) (hyn : yy.name = "<init>") (hdecl : (T9 f).1 = yy.cls) (hr : xrf ci f = true) (hn9 : narrow (ty0 f) (.ref b) = .ref b) (hfit : fits (ty0 f) (.ref b) = true) (hk : kc Y a = ci + 10)
    (kk : ExZ G yy cc nL ret tb R Z k n (pc + 3) L st (sr Y a f (some b)) N) : ExZ G yy cc nL ret tb R Z k n pc L (.ref b :: .ref a :: st) Y N := by
  intro p l e s m args below meth c H locs ls C hH hS hL
  have k1 := fun H' locs' hH' hS' => kk p l e s m args below meth c H' locs' ls C hH' hS' hL
  obtain ⟨hx, -, hb, hml, hown, hmn, -, -, -, hts, hK, -, -⟩ := C
  have hap := va_apart (own := yy.cls) hts hin ty0 hty hnm hK hc
  obtain ⟨r, h1, cell, q1, q2, q3, q4⟩ := xAt_o (vl_lt hc) hk (hH.1 a)
  have hr9 : r = (C9, T9, M) := Option.some.inj (h1.symm.trans hc)
  subst hr9
  obtain ⟨hS', hfc, kC, hkC, hkind⟩ := hK.1 ci _ hc
  obtain ⟨cf, kf, fi, fd, hi, hsl⟩ := hS' f hf
  have hlay := hts _ (hin _ (u_in_lay hf))
  unfold u_lay at hlay
  rw [if_pos hfin] at hlay
  have hst := (u_facts hfc hkC (u_lays hts hin hf) hi).1
  have hcf : m.cls = cf := by
    obtain ⟨_, _, c', _, _, _, -, -, hf', -, -, -, hown2, -⟩ := Cond.laysFinal_spec hlay
    have e1 : c' = cf := by have := hi.symm.trans hf'; simp at this; exact this.1.symm
    rw [hdecl] at hown2
    rw [← e1]; exact Option.some.inj (hown.symm.trans hown2)
  have h6 := u_fits hfc hkC hkind (Or.inr hlay) hi (hty f hf) hn9 hfit
  refine W.putFinK hx hb hown (hts _ hw) hi hst hcf (hmn.trans hyn) (by rw [q2]; exact h6) q1 q3 (by rw [hsl]; exact k2_hasslot (q4 f hf)) rfl rfl hd fun H' e1 e2 e3 => ?_
  rw [hsl] at e1 ⊢
  refine k1 H' _ (hH.put e2 e3 rfl (fun q hq k => ?_) (fun _ _ _ => rfl) (fun _ _ _ => rfl) ?_) (hS.put e2 e3 (hH.2 a (by rw [hk]; omega) (fz_o hk hc)))
  · show (if q = a ∧ k = f then some b else Y.1 q k) = _
    rw [if_neg (fun z => hq z.1)]
  · have hk' : kc (sr Y a f (some b)) a = ci + 10 := hk
    refine xAt.ofO hk' hc (t_OB.to (V := updV (xV Y N ci a) f (.ref b)) ⟨_, e1, q2, q3, t_set q4 hap hf (.ref b)⟩ (fun j _ => ?_))
    by_cases e : j = f
    · subst e
      simp [updV, xV, hr, gr, sr, va_rf]
    · simp [updV, xV, gr, sr, e]
theorem x_aast {a b j ci : Nat} {i : Int32} {r : vw_C} {j9 : Nat} (hd : decode cc pc = .ok (.aastore, 1)) (hj : j < 4) (hk : kc Y a = j + 4) (hin : vp_in i (kn Y a)) (hj9 : i.toNatClampNeg = j9) (hb9 : kc Y b = ci + 10) (hc : vwCl[ci]? = some r) (hkd : (xTys G)[j + 3]? = some (G.2.1 (j + 3), .object r.1))
    (kk : ExZ G yy cc nL ret tb R Z k n (pc + 1) L st (sr Y a j9 (some b)) N) : ExZ G yy cc nL ret tb R Z k n pc L (.ref b :: .int i :: .ref a :: st) Y N := by
  subst hj9
  intro p l e s m args below meth c H locs ls C hH hS hL
  have k1 := fun H' locs' hH' hS' => kk p l e s m args below meth c H' locs' ls C hH' hS' hL
  have hK := C.2.2.2.2.2.2.2.2.2.2.1
  have hlt : i.toNatClampNeg < kn Y a := Nat.not_le.mp fun q => hin (Or.inr q)
  have h0 : ¬ i < 0 := fun q => hin (Or.inl q)
  have hcell := xAt_r (by omega) hk (hH.1 a)
  obtain ⟨r', hr', cellV, g1, g2, g3, -⟩ := xAt_o (vl_lt hc) hb9 (hH.1 b)
  have hcls := (hK.1 ci r hc).2
  obtain ⟨kA, comp, k1', k2, k3, -⟩ := (hK.2 _ _ hkd).2
  have hcomp : comp = G.1.1 ci := Option.some.inj (k3.symm.trans hcls.1)
  subst hcomp
  obtain ⟨kC, hkC, -⟩ := hcls.2
  refine W.aast C.1 C.2.2.1 hcell (fun q h => by cases h) (fun h => by cases h) k1' k2 rfl hkC ⟨h0, by show _ < (arrV _ _ _).slots.size; rw [arrV_size]; exact hlt⟩ g1 (fun q h => by rw [g3] at h; cases h) (by rw [g2]; exact hkC) (by rw [g2]; exact va_assign hcls) rfl rfl hd fun H1 e1 z oq => ?_
  refine k1 H1 _ (hH.put z oq rfl (fun q hq k => ?_) (fun _ _ _ => rfl) (fun _ _ _ => rfl) ?_) (hS.put z oq (hH.2 a (by rw [hk]; omega) (fz_s (by rw [hk]; omega))))
  · show (if q = a ∧ k = i.toNatClampNeg then some b else Y.1 q k) = _
    rw [if_neg (fun z => hq z.1)]
  · have hk' : kc (sr Y a i.toNatClampNeg (some b)) a = j + 4 := hk
    have hk2 : kn (sr Y a i.toNatClampNeg (some b)) a = kn Y a := rfl
    have key : H1[a]? = some (vp_cell (G.2.1 (j + 3)) (kn Y a, .inr (.inr (.inr (.inr ((sr Y a i.toNatClampNeg (some b)).1 a)))))) := by
      rw [e1, vp_cell_q, vp_cell_q, arrV_store]
      congr 2
      funext q
      by_cases hq : q = i.toNatClampNeg
      · subst hq
        simp [updV, sr, va_rf]
      · simp [updV, sr, hq]
    unfold xAt
    rw [hk', hk2]
    match j, hj, key with
    | 0, _, key => exact key
    | 1, _, key => exact key
    | 2, _, key => exact key
    | 3, _, key => exact key
theorem x_super {a : Nat} (hd : decode cc pc = .ok (.invokespecial ix, 3)) (hl : Cond.methodLink yy.cls ix objectInit ∈ UW) (hi : Cond.instanceMethod objectInit ∈ UW) (hc : Cond.code objectInit ⟨#[0xb1]⟩ 1 none ∈ UW) (hW : (st.map fun v => v.category).sum ≤ 8) (h1 : 1 ≤ R.frames) (h2 : 20 ≤ R.locals)
    (kk : ExZ G yy cc nL ret tb R Z k n (pc + 3) L st Y N) : ExZ G yy cc nL ret tb R Z k n pc L (.ref a :: st) Y N := by
  intro p l e s m args below meth c H locs ls C hH hS hL
  have hts := C.2.2.2.2.2.2.2.2.2.1
  refine W.objInit C.1 C.2.2.1 C.2.2.2.2.1 (hts _ hl) (hts _ hi) (hts _ hc) rfl (by rw [C.2.2.2.1]; exact hL.1) rfl hd h1 ?_ (kk p l e s m args below meth c H locs ls C hH hS hL)
  show 2 * 0 + (st.map fun v => v.category).sum + 12 ≤ R.locals
  omega
/-- a constructor's contract -/
def Cm (G : XG) (yy : MethodName) (cc : ByteArray) (nL : Nat) (R : Room) (As : List Value) (Y : XY) (N : XN) (Yf : XY) (Nf : XN) : Prop :=
  ∀ l : Launch, l.stackTraces = false → Met l yy (Cond.code yy cc nL none :: UW) R (va_Pc As (xPre G Y N)) (xQ G (.inl none) Yf Nf) R.cells R.slots (xA G)
def xZm (G : XG) (R : Room) (Yf : XY) (Nf : XN) : List Frame → Array Value → State → State → Prop := fun below args s => MQ below (xQ G (.inl none) Yf Nf) args s R.cells R.slots (xA G)
theorem x_mret (hd : decode cc pc = .ok (.return_, 1)) (hr : ret = none) (hk : R.cells = k) (hn : R.slots = n) : ExZ G yy cc nL ret tb R (xZm G R Y N) k n pc L [] Y N := by
  intro p l e s m args below meth c H locs ls C hH hS hL
  subst hk; subst hn
  exact W.vret C.1 C.2.2.1 (C.2.2.2.2.2.2.1.trans hr) (fun t ht _ => xq_ret hH hS ht) hS.2.2 hd C.2.2.2.2.2.2.2.1
theorem x_entryM (hy : plainName yy.cls = true) (hlen : (lg_sl As).length ≤ nL) (hL : lv_args 0 As = L) (kk : ∀ tb, ExZ G yy cc nL none tb R (xZm G R Y' N') 0 0 0 L [] Y N) : Cm G yy cc nL R As Y N Y' N' := by
  intro l hl
  refine Met.ofW (cc := cc) (maxL := nL) (ret := none) hy rfl ?_
  intro p e s m args below meth c s₁ B hml hv
  obtain ⟨rfl, hK, hH, hC, hB⟩ := hv
  have hts := atoms_spec (ws := Cond.code yy cc nL none :: UW) B.pre
  have hl9 := lv_entry As (n := nL) hlen
  rw [lg_entry_eq]
  rw [hL] at hl9
  exact kk _ p l e s m _ below meth c s.heap [] _ ⟨B.exec, hl, B.bytes, hml, findClass_of_methodNamed B.named, (name_of_methodNamed B.named B.method).1, B.returns, B.notSynchronized, rfl, fun w hw => hts w (List.mem_cons_of_mem _ hw), hK, hC, hB⟩ hH va_S.rf hl9
theorem x_backM {p : Program} {l : Launch} {e : Env} {s : State} {m : MethodId} {args : Array Value} {below : List Frame} {meth : Method} {c : Code} {H : Heap} {locs : List Loc} {ls : Array Slot} {a9 : Array Value}
    (hr : va_Run p l e R s m args below meth c H locs k n R'.cells R'.slots (F0 m pc ls st) rest (xQ G (.inl none) Y' N' a9) (xA G))
    (C : xCx G p l s m args meth c yy cc nL ret tb) (hS : va_S (xA G) s.heap H locs) (hL : lv_has ls nL L)
    (kk : ExZ G yy cc nL ret tb R Z (k + R'.cells) (n + R'.slots) (pc + 3) L rest Y' N') : W p l e R s m args below meth c H locs k n (Z below args s) (F0 m pc ls st) := by
  intro T hT X
  obtain ⟨v9, st₀, t, T', Ls, h0, X', hLs, e1, e2, ⟨⟨v8, hv, hv2, hH9⟩, hF⟩, hst⟩ := hr T hT X
  cases hv
  cases hv2
  obtain ⟨k1, k2, k3⟩ := vx_keep h0 e1 hS (fun q _ h => h) (fun q h => h) hLs hF
  obtain ⟨t2, a1, b1⟩ := kk p l e s m args below meth c T'.heap (locs ++ Ls) ls C (by rw [e1]; exact hH9) k3 hL T' rfl X'
  exact ⟨t2, hst t2 a1, b1⟩
theorem x_init {b : Nat} (hd : decode cc pc = .ok (.invokespecial ix, 3)) (hl : Cond.methodLink yy.cls ix zz ∈ UW) (hi : Cond.instanceMethod zz ∈ UW) (hn : Cond.initialized zz.cls ∈ UW) (hc : Cond.code zz cc' nL' none ∈ UW) (hz : zz.name = "<init>")
    (hp : zz.cls ≠ "java/lang/invoke/MethodHandle" ∧ zz.cls ≠ "java/lang/invoke/VarHandle" ∧ (parseMethodDescriptor zz.desc).map (fun d => d.parameters.length) = some As.length) (hR : R'.frames + 1 ≤ R.frames ∧ 8 + (nL' + 11) + R'.locals ≤ R.locals) (hst : st = As.reverse ++ .ref b :: rest) (hW : 2 * 0 + (rest.map fun v => v.category).sum ≤ 8) (hcap : k + R'.cells ≤ R.cells ∧ n + R'.slots ≤ R.slots)
    (hC9 : Cm G zz cc' nL' R' (.ref b :: As) Y N Y' N') (kk : ExZ G yy cc nL ret tb R Z (k + R'.cells) (n + R'.slots) (pc + 3) L rest Y' N') : ExZ G yy cc nL ret tb R Z k n pc L st Y N := by
  intro p l e s m args below meth c H locs ls C hH hS hL
  have hts := C.2.2.2.2.2.2.2.2.2.1
  exact x_backM (va_runI (Ts := UW) (n := As.length) ⟨C.1, C.2.2.1, C.2.2.2.1, C.2.2.2.2.1, hts⟩ (hC9 l C.2.1) ⟨x_cw hts hl hn hc hp hR, hz, hts _ hi⟩ ⟨xPre_blind, fun U hU hW => ⟨rfl, xPre_at C hH hS hU hW⟩⟩ rfl rfl hL.1 hst hW hd hcap) C hS hL kk
theorem x_initN {b : Nat} (hd : decode cc pc = .ok (.invokespecial ix, 3)) (hl : (yy.cls, ix, zz) ∈ xNe) (hi : Cond.instanceMethod zz ∈ UW) (hn : Cond.initialized zz.cls ∈ UW) (hc : Cond.code zz cc' nL' none ∈ UW) (hz : zz.name = "<init>")
    (hp : zz.cls ≠ "java/lang/invoke/MethodHandle" ∧ zz.cls ≠ "java/lang/invoke/VarHandle" ∧ (parseMethodDescriptor zz.desc).map (fun d => d.parameters.length) = some As.length) (hR : R'.frames + 1 ≤ R.frames ∧ 8 + (nL' + 11) + R'.locals ≤ R.locals) (hst : st = As.reverse ++ .ref b :: rest) (hW : 2 * 0 + (rest.map fun v => v.category).sum ≤ 8) (hcap : k + R'.cells ≤ R.cells ∧ n + R'.slots ≤ R.slots)
    (hC9 : Cm G zz cc' nL' R' (.ref b :: As) Y N Y' N') (kk : ExZ G yy cc nL ret tb R Z (k + R'.cells) (n + R'.slots) (pc + 3) L rest Y' N') : ExZ G yy cc nL ret tb R Z k n pc L st Y N := by
  intro p l e s m args below meth c H locs ls C hH hS hL
  have hts := C.2.2.2.2.2.2.2.2.2.1
  have hlk := C.2.2.2.2.2.2.2.2.2.2.2.1.2.2.2.2.2.2.2.2.2.2.1 _ hl
  exact x_backM (va_runIN (Ts := UW) (n := As.length) ⟨C.1, C.2.2.1, C.2.2.2.1, C.2.2.2.2.1, hts⟩ (hC9 l C.2.1) ⟨va_cnB As.length hts (xu_good _ _ _ _ hc) rfl rfl rfl hlk (hts _ hn) hp hR, hz, hts _ hi⟩ ⟨xPre_blind, fun U hU hW => ⟨rfl, xPre_at C hH hS hU hW⟩⟩ rfl rfl hL.1 hst hW hd hcap) C hS hL kk
end XAL
