theorem xC.str {G : XG} {U : State} {H : Heap} (h : xC G U H) : ∀ i, i < 37 → va_O "java/lang/String" (xS G i) (xA G) U H ∧ va_OF "java/lang/String" "coder" "B" (.int 0) (xS G i) (xA G) U H ∧ va_OF "java/lang/String" "value" "[B" (.ref (xSv G i)) (xS G i) (xA G) U H ∧ va_T .byte (xSv G i) (xWo i).length (fun j => .int ((xWo i).getD j 0)) (xA G) U H := h.1
theorem xC.aoa {G : XG} {U : State} {H : Heap} (h : xC G U H) : va_AOA .int U := by
  obtain ⟨h1, h2, h3, h4, h5, h6, h7, h8, h9, h10, h11, h12, h13, h14, h15, h16, h17, h18, h19, h20⟩ := h
  exact h14
theorem xC.sta {G : XG} {U : State} {H : Heap} (h : xC G U H) : ∀ q ∈ xSt, va_Z q.1 q.2.1 q.2.2.1 (.ref (xSv G q.2.2.2)) (xA G) U H := by
  obtain ⟨h1, h2, h3, h4, h5, h6, h7, h8, h9, h10, h11, h12, h13, h14, h15, h16, h17, h18, h19, h20⟩ := h
  exact h15
theorem xC.dig {G : XG} {U : State} {H : Heap} (h : xC G U H) : ∀ i, (i = 100 ∨ i = 101) → va_T .byte (xSv G i) (xBy i).length (fun j => .int ((xBy i).getD j 0)) (xA G) U H := by
  obtain ⟨h1, h2, h3, h4, h5, h6, h7, h8, h9, h10, h11, h12, h13, h14, h15, h16, h17, h18, h19, h20⟩ := h
  exact h16
theorem xC.sar {G : XG} {U : State} {H : Heap} (h : xC G U H) : ∀ i, (i = 102 ∨ i = 103) → va_T (.object "java/lang/String") (xSv G i) (xRy i).length (fun j => .ref (xS G ((xRy i).getD j 0))) (xA G) U H := by
  obtain ⟨h1, h2, h3, h4, h5, h6, h7, h8, h9, h10, h11, h12, h13, h14, h15, h16, h17, h18, h19, h20⟩ := h
  exact h17
theorem xC.cln {G : XG} {U : State} {H : Heap} (h : xC G U H) : ∀ q ∈ xCs, va_Nw (.castable q "java/lang/Cloneable") U := by
  obtain ⟨h1, h2, h3, h4, h5, h6, h7, h8, h9, h10, h11, h12, h13, h14, h15, h16, h17, h18, h19, h20⟩ := h
  exact h18
theorem xC.var {G : XG} {U : State} {H : Heap} (h : xC G U H) : va_Nw (.fieldLinkNest RX9 50 RL "VARIABLES" "[Ljava/lang/String;" RL) U := by
  obtain ⟨h1, h2, h3, h4, h5, h6, h7, h8, h9, h10, h11, h12, h13, h14, h15, h16, h17, h18, h19, h20⟩ := h
  exact h19
theorem xC.nl {G : XG} {U : State} {H : Heap} (h : xC G U H) : ∀ q ∈ xNl, va_Nw (.methodLinkNest q.1 q.2.1 q.2.2 RL) U := by
  obtain ⟨h1, h2, h3, h4, h5, h6, h7, h8, h9, h10, h11, h12, h13, h14, h15, h16, h17, h18, h19, h20⟩ := h
  exact h20
theorem xC.com {G : XG} {U : State} {H : Heap} (h : xC G U H) : va_Z "java/lang/String" "COMPACT_STRINGS" "Z" (.int 1) (xA G) U H := by
  obtain ⟨h1, h2, h3, h4, h5, h6, h7, h8, h9, h10, h11, h12, h13, h14, h15, h16, h17, h18, h19, h20⟩ := h
  exact h6
theorem xin0 : ∀ w ∈ wsX00, w ∈ UW := by decide +kernel
theorem xin1 : ∀ w ∈ wsX10, w ∈ UW := by decide +kernel
theorem xin2 : ∀ w ∈ wsX20, w ∈ UW := by decide +kernel
theorem xin3 : ∀ w ∈ wsX30, w ∈ UW := by decide +kernel
theorem xin4 : ∀ w ∈ wsX40, w ∈ UW := by decide +kernel
theorem xin5 : ∀ w ∈ wsX50, w ∈ UW := by decide +kernel
theorem xin6 : ∀ w ∈ wsX60, w ∈ UW := by decide +kernel
theorem xin7 : ∀ w ∈ wsX70, w ∈ UW := by decide +kernel
theorem xin8 : ∀ w ∈ wsX80, w ∈ UW := by decide +kernel
theorem xin9 : ∀ w ∈ wsX90, w ∈ UW := by decide +kernel
theorem xin10 : ∀ w ∈ wsX100, w ∈ UW := by decide +kernel
theorem xin11 : ∀ w ∈ wsJ00, w ∈ UW := by decide +kernel
theorem xin12 : ∀ w ∈ wsJ40, w ∈ UW := by decide +kernel
theorem vl_lt {ci : Nat} {r : vw_C} (hc : vwCl[ci]? = some r) : ci < 13 := (List.getElem?_eq_some_iff.mp hc).1
theorem xAt.ofO {G : XG} {Y : XY} {N : XN} {H : Heap} {a ci : Nat} {r : vw_C} (hk : kc Y a = ci + 10) (hc : vwCl[ci]? = some r) (h : t_OB a (G.1.1 ci) r.2.2 (G.1.2 ci) H (xV Y N ci a)) : xAt G Y N H a := by
  have h13 := vl_lt hc
  unfold xAt
  rw [hk]
  exact ⟨fun _ => ⟨r, hc, h⟩, fun e => absurd e (by omega), fun e => absurd e (by omega), fun e => absurd e (by omega), fun e => absurd e (by omega)⟩
theorem fz_o {ci k : Nat} {r : vw_C} (hk : k = ci + 10) (hc : vwCl[ci]? = some r) : frz k = false := by
  have h13 := vl_lt hc
  unfold frz
  rw [beq_false_of_ne (by omega : k ≠ 40), beq_false_of_ne (by omega : k ≠ 41), beq_false_of_ne (by omega : k ≠ 42)]
  rfl
theorem fz_s {k : Nat} (hk : k < 40) : frz k = false := by
  unfold frz
  rw [beq_false_of_ne (by omega : k ≠ 40), beq_false_of_ne (by omega : k ≠ 41), beq_false_of_ne (by omega : k ≠ 42)]
  rfl
theorem xAt_o {G : XG} {Y : XY} {N : XN} {H : Heap} {a ci : Nat} (h13 : ci < 13) (hk : kc Y a = ci + 10) (h : xAt G Y N H a) : ∃ r : vw_C, vwCl[ci]? = some r ∧ t_OB a (G.1.1 ci) r.2.2 (G.1.2 ci) H (xV Y N ci a) := by
  unfold xAt at h
  rw [hk] at h
  exact h.1 h13
theorem xAt_1 {G : XG} {Y : XY} {N : XN} {H : Heap} {a : Nat} (hk : kc Y a = 1) (h : xAt G Y N H a) : H[a]? = some (vp_cell (G.2.1 0) (kn Y a, .inl (N.1 a))) := by
  unfold xAt at h
  rw [hk] at h
  exact h
theorem xAt_2 {G : XG} {Y : XY} {N : XN} {H : Heap} {a : Nat} (hk : kc Y a = 2) (h : xAt G Y N H a) : H[a]? = some (vp_cell (G.2.1 1) (kn Y a, .inl (N.1 a))) := by
  unfold xAt at h
  rw [hk] at h
  exact h
theorem xAt_3 {G : XG} {Y : XY} {N : XN} {H : Heap} {a : Nat} (hk : kc Y a = 3) (h : xAt G Y N H a) : H[a]? = some (vp_cell (G.2.1 2) (kn Y a, .inr (.inl (N.2 a)))) := by
  unfold xAt at h
  rw [hk] at h
  exact h
/-- array class j + 4 holds references -/
theorem xAt_r {G : XG} {Y : XY} {N : XN} {H : Heap} {a j : Nat} (hj : j < 5) (hk : kc Y a = j + 4) (h : xAt G Y N H a) : H[a]? = some (vp_cell (G.2.1 (j + 3)) (kn Y a, .inr (.inr (.inr (.inr (Y.1 a)))))) := by
  unfold xAt at h
  rw [hk] at h
  match j, hj, h with
  | 0, _, h => exact h
  | 1, _, h => exact h
  | 2, _, h => exact h
  | 3, _, h => exact h
  | 4, _, h => exact h
/-- kept where the cells that are there are kept (the heap may have grown) -/
theorem xAt.keptA {G : XG} {Y Y' : XY} {N N' : XN} {H H' : Heap} {a : Nat} (h : xAt G Y N H a) (h9 : kc Y a ≠ 9) (hq : a < H.size → H'[a]? = H[a]?) (hk : Y'.2 a = Y.2 a) (hr : ∀ k, Y'.1 a k = Y.1 a k) (hi : ∀ k, N'.1 a k = N.1 a k) (hl : ∀ k, N'.2 a k = N.2 a k) : xAt G Y' N' H' a := by
  have e1 : kc Y' a = kc Y a := by unfold kc; rw [hk]
  have e2 : kn Y' a = kn Y a := by unfold kn; rw [hk]
  have f1 : N'.1 a = N.1 a := funext hi
  have f2 : N'.2 a = N.2 a := funext hl
  have f3 : Y'.1 a = Y.1 a := funext hr
  have f4 : ∀ c, xV Y' N' c a = xV Y N c a := fun c => funext fun k => by unfold xV gr gi; rw [f1, f3]
  have key : ∀ x : Cell, H[a]? = some x → H'[a]? = some x := fun x hx => (hq (Array.getElem?_eq_some_iff.mp hx).1).trans hx
  unfold xAt at h ⊢
  rw [e1, e2, f1, f2, f3]
  revert h h9
  generalize kc Y a = z
  intro h h9
  match z, h9, h with
  | 0, _, h => exact h
  | 1, _, h => exact key _ h
  | 2, _, h => exact key _ h
  | 3, _, h => exact key _ h
  | 4, _, h => exact key _ h
  | 5, _, h => exact key _ h
  | 6, _, h => exact key _ h
  | 7, _, h => exact key _ h
  | 8, _, h => exact key _ h
  | 9, h9, _ => exact absurd rfl h9
  | c + 10, _, h =>
    obtain ⟨b1, b2, b3, b4, b5⟩ := h
    refine ⟨fun hc => ?_, fun hc => key _ (b2 hc), b3, b4, b5⟩
    obtain ⟨r, h1, h2⟩ := b1 hc
    refine ⟨r, h1, ?_⟩
    rw [f4 c]
    obtain ⟨cell, q1, q2⟩ := h2
    exact t_OB.kept ⟨cell, q1, q2⟩ ((key _ q1).trans q1.symm)
/-- one cell has changed -/
theorem xH.put {G : XG} {Y Y' : XY} {N N' : XN} {H H' : Heap} {a : Nat} (h : xH G Y N H) (hz : H'.size = H.size) (oq : ∀ q : Nat, q ≠ a → H'[q]? = H[q]?) (hk : Y'.2 = Y.2) (hr : ∀ b, b ≠ a → ∀ k, Y'.1 b k = Y.1 b k) (hi : ∀ b, b ≠ a → ∀ k, N'.1 b k = N.1 b k) (hl : ∀ b, b ≠ a → ∀ k, N'.2 b k = N.2 b k) (ha : xAt G Y' N' H' a) : xH G Y' N' H' := by
  refine ⟨fun b => ?_, fun b hb hb2 => h.2 b (by unfold kc at hb ⊢; rw [hk] at hb; exact hb) (by unfold kc at hb2 ⊢; rw [hk] at hb2; exact hb2)⟩
  by_cases e : b = a
  · rw [e]; exact ha
  · exact (h.1 b).kept hz (oq b e) (by rw [hk]) (hr b e) (hi b e) (hl b e)
theorem xA_of {G : XG} {Y : XY} {N : XN} {H : Heap} {a : Nat} (h : xH G Y N H) (hk : kc Y a ≠ 0) (hf : frz (kc Y a) = false) : xA G a := h.2 a hk hf
section XH
variable {G : XG} {yy : MethodName} {cc : ByteArray} {nL : Nat} {ret : Option FieldType} {tb : List ExceptionTableEntry} {R : Room} {Z : List Frame → Array Value → State → State → Prop} {Y : XY} {N : XN} {k n pc : Nat} {L : List (Nat × Value)} {st : List Value}
theorem x_getv {a ix ci f M : Nat} {C9 : String} {T9 : u_T} {v : Value} (hd : decode cc pc = .ok (.getfield ix, 3)) (hc : vwCl[ci]? = some (C9, T9, M)) (hin : ∀ w ∈ u_ws C9 T9 M, w ∈ UW) (hf : f < M) (hw : Cond.fieldLink yy.cls ix (T9 f).1 (T9 f).2.1 (T9 f).2.2.1 ∈ UW) (hk : kc Y a = ci + 10) (hv : xV Y N ci a f = v)
    (kk : ExZ G yy cc nL ret tb R Z k n (pc + 3) L (v :: st) Y N) : ExZ G yy cc nL ret tb R Z k n pc L (.ref a :: st) Y N := by
  intro p l e s m args below meth c H locs ls C hH hS hL
  have k1 := kk p l e s m args below meth c H locs ls C hH hS hL
  obtain ⟨hx, -, hb, hml, hown, -, -, -, -, hts, hK, -, -⟩ := C
  obtain ⟨r, h1, cell, q1, q2, q3, q4⟩ := xAt_o (vl_lt hc) hk (hH.1 a)
  have hr : r = (C9, T9, M) := Option.some.inj (h1.symm.trans hc)
  subst hr
  obtain ⟨hS', hfc, kC, hkC, hkind⟩ := hK.1 ci _ hc
  obtain ⟨cf, kf, fi, fd, hi, hsl⟩ := hS' f hf
  refine W.getf hx hb hown (hts _ hw) hi (u_facts hfc hkC (u_lays hts hin hf) hi).1 q1 (by rw [q3]; exact fun h => by cases h) (v := v) ?_ rfl rfl hd k1
  rw [hsl, q4 f hf, hv]
theorem x_geti {a ix ci f M : Nat} {C9 : String} {T9 : u_T} (hd : decode cc pc = .ok (.getfield ix, 3)) (hc : vwCl[ci]? = some (C9, T9, M)) (hin : ∀ w ∈ u_ws C9 T9 M, w ∈ UW) (hf : f < M) (hw : Cond.fieldLink yy.cls ix (T9 f).1 (T9 f).2.1 (T9 f).2.2.1 ∈ UW) (hr : xrf ci f = false) (hk : kc Y a = ci + 10)
    (kk : ExZ G yy cc nL ret tb R Z k n (pc + 3) L (.int (gi N a f) :: st) Y N) : ExZ G yy cc nL ret tb R Z k n pc L (.ref a :: st) Y N :=
  x_getv hd hc hin hf hw hk (by unfold xV; rw [hr]; rfl) kk
theorem x_getr {a ix ci f M b : Nat} {C9 : String} {T9 : u_T} (hd : decode cc pc = .ok (.getfield ix, 3)) (hc : vwCl[ci]? = some (C9, T9, M)) (hin : ∀ w ∈ u_ws C9 T9 M, w ∈ UW) (hf : f < M) (hw : Cond.fieldLink yy.cls ix (T9 f).1 (T9 f).2.1 (T9 f).2.2.1 ∈ UW) (hr : xrf ci f = true) (hk : kc Y a = ci + 10) (hg : gr Y a f = some b)
    (kk : ExZ G yy cc nL ret tb R Z k n (pc + 3) L (.ref b :: st) Y N) : ExZ G yy cc nL ret tb R Z k n pc L (.ref a :: st) Y N :=
  x_getv hd hc hin hf hw hk (by unfold xV; rw [hr, hg]; rfl) kk
theorem x_putv {a ix ci f M : Nat} {C9 : String} {T9 : u_T} {v : Value} {ty0 : Nat → FieldType} {Y' : XY} {N' : XN} (hd : decode cc pc = .ok (.putfield ix, 3)) (hc : vwCl[ci]? = some (C9, T9, M)) (hin : ∀ w ∈ u_ws C9 T9 M, w ∈ UW) (hty : ∀ k, k < M → parseFieldDescriptor (T9 k).2.2.1 = some (ty0 k)) (hnm : ∀ a, a < M → ∀ b, b < M → a ≠ b → (T9 a).2.1 ≠ (T9 b).2.1) (hf : f < M) (hw : Cond.fieldLink yy.cls ix (T9 f).1 (T9 f).2.1 (T9 f).2.2.1 ∈ UW) (hfin : (T9 f).2.2.2 = false) (hn9 : narrow (ty0 f) v = v) (hfit : fits (ty0 f) v = true) (hk : kc Y a = ci + 10)
    (hY : Y'.2 = Y.2) (hr : ∀ b, b ≠ a → ∀ k, Y'.1 b k = Y.1 b k) (hi9 : ∀ b, b ≠ a → ∀ k, N'.1 b k = N.1 b k) (hl9 : ∀ b, b ≠ a → ∀ k, N'.2 b k = N.2 b k) (hV : ∀ j, j < M → updV (xV Y N ci a) f v j = xV Y' N' ci a j)
    (kk : ExZ G yy cc nL ret tb R Z k n (pc + 3) L st Y' N') : ExZ G yy cc nL ret tb R Z k n pc L (v :: .ref a :: st) Y N := by
  intro p l e s m args below meth c H locs ls C hH hS hL
  have k1 := fun H' locs' hH' hS' => kk p l e s m args below meth c H' locs' ls C hH' hS' hL
  obtain ⟨hx, -, hb, hml, hown, -, -, -, -, hts, hK, -, -⟩ := C
  have hap := va_apart (own := yy.cls) hts hin ty0 hty hnm hK hc
  obtain ⟨r, h1, cell, q1, q2, q3, q4⟩ := xAt_o (vl_lt hc) hk (hH.1 a)
  have hr9 : r = (C9, T9, M) := Option.some.inj (h1.symm.trans hc)
  subst hr9
  obtain ⟨hS', hfc, kC, hkC, hkind⟩ := hK.1 ci _ hc
  obtain ⟨cf, kf, fi, fd, hi, hsl⟩ := hS' f hf
  have hlay := hts _ (hin _ (u_in_lay hf))
  unfold u_lay at hlay
  rw [if_neg (by rw [hfin]; decide)] at hlay
  have hst := (u_facts hfc hkC (u_lays hts hin hf) hi).1
  have h6 := u_store hfc hkC hkind hlay hi (hty f hf) hn9 hfit
  refine W.putK hx hb (f := fd) ⟨hown, hts _ hw, ⟨_, _, _, hi⟩, hst⟩ (by rw [q2]; exact h6) q1 q3 (by rw [hsl]; exact k2_hasslot (q4 f hf)) rfl rfl hd fun H' e1 e2 e3 => ?_
  rw [hsl] at e1 ⊢
  refine k1 H' _ (hH.put e2 e3 hY hr hi9 hl9 ?_) (hS.put e2 e3 (hH.2 a (by rw [hk]; omega) (fz_o hk hc)))
  have hk' : kc Y' a = ci + 10 := by unfold kc at hk ⊢; rw [hY]; exact hk
  exact xAt.ofO hk' hc (t_OB.to (V := updV (xV Y N ci a) f v) ⟨_, e1, q2, q3, t_set q4 hap hf v⟩ hV)
theorem si_ne {N : XN} {a f : Nat} {v : Int32} {b : Nat} (h : b ≠ a) (k : Nat) : (si N a f v).1 b k = N.1 b k := by
  show (if b = a ∧ k = f then v else N.1 b k) = _
  rw [if_neg (fun q => h q.1)]
theorem x_puti {a ix ci f M : Nat} {C9 : String} {T9 : u_T} {v : Int32} {ty0 : Nat → FieldType} (hd : decode cc pc = .ok (.putfield ix, 3)) (hc : vwCl[ci]? = some (C9, T9, M)) (hin : ∀ w ∈ u_ws C9 T9 M, w ∈ UW) (hty : ∀ k, k < M → parseFieldDescriptor (T9 k).2.2.1 = some (ty0 k)) (hnm : ∀ a, a < M → ∀ b, b < M → a ≠ b → (T9 a).2.1 ≠ (T9 b).2.1) (hf : f < M) (hw : Cond.fieldLink yy.cls ix (T9 f).1 (T9 f).2.1 (T9 f).2.2.1 ∈ UW) (hfin : (T9 f).2.2.2 = false) (hr : xrf ci f = false) (hn9 : narrow (ty0 f) (.int v) = .int v) (hfit : fits (ty0 f) (.int v) = true) (hk : kc Y a = ci + 10)
    (kk : ExZ G yy cc nL ret tb R Z k n (pc + 3) L st Y (si N a f v)) : ExZ G yy cc nL ret tb R Z k n pc L (.int v :: .ref a :: st) Y N := by
  refine x_putv (Y' := Y) (N' := si N a f v) hd hc hin hty hnm hf hw hfin hn9 hfit hk rfl (fun _ _ _ => rfl) (fun b hb k => si_ne hb k) (fun _ _ _ => rfl) (fun j _ => ?_) kk
  by_cases e : j = f
  · subst e
    simp [updV, xV, hr, gi, si]
  · simp [updV, xV, gi, si, e]
theorem x_putr {a b ix ci f M : Nat} {C9 : String} {T9 : u_T} {ty0 : Nat → FieldType} (hd : decode cc pc = .ok (.putfield ix, 3)) (hc : vwCl[ci]? = some (C9, T9, M)) (hin : ∀ w ∈ u_ws C9 T9 M, w ∈ UW) (hty : ∀ k, k < M → parseFieldDescriptor (T9 k).2.2.1 = some (ty0 k)) (hnm : ∀ a, a < M → ∀ b, b < M → a ≠ b → (T9 a).2.1 ≠ (T9 b).2.1) (hf : f < M) (hw : Cond.fieldLink yy.cls ix (T9 f).1 (T9 f).2.1 (T9 f).2.2.1 ∈ UW) (hfin : (T9 f).2.2.2 = false) (hr : xrf ci f = true) (hn9 : narrow (ty0 f) (.ref b) = .ref b) (hfit : fits (ty0 f) (.ref b) = true) (hk : kc Y a = ci + 10)
    (kk : ExZ G yy cc nL ret tb R Z k n (pc + 3) L st (sr Y a f (some b)) N) : ExZ G yy cc nL ret tb R Z k n pc L (.ref b :: .ref a :: st) Y N := by
  refine x_putv (Y' := sr Y a f (some b)) (N' := N) hd hc hin hty hnm hf hw hfin hn9 hfit hk rfl (fun q hq k => ?_) (fun _ _ _ => rfl) (fun _ _ _ => rfl) (fun j _ => ?_) kk
  · show (if q = a ∧ k = f then some b else Y.1 q k) = _
    rw [if_neg (fun z => hq z.1)]
  · by_cases e : j = f
    · subst e
      simp [updV, xV, hr, gr, sr, va_rf]
    · simp [updV, xV, gr, sr, e]
theorem x_iald {a : Nat} {i : Int32} (hd : decode cc pc = .ok (.iaload, 1)) (hk : kc Y a = 1) (hin : vp_in i (kn Y a)) {j9 : Nat} (hj9 : i.toNatClampNeg = j9)
    (kk : ExZ G yy cc nL ret tb R Z k n (pc + 1) L (.int (gi N a j9) :: st) Y N) : ExZ G yy cc nL ret tb R Z k n pc L (.int i :: .ref a :: st) Y N := by
  subst hj9
  intro p l e s m args below meth c H locs ls C hH hS hL
  have k1 := kk p l e s m args below meth c H locs ls C hH hS hL
  have hlt : i.toNatClampNeg < kn Y a := Nat.not_le.mp fun q => hin (Or.inr q)
  exact W.iald (v := .int (N.1 a i.toNatClampNeg)) C.1 C.2.2.1 (xAt_1 hk (hH.1 a)) ((C.2.2.2.2.2.2.2.2.2.2.1.2 0 _ rfl).1 (kn Y a) (fun j => .int (N.1 a j))) (fun q => by cases q) (by show ¬ (i < 0 ∨ (arrV _ _ _).slots.size ≤ _); rw [arrV_size]; exact hin) (by show (arrV _ _ _).slots[_]? = _; rw [arrV_read _ _ hlt]) rfl rfl hd k1
theorem x_bald {a : Nat} {i : Int32} (hd : decode cc pc = .ok (.baload, 1)) (hk : kc Y a = 2) (hin : vp_in i (kn Y a)) {j9 : Nat} (hj9 : i.toNatClampNeg = j9)
    (kk : ExZ G yy cc nL ret tb R Z k n (pc + 1) L (.int (gi N a j9) :: st) Y N) : ExZ G yy cc nL ret tb R Z k n pc L (.int i :: .ref a :: st) Y N := by
  subst hj9
  intro p l e s m args below meth c H locs ls C hH hS hL
  have k1 := kk p l e s m args below meth c H locs ls C hH hS hL
  have hlt : i.toNatClampNeg < kn Y a := Nat.not_le.mp fun q => hin (Or.inr q)
  exact W.bald (v := .int (N.1 a i.toNatClampNeg)) C.1 C.2.2.1 (xAt_2 hk (hH.1 a)) ((C.2.2.2.2.2.2.2.2.2.2.1.2 1 _ rfl).1 (kn Y a) (fun j => .int (N.1 a j))) (fun q => by cases q) (by show ¬ (i < 0 ∨ (arrV _ _ _).slots.size ≤ _); rw [arrV_size]; exact hin) (by show (arrV _ _ _).slots[_]? = _; rw [arrV_read _ _ hlt]) rfl rfl hd k1
theorem x_lald {a : Nat} {i : Int32} (hd : decode cc pc = .ok (.laload, 1)) (hk : kc Y a = 3) (hin : vp_in i (kn Y a)) {j9 : Nat} (hj9 : i.toNatClampNeg = j9)
    (kk : ExZ G yy cc nL ret tb R Z k n (pc + 1) L (.long (gl N a j9) :: st) Y N) : ExZ G yy cc nL ret tb R Z k n pc L (.int i :: .ref a :: st) Y N := by
  subst hj9
  intro p l e s m args below meth c H locs ls C hH hS hL
  have k1 := kk p l e s m args below meth c H locs ls C hH hS hL
  have hlt : i.toNatClampNeg < kn Y a := Nat.not_le.mp fun q => hin (Or.inr q)
  exact W.lald (v := .long (N.2 a i.toNatClampNeg)) C.1 C.2.2.1 (xAt_3 hk (hH.1 a)) ((C.2.2.2.2.2.2.2.2.2.2.1.2 2 _ rfl).1 (kn Y a) (fun j => .long (N.2 a j))) (fun q => by cases q) (by show ¬ (i < 0 ∨ (arrV _ _ _).slots.size ≤ _); rw [arrV_size]; exact hin) (by show (arrV _ _ _).slots[_]? = _; rw [arrV_read _ _ hlt]) rfl rfl hd k1
theorem x_iast {a : Nat} {i v : Int32} (hd : decode cc pc = .ok (.iastore, 1)) (hk : kc Y a = 1) (hin : vp_in i (kn Y a)) {j9 : Nat} (hj9 : i.toNatClampNeg = j9)
    (kk : ExZ G yy cc nL ret tb R Z k n (pc + 1) L st Y (si N a j9 v)) : ExZ G yy cc nL ret tb R Z k n pc L (.int v :: .int i :: .ref a :: st) Y N := by
  subst hj9
  intro p l e s m args below meth c H locs ls C hH hS hL
  have k1 := fun H' locs' hH' hS' => kk p l e s m args below meth c H' locs' ls C hH' hS' hL
  refine W.iast C.1 C.2.2.1 (xAt_1 hk (hH.1 a)) ((C.2.2.2.2.2.2.2.2.2.2.1.2 0 _ rfl).1 (kn Y a) (fun j => .int (N.1 a j))) (fun q => by cases q) (by show ¬ (i < 0 ∨ (arrV _ _ _).slots.size ≤ _); rw [arrV_size]; exact hin) rfl rfl hd fun H1 e1 z oq => ?_
  refine k1 H1 _ (hH.put z oq rfl (fun _ _ _ => rfl) (fun b hb k => si_ne hb k) (fun _ _ _ => rfl) ?_) (hS.put z oq (hH.2 a (by rw [hk]; omega) (by rw [hk]; rfl)))
  unfold xAt
  rw [hk]
  show H1[a]? = some (vp_cell _ _)
  rw [e1, vp_cell_i, vp_cell_i, arrV_store]
  congr 2
  funext q
  by_cases hq : q = i.toNatClampNeg
  · subst hq
    simp [updV, si]
  · simp [updV, si, hq]
theorem x_bast {a : Nat} {i v : Int32} (hd : decode cc pc = .ok (.bastore, 1)) (hk : kc Y a = 2) (hin : vp_in i (kn Y a)) {j9 : Nat} (hj9 : i.toNatClampNeg = j9)
    (kk : ExZ G yy cc nL ret tb R Z k n (pc + 1) L st Y (si N a j9 (vp_nar .byte v))) : ExZ G yy cc nL ret tb R Z k n pc L (.int v :: .int i :: .ref a :: st) Y N := by
  subst hj9
  intro p l e s m args below meth c H locs ls C hH hS hL
  have k1 := fun H' locs' hH' hS' => kk p l e s m args below meth c H' locs' ls C hH' hS' hL
  refine W.bast C.1 C.2.2.1 (xAt_2 hk (hH.1 a)) ((C.2.2.2.2.2.2.2.2.2.2.1.2 1 _ rfl).1 (kn Y a) (fun j => .int (N.1 a j))) (fun q => by cases q) (by show ¬ (i < 0 ∨ (arrV _ _ _).slots.size ≤ _); rw [arrV_size]; exact hin) rfl rfl hd fun H1 e1 z oq => ?_
  refine k1 H1 _ (hH.put z oq rfl (fun _ _ _ => rfl) (fun b hb k => si_ne hb k) (fun _ _ _ => rfl) ?_) (hS.put z oq (hH.2 a (by rw [hk]; omega) (by rw [hk]; rfl)))
  unfold xAt
  rw [hk]
  show H1[a]? = some (vp_cell _ _)
  rw [e1, vp_cell_i, vp_cell_i, arrV_store]
  congr 2
  funext q
  by_cases hq : q = i.toNatClampNeg
  · subst hq
    simp [updV, si, vp_nar]
    try rfl
  · simp [updV, si, hq]
theorem x_last {a : Nat} {i : Int32} {v : Int64} (hd : decode cc pc = .ok (.lastore, 1)) (hk : kc Y a = 3) (hin : vp_in i (kn Y a)) {j9 : Nat} (hj9 : i.toNatClampNeg = j9)
    (kk : ExZ G yy cc nL ret tb R Z k n (pc + 1) L st Y (sl N a j9 v)) : ExZ G yy cc nL ret tb R Z k n pc L (.long v :: .int i :: .ref a :: st) Y N := by
  subst hj9
  intro p l e s m args below meth c H locs ls C hH hS hL
  have k1 := fun H' locs' hH' hS' => kk p l e s m args below meth c H' locs' ls C hH' hS' hL
  refine W.last C.1 C.2.2.1 (xAt_3 hk (hH.1 a)) ((C.2.2.2.2.2.2.2.2.2.2.1.2 2 _ rfl).1 (kn Y a) (fun j => .long (N.2 a j))) (fun q => by cases q) (by show ¬ (i < 0 ∨ (arrV _ _ _).slots.size ≤ _); rw [arrV_size]; exact hin) rfl rfl hd fun H1 e1 z oq => ?_
  refine k1 H1 _ (hH.put z oq rfl (fun _ _ _ => rfl) (fun _ _ _ => rfl) (fun b hb k => ?_) ?_) (hS.put z oq (hH.2 a (by rw [hk]; omega) (by rw [hk]; rfl)))
  · show (if b = a ∧ k = i.toNatClampNeg then v else N.2 b k) = _
    rw [if_neg (fun q => hb q.1)]
  · unfold xAt
    rw [hk]
    show H1[a]? = some (vp_cell _ _)
    rw [e1, vp_cell_l, vp_cell_l, arrV_store]
    congr 2
    funext q
    by_cases hq : q = i.toNatClampNeg
    · subst hq
      simp [updV, sl]
    · simp [updV, sl, hq]
theorem x_aald {a b j : Nat} {i : Int32} (hd : decode cc pc = .ok (.aaload, 1)) (hj : j < 5) (hk : kc Y a = j + 4) (hin : vp_in i (kn Y a)) (hg : gr Y a i.toNatClampNeg = some b)
    (kk : ExZ G yy cc nL ret tb R Z k n (pc + 1) L (.ref b :: st) Y N) : ExZ G yy cc nL ret tb R Z k n pc L (.int i :: .ref a :: st) Y N := by
  intro p l e s m args below meth c H locs ls C hH hS hL
  have k1 := kk p l e s m args below meth c H locs ls C hH hS hL
  have hlt : i.toNatClampNeg < kn Y a := Nat.not_le.mp fun q => hin (Or.inr q)
  have hcell := xAt_r hj hk (hH.1 a)
  have hK := C.2.2.2.2.2.2.2.2.2.2.1
  have key : ∀ (ty : FieldType) (cA : ClassId), (xTys G)[j + 3]? = some (cA, ty) → cA = G.2.1 (j + 3) → ty.isReference = true → W p l e R s m args below meth c H locs k n (Z below args s) (F0 m pc ls (.int i :: .ref a :: st)) := by
    intro ty cA h1 h2 h3
    subst h2
    refine W.aald (v := .ref b) (ty := ty) C.1 C.2.2.1 hcell ((hK.2 _ _ h1).1 (kn Y a) (fun j => va_rf (Y.1 a j))) h3 (fun q => by cases q) (by show ¬ (i < 0 ∨ (arrV _ _ _).slots.size ≤ _); rw [arrV_size]; exact hin) ?_ rfl rfl hd k1
    show (arrV _ _ _).slots[_]? = _
    rw [arrV_read _ _ hlt]
    have hg9 : Y.1 a i.toNatClampNeg = some b := hg
    rw [hg9]; rfl
  match j, hj, key with
  | 0, _, key => exact key _ _ rfl rfl rfl
  | 1, _, key => exact key _ _ rfl rfl rfl
  | 2, _, key => exact key _ _ rfl rfl rfl
  | 3, _, key => exact key _ _ rfl rfl rfl
  | 4, _, key => exact key _ _ rfl rfl rfl
theorem x_blen {a : Nat} {v : Int32} (hd : decode cc pc = .ok (.arraylength, 1)) (hk : kc Y a = 2) (hv : Int32.ofNat (kn Y a) = v)
    (kk : ExZ G yy cc nL ret tb R Z k n (pc + 1) L (.int v :: st) Y N) : ExZ G yy cc nL ret tb R Z k n pc L (.ref a :: st) Y N := by
  intro p l e s m args below meth c H locs ls C hH hS hL
  have k1 := kk p l e s m args below meth c H locs ls C hH hS hL
  exact W.alen C.1 C.2.2.1 (xAt_2 hk (hH.1 a)) ((C.2.2.2.2.2.2.2.2.2.2.1.2 1 _ rfl).1 (kn Y a) (fun j => .int (N.1 a j))) (by show (arrV _ _ _).slots.size.toInt32 = _; rw [arrV_size]; exact hv) rfl rfl hd k1
theorem x_ilen {a : Nat} {v : Int32} (hd : decode cc pc = .ok (.arraylength, 1)) (hk : kc Y a = 1) (hv : Int32.ofNat (kn Y a) = v)
    (kk : ExZ G yy cc nL ret tb R Z k n (pc + 1) L (.int v :: st) Y N) : ExZ G yy cc nL ret tb R Z k n pc L (.ref a :: st) Y N := by
  intro p l e s m args below meth c H locs ls C hH hS hL
  have k1 := kk p l e s m args below meth c H locs ls C hH hS hL
  exact W.alen C.1 C.2.2.1 (xAt_1 hk (hH.1 a)) ((C.2.2.2.2.2.2.2.2.2.2.1.2 0 _ rfl).1 (kn Y a) (fun j => .int (N.1 a j))) (by show (arrV _ _ _).slots.size.toInt32 = _; rw [arrV_size]; exact hv) rfl rfl hd k1
theorem x_rlen {a j : Nat} {v : Int32} (hd : decode cc pc = .ok (.arraylength, 1)) (hj : j < 5) (hk : kc Y a = j + 4) (hv : Int32.ofNat (kn Y a) = v)
    (kk : ExZ G yy cc nL ret tb R Z k n (pc + 1) L (.int v :: st) Y N) : ExZ G yy cc nL ret tb R Z k n pc L (.ref a :: st) Y N := by
  intro p l e s m args below meth c H locs ls C hH hS hL
  have k1 := kk p l e s m args below meth c H locs ls C hH hS hL
  have hcell := xAt_r hj hk (hH.1 a)
  have hK := C.2.2.2.2.2.2.2.2.2.2.1
  have key : ∀ (ty : FieldType) (cA : ClassId), (xTys G)[j + 3]? = some (cA, ty) → cA = G.2.1 (j + 3) → W p l e R s m args below meth c H locs k n (Z below args s) (F0 m pc ls (.ref a :: st)) := by
    intro ty cA h1 h2
    subst h2
    exact W.alen C.1 C.2.2.1 hcell ((hK.2 _ _ h1).1 (kn Y a) (fun j => va_rf (Y.1 a j))) (by show (arrV _ _ _).slots.size.toInt32 = _; rw [arrV_size]; exact hv) rfl rfl hd k1
  match j, hj, key with
  | 0, _, key => exact key _ _ rfl rfl
  | 1, _, key => exact key _ _ rfl rfl
  | 2, _, key => exact key _ _ rfl rfl
  | 3, _, key => exact key _ _ rfl rfl
  | 4, _, key => exact key _ _ rfl rfl
theorem xPre_blind {As : List Value} : FrameBlind (va_Pc As (xPre G Y N)) := fun a U g mk h => by
  obtain ⟨h0, hK, hH, hC, hB⟩ := h
  exact ⟨h0, va_K.moved (u := U) (U := U.calling g mk a) (Vm.Alike.refl U.vm) hK, hH, hC.calling, hB⟩
end XH
