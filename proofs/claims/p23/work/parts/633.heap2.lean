/-! MORE OF THE HEAP: references that may be null, int[][], Desk[], Strings, byte arrays -/
theorem xAt_D {G : XG} {Y : XY} {N : XN} {H : Heap} {a : Nat} (hk : kc Y a = 43) (h : xAt G Y N H a) : H[a]? = some (vp_cell (G.2.1 8) (kn Y a, .inr (.inr (.inr (.inr (Y.1 a)))))) := by
  unfold xAt at h
  rw [hk] at h
  exact h.2.1 rfl
theorem xAt.ofD {G : XG} {Y : XY} {N : XN} {H : Heap} {a : Nat} (hk : kc Y a = 43) (h : H[a]? = some (vp_cell (G.2.1 8) (kn Y a, .inr (.inr (.inr (.inr (Y.1 a))))))) : xAt G Y N H a := by
  unfold xAt
  rw [hk]
  exact ⟨fun e => absurd e (by decide), fun _ => h, fun e => absurd e (by decide), fun e => absurd e (by decide), fun e => absurd e (by decide)⟩
theorem xAt_FS {G : XG} {Y : XY} {N : XN} {H : Heap} {a : Nat} (hk : kc Y a = 40) (h : xAt G Y N H a) : ∃ i, i < 37 ∧ a = xS G i ∧ Y.1 a 0 = some (xSv G i) ∧ N.1 a 1 = 0 := by
  unfold xAt at h
  rw [hk] at h
  exact h.2.2.1 rfl
theorem xAt_FB {G : XG} {Y : XY} {N : XN} {H : Heap} {a : Nat} (hk : kc Y a = 41) (h : xAt G Y N H a) : ∃ i, (i < 37 ∨ i = 100 ∨ i = 101) ∧ a = xSv G i ∧ kn Y a = (xBy i).length ∧ ∀ j, j < (xBy i).length → N.1 a j = (xBy i).getD j 0 := by
  unfold xAt at h
  rw [hk] at h
  exact h.2.2.2.1 rfl
theorem xAt_FA {G : XG} {Y : XY} {N : XN} {H : Heap} {a : Nat} (hk : kc Y a = 42) (h : xAt G Y N H a) : ∃ i, (i = 102 ∨ i = 103) ∧ a = xSv G i ∧ kn Y a = (xRy i).length ∧ ∀ j, j < (xRy i).length → Y.1 a j = some (xS G ((xRy i).getD j 0)) := by
  unfold xAt at h
  rw [hk] at h
  exact h.2.2.2.2 rfl
theorem xC.byt {G : XG} {U : State} {H : Heap} (h : xC G U H) {i : Nat} (hi : i < 37 ∨ i = 100 ∨ i = 101) : va_T .byte (xSv G i) (xBy i).length (fun j => .int ((xBy i).getD j 0)) (xA G) U H := by
  rcases hi with hi | hi
  · have := (h.str i hi).2.2.2
    have e : xBy i = xWo i := by unfold xBy; rw [if_neg (by omega), if_neg (by omega)]
    rw [e]; exact this
  · exact h.dig i hi
def isB (k : Nat) : Bool := k == 2 || k == 41
def isS (k : Nat) : Bool := k == 21 || k == 40
theorem isB_or {k : Nat} (h : isB k = true) : k = 2 ∨ k = 41 := by
  unfold isB at h
  simpa using h
theorem isS_or {k : Nat} (h : isS k = true) : k = 21 ∨ k = 40 := by
  unfold isS at h
  simpa using h
theorem va_assignSelf (vm : Vm) (c : ClassId) : vm.assignable c c = true := by
  show vm.assignableAux (255 + 1) c c = true
  rw [Vm.assignableAux]
  simp only [beq_self_eq_true, Bool.true_or]
section XH2
variable {G : XG} {yy zz : MethodName} {cc cc' : ByteArray} {nL nL' : Nat} {ret ret' : Option FieldType} {tb : List ExceptionTableEntry} {R R' : Room} {Z : List Frame → Array Value → State → State → Prop} {Y Y' : XY} {N N' : XN} {k n pc : Nat} {L : List (Nat × Value)} {st rest As : List Value} {v : Option Value} {ix q : Nat}
theorem x_getq {a ix ci f M : Nat} {C9 : String} {T9 : u_T} (hd : decode cc pc = .ok (.getfield ix, 3)) (hc : vwCl[ci]? = some (C9, T9, M)) (hin : ∀ w ∈ u_ws C9 T9 M, w ∈ UW) (hf : f < M) (hw : Cond.fieldLink yy.cls ix (T9 f).1 (T9 f).2.1 (T9 f).2.2.1 ∈ UW) (hr : xrf ci f = true) (hk : kc Y a = ci + 10)
    (kk : ExZ G yy cc nL ret tb R Z k n (pc + 3) L (va_rf (gr Y a f) :: st) Y N) : ExZ G yy cc nL ret tb R Z k n pc L (.ref a :: st) Y N :=
  x_getv hd hc hin hf hw hk (by unfold xV; rw [hr]; rfl) kk
theorem x_putq {a ix ci f M : Nat} {o : Option Nat} {C9 : String} {T9 : u_T} {ty0 : Nat → FieldType} (hd : decode cc pc = .ok (.putfield ix, 3)) (hc : vwCl[ci]? = some (C9, T9, M)) (hin : ∀ w ∈ u_ws C9 T9 M, w ∈ UW) (hty : ∀ k, k < M → parseFieldDescriptor (T9 k).2.2.1 = some (ty0 k)) (hnm : ∀ a, a < M → ∀ b, b < M → a ≠ b → (T9 a).2.1 ≠ (T9 b).2.1) (hf : f < M) (hw : Cond.fieldLink yy.cls ix (T9 f).1 (T9 f).2.1 (T9 f).2.2.1 ∈ UW) (hfin : (T9 f).2.2.2 = false) (hr : xrf ci f = true) (hn9 : narrow (ty0 f) (va_rf o) = va_rf o) (hfit : fits (ty0 f) (va_rf o) = true) (hk : kc Y a = ci + 10)
    (kk : ExZ G yy cc nL ret tb R Z k n (pc + 3) L st (sr Y a f o) N) : ExZ G yy cc nL ret tb R Z k n pc L (va_rf o :: .ref a :: st) Y N := by
  refine x_putv (Y' := sr Y a f o) (N' := N) hd hc hin hty hnm hf hw hfin hn9 hfit hk rfl (fun q hq k => ?_) (fun _ _ _ => rfl) (fun _ _ _ => rfl) (fun j _ => ?_) kk
  · show (if q = a ∧ k = f then o else Y.1 q k) = _
    rw [if_neg (fun z => hq z.1)]
  · by_cases e : j = f
    · subst e
      simp [updV, xV, hr, gr, sr]
    · simp [updV, xV, gr, sr, e]
theorem x_null (hd : decode cc pc = .ok (.aconst_null, 1)) (kk : ExZ G yy cc nL ret tb R Z k n (pc + 1) L (.null :: st) Y N) : ExZ G yy cc nL ret tb R Z k n pc L st Y N := fun p l e s m args below meth c H locs ls C hH hS hL => lv_null C.1 C.2.2.1 hd (kk p l e s m args below meth c H locs ls C hH hS hL)
theorem x_ifnn_t {z : Int} {tgt b : Nat} {o : Option Nat} (hd : decode cc pc = .ok (.ifnonnull z, 3)) (ht : (pc : Int) + z = (tgt : Int)) (ho : o = some b) (kk : ExZ G yy cc nL ret tb R Z k n tgt L st Y N) : ExZ G yy cc nL ret tb R Z k n pc L (va_rf o :: st) Y N := by
  subst ho
  exact fun p l e s m args below meth c H locs ls C hH hS hL => lv_ifnonnull C.1 C.2.2.1 hd ht (kk p l e s m args below meth c H locs ls C hH hS hL)
theorem x_ifnn_r {z : Int} {tgt b : Nat} (hd : decode cc pc = .ok (.ifnonnull z, 3)) (ht : (pc : Int) + z = (tgt : Int)) (kk : ExZ G yy cc nL ret tb R Z k n tgt L st Y N) : ExZ G yy cc nL ret tb R Z k n pc L (.ref b :: st) Y N :=
  fun p l e s m args below meth c H locs ls C hH hS hL => lv_ifnonnull C.1 C.2.2.1 hd ht (kk p l e s m args below meth c H locs ls C hH hS hL)
theorem x_ifnn_f {z : Int} {o : Option Nat} (hd : decode cc pc = .ok (.ifnonnull z, 3)) (ho : o = none) (kk : ExZ G yy cc nL ret tb R Z k n (pc + 3) L st Y N) : ExZ G yy cc nL ret tb R Z k n pc L (va_rf o :: st) Y N := by
  subst ho
  exact fun p l e s m args below meth c H locs ls C hH hS hL => lv_ifnonnullN C.1 C.2.2.1 hd (kk p l e s m args below meth c H locs ls C hH hS hL)
theorem x_nmq {o : Option Nat} {b : Nat} (h : o = some b) (kk : ExZ G yy cc nL ret tb R Z k n pc L (.ref b :: st) Y N) : ExZ G yy cc nL ret tb R Z k n pc L (va_rf o :: st) Y N := by
  subst h
  exact kk
theorem x_nmY {Y9 : XY} (h : Y9 = Y) (kk : ExZ G yy cc nL ret tb R Z k n pc L st Y9 N) : ExZ G yy cc nL ret tb R Z k n pc L st Y N := h ▸ kk
theorem x_nmM {N9 : XN} (h : N9 = N) (kk : ExZ G yy cc nL ret tb R Z k n pc L st Y N9) : ExZ G yy cc nL ret tb R Z k n pc L st Y N := h ▸ kk
/-- Desk[] -/
theorem x_aaldD {a : Nat} {i : Int32} (hd : decode cc pc = .ok (.aaload, 1)) (hk : kc Y a = 43) (hin : vp_in i (kn Y a))
    (kk : ExZ G yy cc nL ret tb R Z k n (pc + 1) L (va_rf (gr Y a i.toNatClampNeg) :: st) Y N) : ExZ G yy cc nL ret tb R Z k n pc L (.int i :: .ref a :: st) Y N := by
  intro p l e s m args below meth c H locs ls C hH hS hL
  have k1 := kk p l e s m args below meth c H locs ls C hH hS hL
  have hlt : i.toNatClampNeg < kn Y a := Nat.not_le.mp fun q => hin (Or.inr q)
  have hcell := xAt_D hk (hH.1 a)
  have hK := C.2.2.2.2.2.2.2.2.2.2.1
  refine W.aald (v := va_rf (gr Y a i.toNatClampNeg)) (ty := .object RX8) C.1 C.2.2.1 hcell ((hK.2 8 _ rfl).1 (kn Y a) (fun j => va_rf (Y.1 a j))) rfl (fun q => by cases q) (by show ¬ (i < 0 ∨ (arrV _ _ _).slots.size ≤ _); rw [arrV_size]; exact hin) ?_ rfl rfl hd k1
  show (arrV _ _ _).slots[_]? = _
  rw [arrV_read _ _ hlt]
  rfl
theorem x_aastD {a : Nat} {o : Option Nat} {i : Int32} (hd : decode cc pc = .ok (.aastore, 1)) (hk : kc Y a = 43) (hin : vp_in i (kn Y a)) (ho : ∀ b, o = some b → kc Y b = 18)
    (kk : ExZ G yy cc nL ret tb R Z k n (pc + 1) L st (sr Y a i.toNatClampNeg o) N) : ExZ G yy cc nL ret tb R Z k n pc L (va_rf o :: .int i :: .ref a :: st) Y N := by
  intro p l e s m args below meth c H locs ls C hH hS hL
  have k1 := fun H' locs' hH' hS' => kk p l e s m args below meth c H' locs' ls C hH' hS' hL
  have hK := C.2.2.2.2.2.2.2.2.2.2.1
  have hlt : i.toNatClampNeg < kn Y a := Nat.not_le.mp fun q => hin (Or.inr q)
  have h0 : ¬ i < 0 := fun q => hin (Or.inl q)
  have hcell := xAt_D hk (hH.1 a)
  have fin : ∀ (H1 : Heap) (locs1 : List Loc), H1[a]? = some ((vp_cell (G.2.1 8) (kn Y a, .inr (.inr (.inr (.inr (Y.1 a)))))).setSlot i.toNatClampNeg (va_rf o)) → H1.size = H.size → (∀ q : Nat, q ≠ a → H1[q]? = H[q]?) → va_S (xA G) s.heap H1 locs1 → W p l e R s m args below meth c H1 locs1 k n (Z below args s) (F0 m (pc + 1) ls st) := by
    intro H1 locs1 e1 z oq hS1
    refine k1 H1 _ (hH.put z oq rfl (fun q hq k => ?_) (fun _ _ _ => rfl) (fun _ _ _ => rfl) ?_) hS1
    · show (if q = a ∧ k = i.toNatClampNeg then o else Y.1 q k) = _
      rw [if_neg (fun z => hq z.1)]
    · have hk' : kc (sr Y a i.toNatClampNeg o) a = 43 := hk
      refine xAt.ofD hk' ?_
      show H1[a]? = some (vp_cell (G.2.1 8) (kn Y a, .inr (.inr (.inr (.inr ((sr Y a i.toNatClampNeg o).1 a))))))
      rw [e1, vp_cell_q, vp_cell_q, arrV_store]
      congr 2
      funext q
      by_cases hq : q = i.toNatClampNeg
      · subst hq
        simp [updV, sr]
      · simp [updV, sr, hq]
  cases o with
  | none =>
    exact va_WaastN (C := RX8) C.1 C.2.2.1 hcell ((hK.2 8 _ rfl).1 (kn Y a) (fun j => va_rf (Y.1 a j))) (fun h => by cases h) (by show ¬ (i < 0 ∨ (arrV _ _ _).slots.size ≤ _); rw [arrV_size]; exact hin) rfl rfl hd fun H1 e1 z oq => fin H1 _ e1 z oq (hS.put z oq (hH.2 a (by rw [hk]; omega) (by rw [hk]; rfl)))
  | some b =>
    have hb9 := ho b rfl
    obtain ⟨r', hr', cellV, g1, g2, g3, -⟩ := xAt_o (ci := 8) (by decide) hb9 (hH.1 b)
    have hcls := (hK.1 8 _ rfl).2
    obtain ⟨kA, comp, k1', k2, k3, -⟩ := (hK.2 8 _ rfl).2
    have hcomp : comp = G.1.1 8 := Option.some.inj (k3.symm.trans hcls.1)
    subst hcomp
    obtain ⟨kC, hkC, -⟩ := hcls.2
    exact W.aast C.1 C.2.2.1 hcell (fun q h => by cases h) (fun h => by cases h) k1' k2 rfl hkC ⟨h0, by show _ < (arrV _ _ _).slots.size; rw [arrV_size]; exact hlt⟩ g1 (fun q h => by rw [g3] at h; cases h) (by rw [g2]; exact hkC) (by rw [g2]; exact va_assignSelf _ _) rfl rfl hd fun H1 e1 z oq => fin H1 _ e1 z oq (hS.put z oq (hH.2 a (by rw [hk]; omega) (by rw [hk]; rfl)))
/-- int[] into int[][] -/
theorem x_aast8 {a b : Nat} {i : Int32} (hd : decode cc pc = .ok (.aastore, 1)) (hk : kc Y a = 8) (hin : vp_in i (kn Y a)) (hb9 : kc Y b = 1)
    (kk : ExZ G yy cc nL ret tb R Z k n (pc + 1) L st (sr Y a i.toNatClampNeg (some b)) N) : ExZ G yy cc nL ret tb R Z k n pc L (.ref b :: .int i :: .ref a :: st) Y N := by
  intro p l e s m args below meth c H locs ls C hH hS hL
  have k1 := fun H' locs' hH' hS' => kk p l e s m args below meth c H' locs' ls C hH' hS' hL
  have hK := C.2.2.2.2.2.2.2.2.2.2.1
  have hlt : i.toNatClampNeg < kn Y a := Nat.not_le.mp fun q => hin (Or.inr q)
  have h0 : ¬ i < 0 := fun q => hin (Or.inl q)
  have hcell := xAt_r (j := 4) (by omega) hk (hH.1 a)
  have hcb := xAt_1 hb9 (hH.1 b)
  obtain ⟨comp, c7, kA, c3, -, c1, c2, c5⟩ := C.2.2.2.2.2.2.2.2.2.2.2.1.aoa.spec
  obtain ⟨-, kI, hkI, compI, hkindI⟩ := (hK.2 0 _ rfl).1 0 (fun _ => .null)
  have hnmI : s.vm.findClass "[I" = some (G.2.1 0) := (hK.2 0 _ rfl).2
  have hcomp : comp = G.2.1 0 := Option.some.inj (c3.symm.trans hnmI)
  subst hcomp
  have hc7 : c7 = G.2.1 7 := Option.some.inj (c5.symm.trans (hK.2 7 _ rfl).2)
  subst hc7
  refine W.aast C.1 C.2.2.1 hcell (fun q h => by cases h) (fun h => by cases h) c1 c2 rfl hkI ⟨h0, by show _ < (arrV _ _ _).slots.size; rw [arrV_size]; exact hlt⟩ hcb (fun q h => by cases h) hkI (va_assignSelf _ _) rfl rfl hd fun H1 e1 z oq => ?_
  refine k1 H1 _ (hH.put z oq rfl (fun q hq k => ?_) (fun _ _ _ => rfl) (fun _ _ _ => rfl) ?_) (hS.put z oq (hH.2 a (by rw [hk]; omega) (by rw [hk]; rfl)))
  · show (if q = a ∧ k = i.toNatClampNeg then some b else Y.1 q k) = _
    rw [if_neg (fun z => hq z.1)]
  · have hk' : kc (sr Y a i.toNatClampNeg (some b)) a = 8 := hk
    unfold xAt
    rw [hk']
    show H1[a]? = some (vp_cell (G.2.1 7) (kn Y a, .inr (.inr (.inr (.inr ((sr Y a i.toNatClampNeg (some b)).1 a))))))
    rw [e1, vp_cell_q, vp_cell_q, arrV_store]
    congr 2
    funext q
    by_cases hq : q = i.toNatClampNeg
    · subst hq
      simp [updV, sr, va_rf]
    · simp [updV, sr, hq]
/-- new int[z][] -/
theorem x_newA {z : Int32} {M : Nat} (hd : decode cc pc = .ok (.anewarray ix, 3)) (hw : Cond.classLink yy.cls ix "[I" ∈ UW) (hz0 : ¬ z < 0) (hM : z.toNatClampNeg = M) (hby : M * 4 ≤ 536870912) (h9 : kc Y q = 9) (hcap : k + 1 ≤ R.cells ∧ n + M ≤ R.slots)
    (kk : ExZ G yy cc nL ret tb R Z (k + 1) (n + M) (pc + 3) L (.ref q :: st) (yK Y q 8 M) (n0 N q)) : ExZ G yy cc nL ret tb R Z k n pc L (.int z :: st) Y N := by
  intro p l e s m args below meth c H locs ls C hH hS hL
  have k1 := fun H' hH' hS' => kk p l e s m args below meth c H' locs ls C hH' hS' hL
  obtain ⟨hx, -, hb, hml, hown, -, -, -, -, hts, hK, hC9, -⟩ := C
  have hz : H.size = q := (hH.1 q).end9 h9
  subst hM
  refine W.anewA (t := .int) hx hb hown (hts _ hw) (hC9.aoa.use) rfl hd rfl hz0 hby hcap.1 hcap.2 fun cA kA comp f1 f2 f3 f4 => ?_
  rw [hz]
  generalize hH1 : H.push ({ cls := cA, slots := Array.replicate z.toNatClampNeg .null, vm := .none } : Cell) = H1
  have z1 : H1.size = q + 1 := by rw [← hH1, Array.size_push, hz]
  have e1 : H1[q]? = some (arrV cA z.toNatClampNeg (fun _ => .null)) := by rw [← hH1, ← hz, Array.getElem?_push_size, ← arrV_new]
  have o1 : ∀ x : Nat, x < q → H1[x]? = H[x]? := fun x hx => by rw [← hH1, Array.getElem?_push, if_neg (by omega)]
  refine k1 H1 (hH.push h9 z1 o1 ?_) (va_S_grow hS (by omega) (fun x hx => o1 x (by omega)))
  have hk : kc (yK Y q 8 z.toNatClampNeg) q = 8 := by simp [kc, yK]
  have hk2 : kn (yK Y q 8 z.toNatClampNeg) q = z.toNatClampNeg := by simp [kn, yK]
  have g1 : (yK Y q 8 z.toNatClampNeg).1 q = fun _ => none := by funext i; simp [yK]
  have hc9 : cA = G.2.1 7 := by
    exact Option.some.inj (f1.symm.trans (hK.2 7 _ rfl).2)
  unfold xAt
  rw [hk, hk2, g1, e1, hc9]
  rfl
/-- new Desk[z] -/
theorem x_newD {z : Int32} {M : Nat} (hd : decode cc pc = .ok (.anewarray ix, 3)) (hw : Cond.classLink yy.cls ix RX8 ∈ UW) (hz0 : ¬ z < 0) (hM : z.toNatClampNeg = M) (hby : M * 4 ≤ 536870912) (h9 : kc Y q = 9) (hcap : k + 1 ≤ R.cells ∧ n + M ≤ R.slots)
    (kk : ExZ G yy cc nL ret tb R Z (k + 1) (n + M) (pc + 3) L (.ref q :: st) (yK Y q 43 M) (n0 N q)) : ExZ G yy cc nL ret tb R Z k n pc L (.int z :: st) Y N := by
  intro p l e s m args below meth c H locs ls C hH hS hL
  have k1 := fun H' hH' hS' => kk p l e s m args below meth c H' locs ls C hH' hS' hL
  obtain ⟨hx, -, hb, hml, hown, -, -, -, -, hts, hK, hC9, -⟩ := C
  have hz : H.size = q := (hH.1 q).end9 h9
  subst hM
  refine W.anew hx hb hown (hts _ hw) (va_AO.use (hC9.2.2.2.2.2.2.2.2.2.2.2.2.1 RX8 (by decide))) rfl hd rfl hz0 hby hcap.1 hcap.2 fun cA kA comp f1 f2 f3 f4 => ?_
  rw [hz]
  generalize hH1 : H.push ({ cls := cA, slots := Array.replicate z.toNatClampNeg .null, vm := .none } : Cell) = H1
  have z1 : H1.size = q + 1 := by rw [← hH1, Array.size_push, hz]
  have e1 : H1[q]? = some (arrV cA z.toNatClampNeg (fun _ => .null)) := by rw [← hH1, ← hz, Array.getElem?_push_size, ← arrV_new]
  have o1 : ∀ x : Nat, x < q → H1[x]? = H[x]? := fun x hx => by rw [← hH1, Array.getElem?_push, if_neg (by omega)]
  refine k1 H1 (hH.push h9 z1 o1 ?_) (va_S_grow hS (by omega) (fun x hx => o1 x (by omega)))
  have hk : kc (yK Y q 43 z.toNatClampNeg) q = 43 := by simp [kc, yK]
  have hk2 : kn (yK Y q 43 z.toNatClampNeg) q = z.toNatClampNeg := by simp [kn, yK]
  have g1 : (yK Y q 43 z.toNatClampNeg).1 q = fun _ => none := by funext i; simp [yK]
  have hc9 : cA = G.2.1 8 := by
    obtain ⟨kA9, comp9, -, -, -, h4⟩ := (hK.2 8 _ rfl).2
    exact Option.some.inj (f1.symm.trans h4)
  refine xAt.ofD hk ?_
  rw [hk2, g1, e1, hc9]
  rfl
theorem x_putFi {a ci f M : Nat} {v9 : Int32} {C9 : String} {T9 : u_T} {ty0 : Nat → FieldType} (hd : decode cc pc = .ok (.putfield ix, 3)) (hc : vwCl[ci]? = some (C9, T9, M)) (hin : ∀ w ∈ u_ws C9 T9 M, w ∈ UW) (hty : ∀ k, k < M → parseFieldDescriptor (T9 k).2.2.1 = some (ty0 k)) (hnm : ∀ a, a < M → ∀ b, b < M → a ≠ b → (T9 a).2.1 ≠ (T9 b).2.1) (hf : f < M) (hw : Cond.fieldLink yy.cls ix (T9 f).1 (T9 f).2.1 (T9 f).2.2.1 ∈ UW) (hfin : (T9 f).2.2.2 = true) (hyn : yy.name = "<init>") (hdecl : (T9 f).1 = yy.cls) (hr : xrf ci f = false) (hn9 : narrow (ty0 f) (.int v9) = .int v9) (hfit : fits (ty0 f) (.int v9) = true) (hk : kc Y a = ci + 10)
    (kk : ExZ G yy cc nL ret tb R Z k n (pc + 3) L st Y (si N a f v9)) : ExZ G yy cc nL ret tb R Z k n pc L (.int v9 :: .ref a :: st) Y N := by
  intro p l e s m args below meth c H locs ls C hH hS hL
  have k1 := fun H' locs' hH' hS' => kk p l e s m args below meth c H' locs' ls C hH' hS' hL
  obtain ⟨hx, -, hb, hml, hown, hmn, -, -, -, hts, hK, -, -⟩ := C
  have hap := va_apart (own := yy.cls) hts hin ty0 hty hnm hK hc
  obtain ⟨r, h1, cell, q1, q2, q3, q4⟩ := xAt_o (vl_lt hc) hk (hH.1 a)
  have hr9 : r = (C9, T9, M) := Option.some.inj (h1.symm.trans hc)
  subst hr9
  obtain ⟨hS', hfc, kC, hkC, hkind⟩ := hK.1 ci _ hc
  obtain ⟨cf, kf, fi, fd, hi, hsl⟩ := hS' f hf
  have hlay := hts _ (hin _ (u_in_lay hf))
  unfold u_lay at hlay
  rw [if_pos hfin] at hlay
  have hst := (u_facts hfc hkC (u_lays hts hin hf) hi).1
  have hcf : m.cls = cf := by
    obtain ⟨_, _, c', _, _, _, -, -, hf', -, -, -, hown2, -⟩ := Cond.laysFinal_spec hlay
    have e1 : c' = cf := by have := hi.symm.trans hf'; simp at this; exact this.1.symm
    rw [hdecl] at hown2
    rw [← e1]; exact Option.some.inj (hown.symm.trans hown2)
  have h6 := u_fits hfc hkC hkind (Or.inr hlay) hi (hty f hf) hn9 hfit
  refine W.putFinK hx hb hown (hts _ hw) hi hst hcf (hmn.trans hyn) (by rw [q2]; exact h6) q1 q3 (by rw [hsl]; exact k2_hasslot (q4 f hf)) rfl rfl hd fun H' e1 e2 e3 => ?_
  rw [hsl] at e1 ⊢
  refine k1 H' _ (hH.put e2 e3 rfl (fun _ _ _ => rfl) (fun b hb k => si_ne hb k) (fun _ _ _ => rfl) ?_) (hS.put e2 e3 (hH.2 a (by rw [hk]; omega) (fz_o hk hc)))
  refine xAt.ofO hk hc (t_OB.to (V := updV (xV Y N ci a) f (.int v9)) ⟨_, e1, q2, q3, t_set q4 hap hf (.int v9)⟩ (fun j _ => ?_))
  by_cases e : j = f
  · subst e
    simp [updV, xV, hr, gi, si]
  · simp [updV, xV, gi, si, e]
theorem x_nnret {v : Int32} {ty : FieldType} (hd : decode cc pc = .ok (.ireturn, 1)) (hr : ret = some ty) (hz : narrow ty (.int v) = .int v) (hk : R.cells = k) (hn : R.slots = n) : ExZ G yy cc nL ret tb R (xZn G R (some (.int v)) Y N) k n pc L [.int v] Y N := by
  intro p l e s m args below meth c H locs ls C hH hS hL
  subst hk; subst hn
  exact W.zret C.1 C.2.2.1 (C.2.2.2.2.2.2.1.trans hr) hz (fun t ht _ => xq_ret hH hS ht) hS.2.2 hd C.2.2.2.2.2.2.2.1
theorem x_initNL {b : Nat} (hd : decode cc pc = .ok (.invokespecial ix, 3)) (hl : (yy.cls, ix, zz) ∈ xNl) (hi : Cond.instanceMethod zz ∈ UW) (hn : Cond.initialized zz.cls ∈ UW) (hc : Cond.code zz cc' nL' none ∈ UW) (hz : zz.name = "<init>")
    (hp : HP zz As.length) (hR : R'.frames + 1 ≤ R.frames ∧ 8 + (nL' + 11) + R'.locals ≤ R.locals) (hst : st = As.reverse ++ .ref b :: rest) (hW : 2 * 0 + (rest.map fun v => v.category).sum ≤ 8) (hcap : k + R'.cells ≤ R.cells ∧ n + R'.slots ≤ R.slots)
    (hC9 : Cm G zz cc' nL' R' (.ref b :: As) Y N Y' N') (kk : ExZ G yy cc nL ret tb R Z (k + R'.cells) (n + R'.slots) (pc + 3) L rest Y' N') : ExZ G yy cc nL ret tb R Z k n pc L st Y N := by
  intro p l e s m args below meth c H locs ls C hH hS hL
  have hts := C.2.2.2.2.2.2.2.2.2.1
  have hlk := C.2.2.2.2.2.2.2.2.2.2.2.1.nl _ hl
  exact x_backM (va_runIN (Ts := UW) (n := As.length) ⟨C.1, C.2.2.1, C.2.2.2.1, C.2.2.2.2.1, hts⟩ (hC9 l C.2.1) ⟨va_cnB As.length hts (xu_good _ _ _ _ hc) rfl rfl rfl hlk (hts _ hn) hp hR, hz, hts _ hi⟩ ⟨xPre_blind, fun U hU hW => ⟨rfl, xPre_at C hH hS hU hW⟩⟩ rfl rfl hL.1 hst hW hd hcap) C hS hL kk
theorem x_aaldF {a b : Nat} {i : Int32} (hd : decode cc pc = .ok (.aaload, 1)) (hk : kc Y a = 42) (hin : vp_in i (kn Y a)) (hg : gr Y a i.toNatClampNeg = some b)
    (kk : ExZ G yy cc nL ret tb R Z k n (pc + 1) L (.ref b :: st) Y N) : ExZ G yy cc nL ret tb R Z k n pc L (.int i :: .ref a :: st) Y N := by
  intro p l e s m args below meth c H locs ls C hH hS hL
  have k1 := kk p l e s m args below meth c H locs ls C hH hS hL
  have hC := C.2.2.2.2.2.2.2.2.2.2.2.1
  obtain ⟨w, hw, rfl, hn, hv⟩ := xAt_FA hk (hH.1 _)
  have hlt : i.toNatClampNeg < kn Y (xSv G w) := Nat.not_le.mp fun q => hin (Or.inr q)
  obtain ⟨cell, h1, h2, h3, h4, h5, h6, h7⟩ := hC.sar w hw
  have hc0 : H[xSv G w]? = some cell := by rw [hS.2.1 _ (Array.getElem?_eq_some_iff.mp h1).1 h7]; exact h1
  have e := hv _ (by rw [← hn]; exact hlt)
  have eb : b = xS G ((xRy w).getD i.toNatClampNeg 0) := Option.some.inj (hg.symm.trans e)
  subst eb
  refine W.aald (v := .ref (xS G ((xRy w).getD i.toNatClampNeg 0))) (ty := .object "java/lang/String") C.1 C.2.2.1 hc0 h2 rfl h3 ?_ (h6 _ (by rw [← hn]; exact hlt)) rfl rfl hd k1
  intro z
  rcases z with z | z
  · exact hin (Or.inl z)
  · exact absurd (Nat.lt_of_lt_of_le (by rw [← hn]; exact hlt) h4) (Nat.not_lt.mpr z)
end XH2
