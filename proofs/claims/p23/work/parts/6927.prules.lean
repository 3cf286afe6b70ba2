/-! MARKS OF THE HEAP'S END; PROPOSITIONS IN PLACE OF RESULTS, FOR THE LAW'S OWN BODY -/
def law_Z (G : XG) : List Frame → Array Value → State → State → Prop := fun below args s t => xB G = s.heap.size → lw_Z below args s t
theorem law_ret9 {p : Program} {l : Launch} {e : Env} {s : State} {m : MethodId} {args : Array Value} {below : List Frame} {meth : Method} {c : Code} (hx : p.tables.exec = Jvm.exec) (hb : c.code = cL_law) (hr : meth.sig.returnType = ret) (hlocks : meth.locks = false) {pc : Nat} {H : Heap} {ls : Array Slot} (hdg : decode cL_law pc = .ok (.ireturn, 1)) : W p l e room_1 s m args below meth c H [] 600086 7301442 (lw_Z below args s) (F0 m pc ls [.int 1]) := by
  intro T hT X
  obtain ⟨fs, hret, hrun, hended, hW, hframe⟩ := X.leave (v := some (.int 1)) (hlocks := hlocks) (fun h => by rw [hr] at h; cases h)
  have hmeth' : T.vm.method? m = some meth := X.method'
  refine ⟨T.setFrames fs, ?_, .returned (some (.int 1)), hrun, hended, rfl, ⟨_, rfl⟩, hW, hframe⟩
  jvm_step X.here [X.here.top, hx, hb, hdg, hmeth', hr, ret, narrow_b1]
  (try refine ⟨rfl, ?_⟩); (try refine ⟨rfl, ?_⟩)
  first | (intro acts; rw [hret _ acts rfl rfl rfl]) | rw [hret _ _ rfl rfl rfl]
  exact Steps.refl _
theorem x_law {G : XG} {tb : List ExceptionTableEntry} {yy : MethodName} {Y : XY} {N : XN} {c s pc : Nat} {L : List (Nat × Value)} (hd : decode cL_law pc = .ok (.ireturn, 1)) (hc : c ≤ 600086) (hs : s ≤ 7301442) : ExZ G yy cL_law 26 ret tb room_1 (law_Z G) c s pc L [.int 1] Y N := by
  intro p l e s9 m args below meth c9 H locs ls C hH hS hL
  by_cases hB : xB G = s9.heap.size
  · have key := W.widen hc hs (va_forget (locs := locs) (fun q hq => (by rw [← hB]; exact hS.2.2 q hq : s9.heap.size ≤ q.base)) (law_ret9 (p := p) (l := l) (e := e) (s := s9) (m := m) (args := args) (below := below) (meth := meth) (c := c9) C.1 C.2.2.1 C.2.2.2.2.2.2.1 C.2.2.2.2.2.2.2.1 (H := H) (ls := ls) hd))
    intro T hT X
    obtain ⟨t, a, b⟩ := key T hT X
    exact ⟨t, a, fun _ => b⟩
  · exact fun T hT X => ⟨_, Steps.refl _, fun h => absurd h hB⟩
abbrev vk (K : Nat) : Prop := (1 ≤ K ∧ K ≤ 8) ∨ (10 ≤ K ∧ K < 23) ∨ (40 ≤ K ∧ K ≤ 43)
def y9 (Y : XY) : XY := (Y.1, fun b => if (Y.2 b).1 = 9 then (0, 0) else Y.2 b)
def yM (Y : XY) (q : Nat) : XY := (Y.1, fun b => if b = q then (9, 0) else if b < q ∧ (Y.2 b).1 ≠ 9 then Y.2 b else (0, 0))
def yF (Y : XY) (q : Nat) : XY := (Y.1, fun b => if b = q then (9, 0) else if b < q ∧ 40 ≤ (Y.2 b).1 ∧ (Y.2 b).1 ≤ 42 then Y.2 b else (0, 0))
theorem kc_y9 {Y : XY} {b K : Nat} (n9 : K ≠ 9) (h : kc Y b = K) : kc (y9 Y) b = K := by
  have h' : (Y.2 b).1 = K := h
  show (if (Y.2 b).1 = 9 then ((0, 0) : Nat × Nat) else Y.2 b).1 = K
  rw [if_neg (by rw [h']; exact n9)]
  exact h
theorem kn_y9 {Y : XY} {b K : Nat} (n9 : K ≠ 9) (h : kc Y b = K) : kn (y9 Y) b = kn Y b := by
  have h' : (Y.2 b).1 = K := h
  show (if (Y.2 b).1 = 9 then ((0, 0) : Nat × Nat) else Y.2 b).2 = _
  rw [if_neg (by rw [h']; exact n9)]
  rfl
theorem kc_y9n {Y : XY} (b : Nat) : kc (y9 Y) b ≠ 9 := by
  show (if (Y.2 b).1 = 9 then ((0, 0) : Nat × Nat) else Y.2 b).1 ≠ 9
  by_cases h : (Y.2 b).1 = 9
  · rw [if_pos h]; decide
  · rw [if_neg h]; exact h
theorem gr_y9 {Y : XY} (b j : Nat) : gr (y9 Y) b j = gr Y b j := rfl
theorem gp_y9 {Y : XY} (b j : Nat) : gp (y9 Y) b j = gp Y b j := rfl
theorem kc_yM {Y : XY} {q b K : Nat} (g : ∀ a, vk (kc Y a) → a < q) (hv : vk K) (h : kc Y b = K) : kc (yM Y q) b = K := by
  have h' : (Y.2 b).1 = K := h
  have hb := g b (by rw [h]; exact hv)
  show (if b = q then ((9, 0) : Nat × Nat) else if b < q ∧ (Y.2 b).1 ≠ 9 then Y.2 b else (0, 0)).1 = K
  rw [if_neg (by omega), if_pos ⟨hb, by rw [h']; omega⟩]
  exact h
theorem kn_yM {Y : XY} {q b : Nat} (g : ∀ a, vk (kc Y a) → a < q) (hv : vk (kc Y b)) : kn (yM Y q) b = kn Y b := by
  have hb := g b hv
  show (if b = q then ((9, 0) : Nat × Nat) else if b < q ∧ (Y.2 b).1 ≠ 9 then Y.2 b else (0, 0)).2 = _
  rw [if_neg (by omega), if_pos ⟨hb, by show kc Y b ≠ 9; omega⟩]
  rfl
theorem kc_yMq {Y : XY} {q : Nat} : kc (yM Y q) q = 9 := by
  show (if q = q then ((9, 0) : Nat × Nat) else _).1 = 9
  rw [if_pos rfl]
theorem kc_yMu {Y : XY} {q b : Nat} (h : q < b) : kc (yM Y q) b = 0 := by
  show (if b = q then ((9, 0) : Nat × Nat) else if b < q ∧ (Y.2 b).1 ≠ 9 then Y.2 b else (0, 0)).1 = 0
  rw [if_neg (by omega), if_neg (by omega)]
theorem kc_yMv {Y : XY} {q b : Nat} (h : b ≠ q) : kc (yM Y q) b = 0 ∨ (kc (yM Y q) b = kc Y b ∧ kn (yM Y q) b = kn Y b ∧ kc Y b ≠ 9 ∧ b < q) := by
  by_cases c : b < q ∧ (Y.2 b).1 ≠ 9
  · refine Or.inr ⟨?_, ?_, c.2, c.1⟩
    · show (if b = q then ((9, 0) : Nat × Nat) else if b < q ∧ (Y.2 b).1 ≠ 9 then Y.2 b else (0, 0)).1 = _
      rw [if_neg h, if_pos c]; rfl
    · show (if b = q then ((9, 0) : Nat × Nat) else if b < q ∧ (Y.2 b).1 ≠ 9 then Y.2 b else (0, 0)).2 = _
      rw [if_neg h, if_pos c]; rfl
  · refine Or.inl ?_
    show (if b = q then ((9, 0) : Nat × Nat) else if b < q ∧ (Y.2 b).1 ≠ 9 then Y.2 b else (0, 0)).1 = 0
    rw [if_neg h, if_neg c]
theorem kc_yF {Y : XY} {q b K : Nat} (g : ∀ a, vk (kc Y a) → a < q) (hv : 40 ≤ K ∧ K ≤ 42) (h : kc Y b = K) : kc (yF Y q) b = K ∧ kn (yF Y q) b = kn Y b := by
  have h' : (Y.2 b).1 = K := h
  have hb := g b (by rw [h]; omega)
  have e : (yF Y q).2 b = Y.2 b := by
    show (if b = q then ((9, 0) : Nat × Nat) else if b < q ∧ 40 ≤ (Y.2 b).1 ∧ (Y.2 b).1 ≤ 42 then Y.2 b else (0, 0)) = _
    rw [if_neg (by omega), if_pos ⟨hb, by rw [h']; exact hv⟩]
  exact ⟨by unfold kc; rw [e]; exact h, by unfold kn; rw [e]⟩
theorem kc_yFq {Y : XY} {q : Nat} : kc (yF Y q) q = 9 := by
  show (if q = q then ((9, 0) : Nat × Nat) else _).1 = 9
  rw [if_pos rfl]
theorem kc_yFv {Y : XY} {q b : Nat} (h : b ≠ q) : kc (yF Y q) b = 0 ∨ (kc (yF Y q) b = kc Y b ∧ 40 ≤ kc Y b ∧ kc Y b ≤ 42 ∧ b < q) := by
  by_cases c : b < q ∧ 40 ≤ (Y.2 b).1 ∧ (Y.2 b).1 ≤ 42
  · refine Or.inr ⟨?_, c.2.1, c.2.2, c.1⟩
    show (if b = q then ((9, 0) : Nat × Nat) else if b < q ∧ 40 ≤ (Y.2 b).1 ∧ (Y.2 b).1 ≤ 42 then Y.2 b else (0, 0)).1 = _
    rw [if_neg h, if_pos c]; rfl
  · refine Or.inl ?_
    show (if b = q then ((9, 0) : Nat × Nat) else if b < q ∧ 40 ≤ (Y.2 b).1 ∧ (Y.2 b).1 ≤ 42 then Y.2 b else (0, 0)).1 = 0
    rw [if_neg h, if_neg c]
section XPR
variable {G : XG} {yy : MethodName} {cc : ByteArray} {nL : Nat} {ret : Option FieldType} {tb : List ExceptionTableEntry} {R : Room} {Z : List Frame → Array Value → State → State → Prop} {Y Y' : XY} {N : XN} {k n pc : Nat} {L : List (Nat × Value)} {st : List Value}
theorem xH.mark {H : Heap} (h : xH G Y N H) (h1 : Y'.1 = Y.1) (h2 : ∀ b, Y'.2 b = Y.2 b ∨ kc Y' b = 0 ∨ (H.size = b ∧ kc Y' b = 9 ∧ xB G ≤ b)) : xH G Y' N H := by
  refine ⟨fun b => ?_, fun b hb hf => ?_⟩
  · rcases h2 b with e | e | ⟨e1, e2, -⟩
    · exact (h.1 b).kept rfl rfl e (fun k => by rw [h1]) (fun _ => rfl) (fun _ => rfl)
    · unfold xAt
      rw [e]
      exact trivial
    · unfold xAt
      rw [e2]
      exact e1
  · rcases h2 b with e | e | ⟨-, -, e3⟩
    · have ek : kc Y' b = kc Y b := by unfold kc; rw [e]
      rw [ek] at hb hf
      exact h.2 b hb hf
    · exact absurd e hb
    · exact e3
theorem vk_lt {s : State} {H : Heap} {locs : List Loc} {a : Nat} (hC : xC G s s.heap) (hH : xH G Y N H) (hS : va_S (xA G) s.heap H locs) (hv : vk (kc Y a)) : a < H.size := by
  have h := hH.1 a
  rcases hv with ⟨h1, h2⟩ | ⟨h1, h2⟩ | ⟨h1, h2⟩
  · rcases (by omega : kc Y a = 1 ∨ kc Y a = 2 ∨ kc Y a = 3 ∨ kc Y a = 4 ∨ kc Y a = 5 ∨ kc Y a = 6 ∨ kc Y a = 7 ∨ kc Y a = 8) with e | e | e | e | e | e | e | e
    · exact (Array.getElem?_eq_some_iff.mp (xAt_1 e h)).1
    · exact (Array.getElem?_eq_some_iff.mp (xAt_2 e h)).1
    · exact (Array.getElem?_eq_some_iff.mp (xAt_3 e h)).1
    · exact (Array.getElem?_eq_some_iff.mp (xAt_r (j := 0) (by omega) e h)).1
    · exact (Array.getElem?_eq_some_iff.mp (xAt_r (j := 1) (by omega) e h)).1
    · exact (Array.getElem?_eq_some_iff.mp (xAt_r (j := 2) (by omega) e h)).1
    · exact (Array.getElem?_eq_some_iff.mp (xAt_r (j := 3) (by omega) e h)).1
    · exact (Array.getElem?_eq_some_iff.mp (xAt_r (j := 4) (by omega) e h)).1
  · obtain ⟨r, -, cell, q1, -⟩ := xAt_o (ci := kc Y a - 10) (by omega) (by omega) h
    exact (Array.getElem?_eq_some_iff.mp q1).1
  · rcases (by omega : kc Y a = 40 ∨ kc Y a = 41 ∨ kc Y a = 42 ∨ kc Y a = 43) with e | e | e | e
    · obtain ⟨i, hi, rfl, -⟩ := xAt_FS e h
      obtain ⟨cell, h1, -⟩ := xC.st hi hC hS
      exact (Array.getElem?_eq_some_iff.mp h1).1
    · obtain ⟨cell, h1, -⟩ := x_fb hC hH hS e
      exact (Array.getElem?_eq_some_iff.mp h1).1
    · obtain ⟨w, hw, rfl, -⟩ := xAt_FA e h
      obtain ⟨cell, h1, -, -, -, -, -, h7⟩ := hC.sar w hw
      have hc0 : H[xSv G w]? = some cell := by rw [hS.2.1 _ (Array.getElem?_eq_some_iff.mp h1).1 h7]; exact h1
      exact (Array.getElem?_eq_some_iff.mp hc0).1
    · exact (Array.getElem?_eq_some_iff.mp (xAt_D e h)).1
theorem x_drop (kk : ExZ G yy cc nL ret tb R Z k n pc L st (y9 Y) N) : ExZ G yy cc nL ret tb R Z k n pc L st Y N := fun p l e s m args below meth c H locs ls C hH hS hL => kk p l e s m args below meth c H locs ls C (hH.mark rfl fun b => by
  by_cases h : (Y.2 b).1 = 9
  · refine Or.inr (Or.inl ?_)
    show (if (Y.2 b).1 = 9 then ((0, 0) : Nat × Nat) else Y.2 b).1 = 0
    rw [if_pos h]
  · refine Or.inl ?_
    show (if (Y.2 b).1 = 9 then ((0, 0) : Nat × Nat) else Y.2 b) = _
    rw [if_neg h]) hS hL
theorem x_mark (hw : ∃ a, (vk (kc Y a) ∨ kc Y a = 9) ∧ frz (kc Y a) = false) (kk : ∀ q, (∀ a, vk (kc Y a) → a < q) → ExZ G yy cc nL ret tb R Z k n pc L st (yM Y q) N) : ExZ G yy cc nL ret tb R Z k n pc L st Y N := by
  intro p l e s m args below meth c H locs ls C hH hS hL
  have hC := C.2.2.2.2.2.2.2.2.2.2.2.1
  have hlt := fun a (hv : vk (kc Y a)) => vk_lt hC hH hS hv
  have hB : xB G ≤ H.size := by
    obtain ⟨a, h1, h2⟩ := hw
    rcases h1 with h1 | h1
    · have := hH.2 a (by omega) h2
      have := hlt a h1
      omega
    · have := hH.2 a (by omega) h2
      have := xAt.end9 h1 (hH.1 a)
      omega
  refine kk H.size hlt p l e s m args below meth c H locs ls C (hH.mark rfl fun b => ?_) hS hL
  by_cases e : b = H.size
  · exact Or.inr (Or.inr ⟨e.symm, by rw [e]; exact kc_yMq, by rw [e]; exact hB⟩)
  · by_cases c : b < H.size ∧ (Y.2 b).1 ≠ 9
    · refine Or.inl ?_
      show (if b = H.size then ((9, 0) : Nat × Nat) else if b < H.size ∧ (Y.2 b).1 ≠ 9 then Y.2 b else (0, 0)) = _
      rw [if_neg e, if_pos c]
    · refine Or.inr (Or.inl ?_)
      show (if b = H.size then ((9, 0) : Nat × Nat) else if b < H.size ∧ (Y.2 b).1 ≠ 9 then Y.2 b else (0, 0)).1 = 0
      rw [if_neg e, if_neg c]
theorem x_mark0 (hw : ∃ a, (vk (kc Y a) ∨ kc Y a = 9) ∧ frz (kc Y a) = false) (kk : ∀ q, (∀ a, vk (kc Y a) → a < q) → ExZ G yy cc nL ret tb R Z k n pc L st (yF Y q) N) : ExZ G yy cc nL ret tb R Z k n pc L st Y N := by
  intro p l e s m args below meth c H locs ls C hH hS hL
  have hC := C.2.2.2.2.2.2.2.2.2.2.2.1
  have hlt := fun a (hv : vk (kc Y a)) => vk_lt hC hH hS hv
  have hB : xB G ≤ H.size := by
    obtain ⟨a, h1, h2⟩ := hw
    rcases h1 with h1 | h1
    · have := hH.2 a (by omega) h2
      have := hlt a h1
      omega
    · have := hH.2 a (by omega) h2
      have := xAt.end9 h1 (hH.1 a)
      omega
  refine kk H.size hlt p l e s m args below meth c H locs ls C (hH.mark rfl fun b => ?_) hS hL
  by_cases e : b = H.size
  · exact Or.inr (Or.inr ⟨e.symm, by rw [e]; exact kc_yFq, by rw [e]; exact hB⟩)
  · by_cases c : b < H.size ∧ 40 ≤ (Y.2 b).1 ∧ (Y.2 b).1 ≤ 42
    · refine Or.inl ?_
      show (if b = H.size then ((9, 0) : Nat × Nat) else if b < H.size ∧ 40 ≤ (Y.2 b).1 ∧ (Y.2 b).1 ≤ 42 then Y.2 b else (0, 0)) = _
      rw [if_neg e, if_pos c]
    · refine Or.inr (Or.inl ?_)
      show (if b = H.size then ((9, 0) : Nat × Nat) else if b < H.size ∧ 40 ≤ (Y.2 b).1 ∧ (Y.2 b).1 ≤ 42 then Y.2 b else (0, 0)).1 = 0
      rw [if_neg e, if_neg c]
theorem x_aaldDr {a b : Nat} {i : Int32} (hd : decode cc pc = .ok (.aaload, 1)) (hk : kc Y a = 43) (hin : vp_in i (kn Y a)) (hg : gr Y a i.toNatClampNeg = some b)
    (kk : ExZ G yy cc nL ret tb R Z k n (pc + 1) L (.ref b :: st) Y N) : ExZ G yy cc nL ret tb R Z k n pc L (.int i :: .ref a :: st) Y N := x_aaldD hd hk hin (by rw [hg]; exact kk)
theorem x_nmiP {v x : Int32} (h : v = x) (kk : ExZ G yy cc nL ret tb R Z k n pc L (.int v :: st) Y N) : ExZ G yy cc nL ret tb R Z k n pc L (.int x :: st) Y N := h ▸ kk
end XPR
def mkP (Y : XY) (f : Nat → XY → Prop) : Prop := (∃ a, (vk (kc Y a) ∨ kc Y a = 9) ∧ frz (kc Y a) = false) ∧ ∀ q, (∀ a, vk (kc Y a) → a < q) → f q (yM Y q)
theorem x_mkP {Y : XY} {f : Nat → XY → Prop} (h : mkP Y f) (q : Nat) (g : ∀ a, vk (kc Y a) → a < q) : ∃ Y1, Y1 = yM Y q ∧ f q Y1 := ⟨_, rfl, h.2 q g⟩
def mk0P (Y : XY) (f : Nat → XY → Prop) : Prop := (∃ a, (vk (kc Y a) ∨ kc Y a = 9) ∧ frz (kc Y a) = false) ∧ ∀ q, (∀ a, vk (kc Y a) → a < q) → f q (yF Y q)
theorem x_mk0P {Y : XY} {f : Nat → XY → Prop} (h : mk0P Y f) (q : Nat) (g : ∀ a, vk (kc Y a) → a < q) : ∃ Y1, Y1 = yF Y q ∧ f q Y1 := ⟨_, rfl, h.2 q g⟩
def ckP (c : Prop) (P : Prop) : Prop := c ∧ P
theorem x_ckP {c P : Prop} (h : ckP c P) : c ∧ P := h
def ckWP (Y : XY) (P : Prop) : Prop := WT Y ∧ P
theorem x_ckWP {Y : XY} {P : Prop} (h : ckWP Y P) : WT Y ∧ P := h
def ck9P (Y : XY) (P : Prop) : Prop := (WT Y ∧ ∀ a, kc Y a ≠ 9) ∧ P
theorem x_ck9P {Y : XY} {P : Prop} (h : ck9P Y P) : (WT Y ∧ ∀ a, kc Y a ≠ 9) ∧ P := h
theorem x_ltP {α : Type} {a : α} {f : α → Prop} (h : lt a f) : ∃ x, x = a ∧ f x := ⟨a, rfl, h⟩
theorem x_ifP {c A B : Prop} {d : Decidable c} (h : @ite Prop c d A B) : (c ∧ A) ∨ (¬ c ∧ B) := by
  by_cases q : c
  · rw [if_pos q] at h; exact Or.inl ⟨q, h⟩
  · rw [if_neg q] at h; exact Or.inr ⟨q, h⟩
def bdP {α : Type} (a : Option α) (f : α → Prop) : Prop := ∃ x, a = some x ∧ f x
theorem x_bd1P {α : Type} {a : Option α} {f : α → Prop} (h : bdP a f) : ∃ x, a = some x ∧ f x := h
def bd2P {α β : Type} (a : Option (α × β)) (f : α → β → Prop) : Prop := ∃ x y, a = some (x, y) ∧ f x y
theorem x_bd2P {α β : Type} {a : Option (α × β)} {f : α → β → Prop} (h : bd2P a f) : ∃ x y, a = some (x, y) ∧ f x y := h
def bd3P {α β γ : Type} (a : Option (α × β × γ)) (f : α → β → γ → Prop) : Prop := ∃ x y z, a = some (x, y, z) ∧ f x y z
theorem x_bd3P {α β γ : Type} {a : Option (α × β × γ)} {f : α → β → γ → Prop} (h : bd3P a f) : ∃ x y z, a = some (x, y, z) ∧ f x y z := h
def bd4P {α β γ δ : Type} (a : Option (α × β × γ × δ)) (f : α → β → γ → δ → Prop) : Prop := ∃ x y z w, a = some (x, y, z, w) ∧ f x y z w
theorem x_bd4P {α β γ δ : Type} {a : Option (α × β × γ × δ)} {f : α → β → γ → δ → Prop} (h : bd4P a f) : ∃ x y z w, a = some (x, y, z, w) ∧ f x y z w := h
