/-! THE MACHINE OVER A FLAT MEMORY. A memory: the ints and longs by address and slot (XN), and what never changes once all is made: the references, the kinds and lengths (XY). -/
abbrev XN : Type := (Nat → Nat → Int32) × (Nat → Nat → Int64)
abbrev XY : Type := (Nat → Nat → Option Nat) × (Nat → Nat × Nat)
def gi (N : XN) (a k : Nat) : Int32 := N.1 a k
def gl (N : XN) (a k : Nat) : Int64 := N.2 a k
def gr (Y : XY) (a k : Nat) : Option Nat := Y.1 a k
def gp (Y : XY) (a k : Nat) : Nat := (Y.1 a k).getD 0
def kc (Y : XY) (a : Nat) : Nat := (Y.2 a).1
def kn (Y : XY) (a : Nat) : Nat := (Y.2 a).2
def si (N : XN) (a k : Nat) (v : Int32) : XN := (fun b j => if b = a ∧ j = k then v else N.1 b j, N.2)
def sl (N : XN) (a k : Nat) (v : Int64) : XN := (N.1, fun b j => if b = a ∧ j = k then v else N.2 b j)
def sr (Y : XY) (a k : Nat) (v : Option Nat) : XY := (fun b j => if b = a ∧ j = k then v else Y.1 b j, Y.2)
def xb (i : Int32) (n : Nat) : Bool := decide (¬ (i < 0 ∨ n ≤ i.toNatClampNeg))
theorem xb_in {i : Int32} {n : Nat} (h : xb i n = true) : vp_in i n := by
  have h1 : ¬ (i < 0 ∨ n ≤ i.toNatClampNeg) := of_decide_eq_true h
  exact h1
def xz (v : Int32) : Bool := decide (v = 0 ∨ v = 1)
theorem xz_or {v : Int32} (h : xz v = true) : v = 0 ∨ v = 1 := of_decide_eq_true h
/-- which fields of class c are references -/
def xrf (c k : Nat) : Bool := match c with
  | 0 => k == 0 || k == 2
  | 2 => k == 3
  | 4 => k == 2 || k == 3
  | 5 => k == 0 || k == 1 || k == 2
  | 6 => k == 0 || k == 2 || k == 4 || k == 13 || k == 14
  | 7 => k == 0 || k == 3 || k == 4 || k == 5 || k == 6 || k == 7
  | 8 => k == 2 || k == 3 || k == 4 || k == 5 || k == 6 || k == 7
  | 9 => k == 2 || k == 3
  | 11 => k == 0
  | 12 => k == 0
  | _ => false
def xV (Y : XY) (N : XN) (c a k : Nat) : Value := if xrf c k then va_rf (gr Y a k) else .int (gi N a k)
/-- the launch's numbers: classes and slots, array classes, the String constants' cells and their rows, where the law's own cells begin -/
abbrev XG : Type := va_G × (Nat → ClassId) × (Nat → Nat) × (Nat → Nat) × Nat × Nat × Nat × (Nat → Int32)
abbrev xB (G : XG) : Nat := G.2.2.2.2.1
/-- the script: its cell, its length, its numbers -/
abbrev xSb (G : XG) : Nat := G.2.2.2.2.2.1
abbrev xSl (G : XG) : Nat := G.2.2.2.2.2.2.1
abbrev xSx (G : XG) : Nat → Int32 := G.2.2.2.2.2.2.2
abbrev xS (G : XG) : Nat → Nat := G.2.2.1
abbrev xSv (G : XG) : Nat → Nat := G.2.2.2.1
def xTx : List (List Int32) := [[108, 105, 110, 101, 115], [104, 97, 110, 100, 108, 101, 114], [108, 105, 110, 101], [114, 97, 105, 115, 101], [112, 97, 116, 105, 101, 110, 99, 101], [119, 105, 110, 100, 111, 119], [115, 116, 111, 114, 109], [112, 101, 114, 105, 111, 100], [119, 97, 103, 101], [102, 105, 110, 101], [108, 101, 102, 116], [104, 101, 108, 100], [119, 97, 105, 116, 101, 100], [32], [108, 105, 110, 101, 115, 59], [104, 97, 110, 100, 108, 101, 114], [59], [108, 105, 110, 101], [], [114, 97, 105, 115, 101], [102, 105, 110, 101, 32], [32, 59], [108, 101, 102, 116], [104, 101, 108, 100], [119, 97, 105, 116, 101, 100], [112, 97, 116, 105, 101, 110, 99, 101], [119, 105, 110, 100, 111, 119], [115, 116, 111, 114, 109], [112, 101, 114, 105, 111, 100], [119, 97, 103, 101], [], [43], [32, 45, 32], [42, 32], [47], [40], [41]]
/-- word i: its letters -/
def xWo (i : Nat) : List Int32 := xTx.getD i []
def xBy (i : Nat) : List Int32 := if i = 100 then [48, 49, 50, 51, 52, 53, 54, 55, 56, 57, 48, 49, 50, 51, 52, 53, 54, 55, 56, 57, 48, 49, 50, 51, 52, 53, 54, 55, 56, 57, 48, 49, 50, 51, 52, 53, 54, 55, 56, 57, 48, 49, 50, 51, 52, 53, 54, 55, 56, 57, 48, 49, 50, 51, 52, 53, 54, 55, 56, 57, 48, 49, 50, 51, 52, 53, 54, 55, 56, 57, 48, 49, 50, 51, 52, 53, 54, 55, 56, 57, 48, 49, 50, 51, 52, 53, 54, 55, 56, 57, 48, 49, 50, 51, 52, 53, 54, 55, 56, 57] else if i = 101 then [48, 48, 48, 48, 48, 48, 48, 48, 48, 48, 49, 49, 49, 49, 49, 49, 49, 49, 49, 49, 50, 50, 50, 50, 50, 50, 50, 50, 50, 50, 51, 51, 51, 51, 51, 51, 51, 51, 51, 51, 52, 52, 52, 52, 52, 52, 52, 52, 52, 52, 53, 53, 53, 53, 53, 53, 53, 53, 53, 53, 54, 54, 54, 54, 54, 54, 54, 54, 54, 54, 55, 55, 55, 55, 55, 55, 55, 55, 55, 55, 56, 56, 56, 56, 56, 56, 56, 56, 56, 56, 57, 57, 57, 57, 57, 57, 57, 57, 57, 57] else xWo i
def xRy (i : Nat) : List Nat := if i = 102 then [17, 22, 23, 24] else [25, 26, 27, 28, 29]
def xA (G : XG) : Nat → Prop := fun q => xB G ≤ q
abbrev xTys (G : XG) : List (ClassId × FieldType) := [(G.2.1 0, .int), (G.2.1 1, .byte), (G.2.1 2, .long), (G.2.1 3, .object RX1), (G.2.1 4, .object RX2), (G.2.1 5, .object RX3), (G.2.1 6, .object RX6), (G.2.1 7, .array .int), (G.2.1 8, .object RX8)]
def xK (G : XG) (U : State) : Prop := va_K G.1 vwCl (xTys G) U
def xAt (G : XG) (Y : XY) (N : XN) (H : Heap) (a : Nat) : Prop := match kc Y a with
  | 0 => True
  | 1 => H[a]? = some (vp_cell (G.2.1 0) (kn Y a, .inl (N.1 a)))
  | 2 => H[a]? = some (vp_cell (G.2.1 1) (kn Y a, .inl (N.1 a)))
  | 3 => H[a]? = some (vp_cell (G.2.1 2) (kn Y a, .inr (.inl (N.2 a))))
  | 4 => H[a]? = some (vp_cell (G.2.1 3) (kn Y a, .inr (.inr (.inr (.inr (Y.1 a))))))
  | 5 => H[a]? = some (vp_cell (G.2.1 4) (kn Y a, .inr (.inr (.inr (.inr (Y.1 a))))))
  | 6 => H[a]? = some (vp_cell (G.2.1 5) (kn Y a, .inr (.inr (.inr (.inr (Y.1 a))))))
  | 7 => H[a]? = some (vp_cell (G.2.1 6) (kn Y a, .inr (.inr (.inr (.inr (Y.1 a))))))
  | 8 => H[a]? = some (vp_cell (G.2.1 7) (kn Y a, .inr (.inr (.inr (.inr (Y.1 a))))))
  | 9 => H.size = a
  | c + 10 => (c < 13 → ∃ r : vw_C, vwCl[c]? = some r ∧ t_OB a (G.1.1 c) r.2.2 (G.1.2 c) H (xV Y N c a)) ∧ (c = 33 → H[a]? = some (vp_cell (G.2.1 8) (kn Y a, .inr (.inr (.inr (.inr (Y.1 a))))))) ∧ (c = 30 → ∃ i, i < 37 ∧ a = xS G i ∧ Y.1 a 0 = some (xSv G i) ∧ N.1 a 1 = 0) ∧ (c = 31 → ∃ i, (i < 37 ∨ i = 100 ∨ i = 101) ∧ a = xSv G i ∧ kn Y a = (xBy i).length ∧ ∀ j, j < (xBy i).length → N.1 a j = (xBy i).getD j 0) ∧ (c = 32 → ∃ i, (i = 102 ∨ i = 103) ∧ a = xSv G i ∧ kn Y a = (xRy i).length ∧ ∀ j, j < (xRy i).length → Y.1 a j = some (xS G ((xRy i).getD j 0)))
/-- cells of the launch, never written -/
def frz (k : Nat) : Bool := k == 40 || k == 41 || k == 42
def xH (G : XG) (Y : XY) (N : XN) (H : Heap) : Prop := (∀ a, xAt G Y N H a) ∧ ∀ a, kc Y a ≠ 0 → frz (kc Y a) = false → xB G ≤ a

theorem xAt.kept {G : XG} {Y Y' : XY} {N N' : XN} {H H' : Heap} {a : Nat} (h : xAt G Y N H a) (hz : H'.size = H.size) (hq : H'[a]? = H[a]?) (hk : Y'.2 a = Y.2 a) (hr : ∀ k, Y'.1 a k = Y.1 a k) (hi : ∀ k, N'.1 a k = N.1 a k) (hl : ∀ k, N'.2 a k = N.2 a k) : xAt G Y' N' H' a := by
  have e1 : kc Y' a = kc Y a := by unfold kc; rw [hk]
  have e2 : kn Y' a = kn Y a := by unfold kn; rw [hk]
  have f1 : N'.1 a = N.1 a := funext hi
  have f2 : N'.2 a = N.2 a := funext hl
  have f3 : Y'.1 a = Y.1 a := funext hr
  have f4 : ∀ c, xV Y' N' c a = xV Y N c a := fun c => funext fun k => by unfold xV gr gi; rw [f1, f3]
  unfold xAt at h ⊢
  rw [e1, e2, f1, f2, f3, hq]
  revert h
  generalize kc Y a = z
  intro h
  match z, h with
  | 0, h => exact h
  | 1, h => exact h
  | 2, h => exact h
  | 3, h => exact h
  | 4, h => exact h
  | 5, h => exact h
  | 6, h => exact h
  | 7, h => exact h
  | 8, h => exact h
  | 9, h => exact hz.trans h
  | c + 10, h =>
    obtain ⟨b1, b2, b3, b4, b5⟩ := h
    exact ⟨fun hc => by obtain ⟨r, h1, h2⟩ := b1 hc; exact ⟨r, h1, by rw [f4 c]; exact h2.kept hq⟩, b2, b3, b4, b5⟩
def xWd : List (String × Nat × String × Nat) := [(RX5, 63, "lines", 0), (RX5, 65, "handler", 1), (RX5, 67, "line", 2), (RX5, 69, "raise", 3), (RX5, 71, "patience", 4), (RX5, 73, "window", 5), (RX5, 75, "storm", 6), (RX5, 77, "period", 7), (RX5, 79, "wage", 8), (RX5, 81, "fine", 9), (RX5, 83, "left", 10), (RX5, 85, "held", 11), (RX5, 87, "waited", 12), (RL, 108, " ", 13), (RL, 116, "lines;", 14), (RL, 131, "handler", 15), (RL, 136, ";", 16), (RL, 141, "line", 17), (RL, 150, "", 18), (RL, 155, "raise", 19), (RL, 173, "fine ", 20), (RL, 179, " ;", 21), (RL, 268, "left", 22), (RL, 270, "held", 23), (RL, 272, "waited", 24), (RL, 277, "patience", 25), (RL, 279, "window", 26), (RL, 281, "storm", 27), (RL, 283, "period", 28), (RL, 285, "wage", 29), (RX9, 37, "", 30), (RX9, 60, "+", 31), (RX9, 62, " - ", 32), (RX9, 64, "* ", 33), (RX9, 66, "/", 34), (RX9, 68, "(", 35), (RX9, 70, ")", 36)]
def xMs : List (Nat × String) := [(60, "no such length of the buffer"), (110, "no such number of the state"), (118, "no such handler"), (152, "no such number of a handler"), (157, "no such line"), (179, "no such number of a line"), (183, "no such place"), (193, "no such request"), (220, "no such number of a request"), (228, "no such number of ticks"), (240, "no such work"), (244, "there are 60 requests"), (255, "no such handler or line"), (263, "no such number of coins")]
def xDe : List MethodName := [Bundle.initS "java/lang/RuntimeException", Bundle.initS "java/lang/Exception", Bundle.initS Bundle.tN]
def xEx : List String := ["java/lang/IllegalArgumentException", "java/lang/IndexOutOfBoundsException", "java/util/NoSuchElementException", "java/lang/IllegalStateException"]
def xNe : List (String × Nat × MethodName) := [(RX7, 22, yX5_init), (RX7, 29, yX4_init), (RX6, 31, yX0_init), (RX6, 40, yX1_init), (RX6, 41, yX2_init), (RX6, 42, yX3_init)]
def xNp : List (String × String) := [("java/lang/IllegalArgumentException", "java/lang/IndexOutOfBoundsException"), ("java/util/NoSuchElementException", "java/lang/IndexOutOfBoundsException"), ("java/lang/IllegalStateException", "java/lang/IndexOutOfBoundsException"), ("java/lang/IllegalStateException", "java/lang/IllegalArgumentException")]
def xNl : List (String × Nat × MethodName) := [(RL, 115, yX8_init), (RX8, 35, yL_copied), (RX8, 62, yL_placeIn), (RX8, 66, yL_without), (RX8, 90, yL_extended)]
def xCs : List String := ["[I", "[B"]
def xSt : List (String × String × String × Nat) := [("java/lang/Integer", "DigitOnes", "[B", 100), ("java/lang/Integer", "DigitTens", "[B", 101), (RL, "VARIABLES", "[Ljava/lang/String;", 102), (RL, "NUMBERS", "[Ljava/lang/String;", 103)]
/-- what the launch's own cells hold, and goes on holding -/
def xAo : List String := [RX1, RX2, RX3, RX6, RX8]
theorem va_AOA.spec {ty : FieldType} {U : State} (h : va_AOA ty U) : ∃ comp c k, U.vm.findClass (FieldType.array ty).toString = some comp ∧ (U.vm.classes.findIdx? fun (x : Class) => match x.kind with | .array component _ => component == comp | _ => false) = some c ∧ U.vm.classes[c]? = some k ∧ k.kind = .array comp (.array ty) ∧ U.vm.findClass ("[" ++ (FieldType.array ty).toString) = some c := by
  unfold va_AOA Cond.before at h
  simp only [Cond.holds, Cond.value, beq_iff_eq] at h
  cases hc : U.vm.findClass (FieldType.array ty).toString with
  | none => simp [hc] at h
  | some comp =>
    simp only [hc, Option.bind_some, Option.bind_eq_some_iff, Option.map_eq_some_iff] at h
    obtain ⟨c, hi, k, hk, hb⟩ := h
    obtain ⟨hlt, hp, -⟩ := Array.findIdx?_eq_some_iff_getElem.mp hi
    have hkk : U.vm.classes[c] = k := (Array.getElem?_eq_some_iff.mp hk).2
    rw [hkk] at hp
    cases hkind : k.kind with
    | array component t9 =>
      rw [hkind] at hb hp
      simp at hb hp
      exact ⟨comp, c, k, rfl, hi, hk, by rw [hkind, hp, hb.1], hb.2⟩
    | _ => rw [hkind] at hb; simp at hb
theorem va_AOA.moved {ty : FieldType} {u U : State} (hvm : u.vm.Alike U.vm) (h : va_AOA ty u) : va_AOA ty U := by
  obtain ⟨comp, c, k, h1, h2, h3, h4, h5⟩ := va_AOA.spec h
  obtain ⟨k', hk', he⟩ := hvm.2.2 _ _ h3
  have hkind : k'.kind = .array comp (.array ty) := by rw [he]; exact h4
  have f1 : U.vm.findClass (FieldType.array ty).toString = some comp := by rw [hvm.findClass]; exact h1
  have f2 : U.vm.findClass ("[" ++ (FieldType.array ty).toString) = some c := by rw [hvm.findClass]; exact h5
  unfold va_AOA Cond.before
  simp only [Cond.holds, Cond.value, f1, Option.bind_some, beq_iff_eq]
  rw [Option.bind_eq_some_iff]
  refine ⟨c, (hvm.findIdx?_eqK _ (fun _ => rfl)).trans h2, ?_⟩
  simp [hk', hkind, f2]
def xC (G : XG) (U : State) (H : Heap) : Prop :=
  (∀ i, i < 37 → va_O "java/lang/String" (xS G i) (xA G) U H ∧ va_OF "java/lang/String" "coder" "B" (.int 0) (xS G i) (xA G) U H ∧ va_OF "java/lang/String" "value" "[B" (.ref (G.2.2.2.1 i)) (xS G i) (xA G) U H ∧ va_T .byte (G.2.2.2.1 i) (xWo i).length (fun j => .int ((xWo i).getD j 0)) (xA G) U H) ∧
  (∀ q ∈ xWd, vk_R q.1 q.2.1 q.2.2.1 (xS G q.2.2.2) U) ∧
  (∀ q ∈ xMs, ∃ sa : Nat, vk_R RX7 q.1 q.2 sa U) ∧
  vx_Zq Bundle.tN "UNASSIGNED_STACK" Bundle.steD (xA G) U H ∧ vx_Zq Bundle.tN "SUPPRESSED_SENTINEL" Bundle.listD (xA G) U H ∧
  va_Z "java/lang/String" "COMPACT_STRINGS" "Z" (.int 1) (xA G) U H ∧ va_Zq "jdk/internal/util/Preconditions" "SIOOBE_FORMATTER" "Ljava/util/function/BiFunction;" (xA G) U H ∧
  (∀ x ∈ xDe, va_Nw (.declares x) U) ∧ (∀ x ∈ xEx, va_Nw (.castable x x) U) ∧ (va_X (xSb G) (xSl G) (xSx G) U H ∧ ¬ xA G (xSb G)) ∧
  (∀ q ∈ xNe, va_Nw (.methodLinkNest q.1 q.2.1 q.2.2 RX7) U) ∧ (∀ q ∈ xNp, va_Nc q.1 q.2 U) ∧ (∀ C ∈ xAo, va_AO C U) ∧ va_AOA .int U ∧ (∀ q ∈ xSt, va_Z q.1 q.2.1 q.2.2.1 (.ref (xSv G q.2.2.2)) (xA G) U H) ∧ (∀ i, (i = 100 ∨ i = 101) → va_T .byte (xSv G i) (xBy i).length (fun j => .int ((xBy i).getD j 0)) (xA G) U H) ∧ (∀ i, (i = 102 ∨ i = 103) → va_T (.object "java/lang/String") (xSv G i) (xRy i).length (fun j => .ref (xS G ((xRy i).getD j 0))) (xA G) U H) ∧ (∀ q ∈ xCs, va_Nw (.castable q "java/lang/Cloneable") U) ∧ va_Nw (.fieldLinkNest RX9 50 RL "VARIABLES" "[Ljava/lang/String;" RL) U ∧ (∀ q ∈ xNl, va_Nw (.methodLinkNest q.1 q.2.1 q.2.2 RL) U)
theorem xC.to {G : XG} {s U : State} {H : Heap} {locs : List Loc} (h : xC G s s.heap) (hS : va_S (xA G) s.heap H locs) (hW : s.WarmedH U.vm) (hU : U.heap = H) : xC G U U.heap := by
  obtain ⟨h1, h2, h3, h4, h5, h6, h7, h8, h9, h10, h11, h12, h13, h14, h15, h16, h17, h18, h19, h20⟩ := h
  have hv : s.vm.Alike U.vm := hW.alike
  have kq : ∀ a : Nat, a < s.heap.size → ¬ xA G a → U.heap[a]? = s.heap[a]? := by rw [hU]; exact hS.2.1
  exact ⟨fun i hi => ⟨va_O.moved hv ((h1 i hi).1.kept kq), va_OF.moved hv ((h1 i hi).2.1.kept kq), va_OF.moved hv ((h1 i hi).2.2.1.kept kq), va_T.moved hv ((h1 i hi).2.2.2.kept kq)⟩,
    fun q hq => (h2 q hq).warm hW, fun q hq => by obtain ⟨sa, h⟩ := h3 q hq; exact ⟨sa, h.warm hW⟩,
    vx_Zq.moved hv (h4.kept kq), vx_Zq.moved hv (h5.kept kq), va_Z.moved hv (h6.kept kq), va_Zq.moved hv (h7.kept kq), fun x hx => va_Nw.warmD hW (h8 x hx), fun x hx => va_Nw.warmC hW (h9 x hx), ⟨va_X.moved hv (h10.1.kept (kq _ (by obtain ⟨⟨scr, h, -⟩, -⟩ := h10; exact (Array.getElem?_eq_some_iff.mp h).1) h10.2)), h10.2⟩, fun q hq => va_Nw.warmM hW (h11 q hq), fun q hq => va_Nc.moved hv (h12 q hq), fun C hC => va_AO.moved hv (h13 C hC), va_AOA.moved hv h14, fun q hq => va_Z.moved hv ((h15 q hq).kept kq), fun i hi => va_T.moved hv ((h16 i hi).kept kq), fun i hi => va_T.moved hv ((h17 i hi).kept kq), fun q hq => va_Nw.warmC hW (h18 q hq), va_Nw.warmF hW h19, fun q hq => va_Nw.warmM hW (h20 q hq)⟩
theorem xC.calling {G : XG} {U : State} {g : JFrame} {mk : MethodId} {a : Array Value} (h : xC G U U.heap) : xC G (U.calling g mk a) (U.calling g mk a).heap := by
  obtain ⟨h1, h2, h3, h4, h5, h6, h7, h8, h9, h10, h11, h12, h13, h14, h15, h16, h17, h18, h19, h20⟩ := h
  have hv : U.vm.Alike (U.calling g mk a).vm := Vm.Alike.refl U.vm
  exact ⟨fun i hi => ⟨va_O.moved hv (h1 i hi).1, va_OF.moved hv (h1 i hi).2.1, va_OF.moved hv (h1 i hi).2.2.1, va_T.moved hv (h1 i hi).2.2.2⟩,
    fun q hq => (h2 q hq).same rfl, fun q hq => by obtain ⟨sa, h⟩ := h3 q hq; exact ⟨sa, h.same rfl⟩,
    vx_Zq.moved hv h4, vx_Zq.moved hv h5, va_Z.moved hv h6, va_Zq.moved hv h7, fun x hx => va_Nw.same rfl rfl (h8 x hx), fun x hx => va_Nw.same rfl rfl (h9 x hx), ⟨va_X.moved hv h10.1, h10.2⟩, fun q hq => va_Nw.same rfl rfl (h11 q hq), fun q hq => va_Nc.moved hv (h12 q hq), fun C hC => va_AO.moved hv (h13 C hC), va_AOA.moved hv h14, fun q hq => va_Z.moved hv (h15 q hq), fun i hi => va_T.moved hv (h16 i hi), fun i hi => va_T.moved hv (h17 i hi), fun q hq => va_Nw.same rfl rfl (h18 q hq), va_Nw.same rfl rfl h19, fun q hq => va_Nw.same rfl rfl (h20 q hq)⟩
/-- a contract's world -/
def xPre (G : XG) (Y : XY) (N : XN) (U : State) : Prop := xK G U ∧ xH G Y N U.heap ∧ xC G U U.heap ∧ xB G ≤ U.heap.size
def xQ (G : XG) (o : Option Value ⊕ String) (Yf : XY) (Nf : XN) : Array Value → State → Outcome → State → Prop := fun _ st oc t => (∃ v : Option Value, o = .inl v ∧ oc = .returned v ∧ xH G Yf Nf t.heap) ∧ va_F (xA G) st t
def xX (G : XG) (o : Option Value ⊕ String) (Yf : XY) (Nf : XN) : String → State → State → Prop := fun E st t => o = .inr E ∧ xH G Yf Nf t.heap ∧ va_F (xA G) st t
/-- method y, called with As over this memory, ends so: a value or an exception's class, and the memory behind it -/
def Cl (G : XG) (yy : MethodName) (cc : ByteArray) (nL : Nat) (ret : Option FieldType) (R : Room) (As : List Value) (o : Option Value ⊕ String) (Y : XY) (N : XN) (Yf : XY) (Nf : XN) : Prop :=
  ∀ l : Launch, l.stackTraces = false → vx_Met l yy (Cond.code yy cc nL ret :: UW) R (va_Pc As (xPre G Y N)) (xQ G o Yf Nf) (xX G o Yf Nf) R.cells R.slots (xA G)
def xCx (G : XG) (p : Program) (l : Launch) (s : State) (m : MethodId) (args : Array Value) (meth : Method) (c : Code) (yy : MethodName) (cc : ByteArray) (nL : Nat) (ret : Option FieldType) (tb : List ExceptionTableEntry) : Prop :=
  p.tables.exec = Jvm.exec ∧ l.stackTraces = false ∧ c.code = cc ∧ c.maxLocals = nL ∧ s.vm.findClass yy.cls = some m.cls ∧ meth.name = yy.name ∧ meth.sig.returnType = ret ∧ meth.locks = false ∧ c.exceptionTable.toList = tb ∧ (∀ w ∈ UW, w.before args s = true) ∧ xK G s ∧ xC G s s.heap ∧ xB G ≤ s.heap.size
/-- what a body owes at its end -/
def xZ (G : XG) (R : Room) (o : Option Value ⊕ String) (Yf : XY) (Nf : XN) : List Frame → Array Value → State → State → Prop := fun below args s => vx_MQ below (xQ G o Yf Nf) (xX G o Yf Nf) args s R.cells R.slots (xA G)
/-- from this place of the method (its table of handlers tb), with these locals, this stack and this memory, the machine comes to Z -/
def ExZ (G : XG) (yy : MethodName) (cc : ByteArray) (nL : Nat) (ret : Option FieldType) (tb : List ExceptionTableEntry) (R : Room) (Z : List Frame → Array Value → State → State → Prop) (k n pc : Nat) (L : List (Nat × Value)) (st : List Value) (Y : XY) (N : XN) : Prop :=
  ∀ (p : Program) (l : Launch) (e : Env) (s : State) (m : MethodId) (args : Array Value) (below : List Frame) (meth : Method) (c : Code) (H : Heap) (locs : List Loc) (ls : Array Slot),
    xCx G p l s m args meth c yy cc nL ret tb → xH G Y N H → va_S (xA G) s.heap H locs → lv_has ls nL L →
    W p l e R s m args below meth c H locs k n (Z below args s) (F0 m pc ls st)
/-- from this place of the method it ends so -/
abbrev Ex (G : XG) (yy : MethodName) (cc : ByteArray) (nL : Nat) (ret : Option FieldType) (R : Room) (o : Option Value ⊕ String) (Yf : XY) (Nf : XN) (k n pc : Nat) (L : List (Nat × Value)) (st : List Value) (Y : XY) (N : XN) : Prop := ExZ G yy cc nL ret [] R (xZ G R o Yf Nf) k n pc L st Y N
section XR
variable {G : XG} {yy : MethodName} {cc : ByteArray} {nL : Nat} {ret : Option FieldType} {tb : List ExceptionTableEntry} {R : Room} {Z : List Frame → Array Value → State → State → Prop} {Y : XY} {N : XN} {k n pc : Nat} {L : List (Nat × Value)} {st : List Value}
theorem x_sub {L' : List (Nat × Value)} (ks : List Nat) (hl : lv_pick L ks = L') (kk : ExZ G yy cc nL ret tb R Z k n pc L' st Y N) : ExZ G yy cc nL ret tb R Z k n pc L st Y N := fun p l e s m args below meth c H locs ls C hH hS hL => kk p l e s m args below meth c H locs ls C hH hS (lv_sub hL ks hl)
theorem x_iconst {z : Int} {v : Int32} (hd : decode cc pc = .ok (.iconst z, 1)) (hv : Int32.ofInt z = v) (kk : ExZ G yy cc nL ret tb R Z k n (pc + 1) L (.int v :: st) Y N) : ExZ G yy cc nL ret tb R Z k n pc L st Y N := fun p l e s m args below meth c H locs ls C hH hS hL => lv_iconst C.1 C.2.2.1 hd hv (kk p l e s m args below meth c H locs ls C hH hS hL)
theorem x_bipush {z : Int} {v : Int32} (hd : decode cc pc = .ok (.bipush z, 2)) (hv : (Int8.ofInt z).toInt32 = v) (kk : ExZ G yy cc nL ret tb R Z k n (pc + 2) L (.int v :: st) Y N) : ExZ G yy cc nL ret tb R Z k n pc L st Y N := fun p l e s m args below meth c H locs ls C hH hS hL => lv_bipush C.1 C.2.2.1 hd hv (kk p l e s m args below meth c H locs ls C hH hS hL)
theorem x_sipush {z : Int} {v : Int32} (hd : decode cc pc = .ok (.sipush z, 3)) (hv : (Int16.ofInt z).toInt32 = v) (kk : ExZ G yy cc nL ret tb R Z k n (pc + 3) L (.int v :: st) Y N) : ExZ G yy cc nL ret tb R Z k n pc L st Y N := fun p l e s m args below meth c H locs ls C hH hS hL => lv_sipush C.1 C.2.2.1 hd hv (kk p l e s m args below meth c H locs ls C hH hS hL)
theorem x_lconst {z : Fin 2} {v : Int64} (hd : decode cc pc = .ok (.lconst z, 1)) (hv : Int64.ofNat (z : Nat) = v) (kk : ExZ G yy cc nL ret tb R Z k n (pc + 1) L (.long v :: st) Y N) : ExZ G yy cc nL ret tb R Z k n pc L st Y N := fun p l e s m args below meth c H locs ls C hH hS hL => lv_lconst C.1 C.2.2.1 hd hv (kk p l e s m args below meth c H locs ls C hH hS hL)
theorem x_iload_n {j : Fin 4} {i : Nat} {x : Int32} (q : Nat) (hd : decode cc pc = .ok (.iload_n j, 1)) (hi : (j : Nat) = i) (hq : L[q]? = some (i, .int x)) (kk : ExZ G yy cc nL ret tb R Z k n (pc + 1) L (.int x :: st) Y N) : ExZ G yy cc nL ret tb R Z k n pc L st Y N := fun p l e s m args below meth c H locs ls C hH hS hL => lv_iload_n C.1 C.2.2.1 hd hi (lv_at hL q hq) (kk p l e s m args below meth c H locs ls C hH hS hL)
theorem x_iload {i : Nat} {x : Int32} (q : Nat) (hd : decode cc pc = .ok (.iload i, 2)) (hq : L[q]? = some (i, .int x)) (kk : ExZ G yy cc nL ret tb R Z k n (pc + 2) L (.int x :: st) Y N) : ExZ G yy cc nL ret tb R Z k n pc L st Y N := fun p l e s m args below meth c H locs ls C hH hS hL => lv_iload C.1 C.2.2.1 hd (lv_at hL q hq) (kk p l e s m args below meth c H locs ls C hH hS hL)
theorem x_lload_n {j : Fin 4} {i : Nat} {x : Int64} (q : Nat) (hd : decode cc pc = .ok (.lload_n j, 1)) (hi : (j : Nat) = i) (hq : L[q]? = some (i, .long x)) (kk : ExZ G yy cc nL ret tb R Z k n (pc + 1) L (.long x :: st) Y N) : ExZ G yy cc nL ret tb R Z k n pc L st Y N := fun p l e s m args below meth c H locs ls C hH hS hL => lv_lload_n C.1 C.2.2.1 hd hi (lv_at hL q hq) (kk p l e s m args below meth c H locs ls C hH hS hL)
theorem x_lload {i : Nat} {x : Int64} (q : Nat) (hd : decode cc pc = .ok (.lload i, 2)) (hq : L[q]? = some (i, .long x)) (kk : ExZ G yy cc nL ret tb R Z k n (pc + 2) L (.long x :: st) Y N) : ExZ G yy cc nL ret tb R Z k n pc L st Y N := fun p l e s m args below meth c H locs ls C hH hS hL => lv_lload C.1 C.2.2.1 hd (lv_at hL q hq) (kk p l e s m args below meth c H locs ls C hH hS hL)
theorem x_aload_n {j : Fin 4} {i : Nat} {x : Nat} (q : Nat) (hd : decode cc pc = .ok (.aload_n j, 1)) (hi : (j : Nat) = i) (hq : L[q]? = some (i, .ref x)) (kk : ExZ G yy cc nL ret tb R Z k n (pc + 1) L (.ref x :: st) Y N) : ExZ G yy cc nL ret tb R Z k n pc L st Y N := fun p l e s m args below meth c H locs ls C hH hS hL => lv_aload_n C.1 C.2.2.1 hd hi (lv_at hL q hq) (kk p l e s m args below meth c H locs ls C hH hS hL)
theorem x_aload {i : Nat} {x : Nat} (q : Nat) (hd : decode cc pc = .ok (.aload i, 2)) (hq : L[q]? = some (i, .ref x)) (kk : ExZ G yy cc nL ret tb R Z k n (pc + 2) L (.ref x :: st) Y N) : ExZ G yy cc nL ret tb R Z k n pc L st Y N := fun p l e s m args below meth c H locs ls C hH hS hL => lv_aload C.1 C.2.2.1 hd (lv_at hL q hq) (kk p l e s m args below meth c H locs ls C hH hS hL)
theorem x_istore_n {j : Fin 4} {i : Nat} {x : Int32} {L' : List (Nat × Value)} (ks : List Nat) (hd : decode cc pc = .ok (.istore_n j, 1)) (hi : (j : Nat) = i) (hn : i < nL) (hl : lv_pick ((i, Value.int x) :: L.filter (fun q => !(q.1 == i) && !(q.1 + 1 == i && q.2.category == 2))) ks = L') (kk : ExZ G yy cc nL ret tb R Z k n (pc + 1) L' st Y N) : ExZ G yy cc nL ret tb R Z k n pc L (.int x :: st) Y N := fun p l e s m args below meth c H locs ls C hH hS hL => lv_istore_n C.1 C.2.2.1 hd hi hL hn rfl (fun ls1 hL1 => kk p l e s m args below meth c H locs ls1 C hH hS (lv_sub hL1 ks hl))
theorem x_istore {i : Nat} {x : Int32} {L' : List (Nat × Value)} (ks : List Nat) (hd : decode cc pc = .ok (.istore i, 2)) (hn : i < nL) (hl : lv_pick ((i, Value.int x) :: L.filter (fun q => !(q.1 == i) && !(q.1 + 1 == i && q.2.category == 2))) ks = L') (kk : ExZ G yy cc nL ret tb R Z k n (pc + 2) L' st Y N) : ExZ G yy cc nL ret tb R Z k n pc L (.int x :: st) Y N := fun p l e s m args below meth c H locs ls C hH hS hL => lv_istore C.1 C.2.2.1 hd hL hn rfl (fun ls1 hL1 => kk p l e s m args below meth c H locs ls1 C hH hS (lv_sub hL1 ks hl))
theorem x_lstore_n {j : Fin 4} {i : Nat} {x : Int64} {L' : List (Nat × Value)} (ks : List Nat) (hd : decode cc pc = .ok (.lstore_n j, 1)) (hi : (j : Nat) = i) (hn : i + 1 < nL) (hl : lv_pick ((i, Value.long x) :: L.filter (fun q => !(q.1 == i) && (!(q.1 == i + 1) && !(q.1 + 1 == i && q.2.category == 2)))) ks = L') (kk : ExZ G yy cc nL ret tb R Z k n (pc + 1) L' st Y N) : ExZ G yy cc nL ret tb R Z k n pc L (.long x :: st) Y N := fun p l e s m args below meth c H locs ls C hH hS hL => lv_lstore_n C.1 C.2.2.1 hd hi hL hn rfl (fun ls1 hL1 => kk p l e s m args below meth c H locs ls1 C hH hS (lv_sub hL1 ks hl))
theorem x_lstore {i : Nat} {x : Int64} {L' : List (Nat × Value)} (ks : List Nat) (hd : decode cc pc = .ok (.lstore i, 2)) (hn : i + 1 < nL) (hl : lv_pick ((i, Value.long x) :: L.filter (fun q => !(q.1 == i) && (!(q.1 == i + 1) && !(q.1 + 1 == i && q.2.category == 2)))) ks = L') (kk : ExZ G yy cc nL ret tb R Z k n (pc + 2) L' st Y N) : ExZ G yy cc nL ret tb R Z k n pc L (.long x :: st) Y N := fun p l e s m args below meth c H locs ls C hH hS hL => lv_lstore C.1 C.2.2.1 hd hL hn rfl (fun ls1 hL1 => kk p l e s m args below meth c H locs ls1 C hH hS (lv_sub hL1 ks hl))
theorem x_astore_n {j : Fin 4} {i : Nat} {x : Nat} {L' : List (Nat × Value)} (ks : List Nat) (hd : decode cc pc = .ok (.astore_n j, 1)) (hi : (j : Nat) = i) (hn : i < nL) (hl : lv_pick ((i, Value.ref x) :: L.filter (fun q => !(q.1 == i) && !(q.1 + 1 == i && q.2.category == 2))) ks = L') (kk : ExZ G yy cc nL ret tb R Z k n (pc + 1) L' st Y N) : ExZ G yy cc nL ret tb R Z k n pc L (.ref x :: st) Y N := fun p l e s m args below meth c H locs ls C hH hS hL => lv_astore_n C.1 C.2.2.1 hd hi hL hn rfl (fun ls1 hL1 => kk p l e s m args below meth c H locs ls1 C hH hS (lv_sub hL1 ks hl))
theorem x_astore {i : Nat} {x : Nat} {L' : List (Nat × Value)} (ks : List Nat) (hd : decode cc pc = .ok (.astore i, 2)) (hn : i < nL) (hl : lv_pick ((i, Value.ref x) :: L.filter (fun q => !(q.1 == i) && !(q.1 + 1 == i && q.2.category == 2))) ks = L') (kk : ExZ G yy cc nL ret tb R Z k n (pc + 2) L' st Y N) : ExZ G yy cc nL ret tb R Z k n pc L (.ref x :: st) Y N := fun p l e s m args below meth c H locs ls C hH hS hL => lv_astore C.1 C.2.2.1 hd hL hn rfl (fun ls1 hL1 => kk p l e s m args below meth c H locs ls1 C hH hS (lv_sub hL1 ks hl))
theorem x_iinc {i : Nat} {z : Int} {x v : Int32} {L' : List (Nat × Value)} (q : Nat) (ks : List Nat) (hd : decode cc pc = .ok (.iinc i z, 3)) (hq : L[q]? = some (i, .int x)) (hv : x + Int32.ofInt z = v) (hn : i < nL) (hl : lv_pick ((i, Value.int v) :: L.filter (fun q => !(q.1 == i) && !(q.1 + 1 == i && q.2.category == 2))) ks = L') (kk : ExZ G yy cc nL ret tb R Z k n (pc + 3) L' st Y N) : ExZ G yy cc nL ret tb R Z k n pc L st Y N := fun p l e s m args below meth c H locs ls C hH hS hL => lv_iinc C.1 C.2.2.1 hd hL hq hv hn rfl (fun ls1 hL1 => kk p l e s m args below meth c H locs ls1 C hH hS (lv_sub hL1 ks hl))
theorem x_iadd {x y : Int32} (hd : decode cc pc = .ok (.iadd, 1)) (kk : ExZ G yy cc nL ret tb R Z k n (pc + 1) L (.int (x + y) :: st) Y N) : ExZ G yy cc nL ret tb R Z k n pc L (.int y :: .int x :: st) Y N := fun p l e s m args below meth c H locs ls C hH hS hL => lv_iadd C.1 C.2.2.1 hd (kk p l e s m args below meth c H locs ls C hH hS hL)
theorem x_isub {x y : Int32} (hd : decode cc pc = .ok (.isub, 1)) (kk : ExZ G yy cc nL ret tb R Z k n (pc + 1) L (.int (x - y) :: st) Y N) : ExZ G yy cc nL ret tb R Z k n pc L (.int y :: .int x :: st) Y N := fun p l e s m args below meth c H locs ls C hH hS hL => lv_isub C.1 C.2.2.1 hd (kk p l e s m args below meth c H locs ls C hH hS hL)
theorem x_imul {x y : Int32} (hd : decode cc pc = .ok (.imul, 1)) (kk : ExZ G yy cc nL ret tb R Z k n (pc + 1) L (.int (x * y) :: st) Y N) : ExZ G yy cc nL ret tb R Z k n pc L (.int y :: .int x :: st) Y N := fun p l e s m args below meth c H locs ls C hH hS hL => lv_imul C.1 C.2.2.1 hd (kk p l e s m args below meth c H locs ls C hH hS hL)
theorem x_iand {x y : Int32} (hd : decode cc pc = .ok (.iand, 1)) (kk : ExZ G yy cc nL ret tb R Z k n (pc + 1) L (.int (x &&& y) :: st) Y N) : ExZ G yy cc nL ret tb R Z k n pc L (.int y :: .int x :: st) Y N := fun p l e s m args below meth c H locs ls C hH hS hL => lv_iand C.1 C.2.2.1 hd (kk p l e s m args below meth c H locs ls C hH hS hL)
theorem x_ior {x y : Int32} (hd : decode cc pc = .ok (.ior, 1)) (kk : ExZ G yy cc nL ret tb R Z k n (pc + 1) L (.int (x ||| y) :: st) Y N) : ExZ G yy cc nL ret tb R Z k n pc L (.int y :: .int x :: st) Y N := fun p l e s m args below meth c H locs ls C hH hS hL => lv_ior C.1 C.2.2.1 hd (kk p l e s m args below meth c H locs ls C hH hS hL)
theorem x_ishl {x y : Int32} (hd : decode cc pc = .ok (.ishl, 1)) (kk : ExZ G yy cc nL ret tb R Z k n (pc + 1) L (.int (x <<< (y &&& 31)) :: st) Y N) : ExZ G yy cc nL ret tb R Z k n pc L (.int y :: .int x :: st) Y N := fun p l e s m args below meth c H locs ls C hH hS hL => lv_ishl C.1 C.2.2.1 hd (kk p l e s m args below meth c H locs ls C hH hS hL)
theorem x_ishr {x y : Int32} (hd : decode cc pc = .ok (.ishr, 1)) (kk : ExZ G yy cc nL ret tb R Z k n (pc + 1) L (.int (x >>> (y &&& 31)) :: st) Y N) : ExZ G yy cc nL ret tb R Z k n pc L (.int y :: .int x :: st) Y N := fun p l e s m args below meth c H locs ls C hH hS hL => lv_ishr C.1 C.2.2.1 hd (kk p l e s m args below meth c H locs ls C hH hS hL)
theorem x_iushr {x y v : Int32} (hd : decode cc pc = .ok (.iushr, 1)) (hv : (x.toUInt32 >>> (y.toUInt32 &&& Int32.toUInt32 31)).toInt32 = v) (kk : ExZ G yy cc nL ret tb R Z k n (pc + 1) L (.int v :: st) Y N) : ExZ G yy cc nL ret tb R Z k n pc L (.int y :: .int x :: st) Y N := fun p l e s m args below meth c H locs ls C hH hS hL => lv_iushr C.1 C.2.2.1 hd hv (kk p l e s m args below meth c H locs ls C hH hS hL)
theorem x_ladd {x y : Int64} (hd : decode cc pc = .ok (.ladd, 1)) (kk : ExZ G yy cc nL ret tb R Z k n (pc + 1) L (.long (x + y) :: st) Y N) : ExZ G yy cc nL ret tb R Z k n pc L (.long y :: .long x :: st) Y N := fun p l e s m args below meth c H locs ls C hH hS hL => lv_ladd C.1 C.2.2.1 hd (kk p l e s m args below meth c H locs ls C hH hS hL)
theorem x_lsub {x y : Int64} (hd : decode cc pc = .ok (.lsub, 1)) (kk : ExZ G yy cc nL ret tb R Z k n (pc + 1) L (.long (x - y) :: st) Y N) : ExZ G yy cc nL ret tb R Z k n pc L (.long y :: .long x :: st) Y N := fun p l e s m args below meth c H locs ls C hH hS hL => lv_lsub C.1 C.2.2.1 hd (kk p l e s m args below meth c H locs ls C hH hS hL)
theorem x_lmul {x y : Int64} (hd : decode cc pc = .ok (.lmul, 1)) (kk : ExZ G yy cc nL ret tb R Z k n (pc + 1) L (.long (x * y) :: st) Y N) : ExZ G yy cc nL ret tb R Z k n pc L (.long y :: .long x :: st) Y N := fun p l e s m args below meth c H locs ls C hH hS hL => lv_lmul C.1 C.2.2.1 hd (kk p l e s m args below meth c H locs ls C hH hS hL)
theorem x_idiv {x y : Int32} (hd : decode cc pc = .ok (.idiv, 1)) (hne : ¬ y = 0) (kk : ExZ G yy cc nL ret tb R Z k n (pc + 1) L (.int (x / y) :: st) Y N) : ExZ G yy cc nL ret tb R Z k n pc L (.int y :: .int x :: st) Y N := fun p l e s m args below meth c H locs ls C hH hS hL => lv_idiv C.1 C.2.2.1 hd hne (kk p l e s m args below meth c H locs ls C hH hS hL)
theorem x_irem {x y : Int32} (hd : decode cc pc = .ok (.irem, 1)) (hne : ¬ y = 0) (kk : ExZ G yy cc nL ret tb R Z k n (pc + 1) L (.int (x - x / y * y) :: st) Y N) : ExZ G yy cc nL ret tb R Z k n pc L (.int y :: .int x :: st) Y N := fun p l e s m args below meth c H locs ls C hH hS hL => lv_irem C.1 C.2.2.1 hd hne (kk p l e s m args below meth c H locs ls C hH hS hL)
theorem x_ldiv {x y : Int64} (hd : decode cc pc = .ok (.ldiv, 1)) (hne : ¬ y = 0) (kk : ExZ G yy cc nL ret tb R Z k n (pc + 1) L (.long (x / y) :: st) Y N) : ExZ G yy cc nL ret tb R Z k n pc L (.long y :: .long x :: st) Y N := fun p l e s m args below meth c H locs ls C hH hS hL => lv_ldiv C.1 C.2.2.1 hd hne (kk p l e s m args below meth c H locs ls C hH hS hL)
theorem x_lcmp {x y : Int64} (hd : decode cc pc = .ok (.lcmp, 1)) (kk : ExZ G yy cc nL ret tb R Z k n (pc + 1) L (.int (lg_cmp x y) :: st) Y N) : ExZ G yy cc nL ret tb R Z k n pc L (.long y :: .long x :: st) Y N := fun p l e s m args below meth c H locs ls C hH hS hL => W.lcmp C.1 C.2.2.1 hd (kk p l e s m args below meth c H locs ls C hH hS hL)
theorem x_ineg {x : Int32} (hd : decode cc pc = .ok (.ineg, 1)) (kk : ExZ G yy cc nL ret tb R Z k n (pc + 1) L (.int (-x) :: st) Y N) : ExZ G yy cc nL ret tb R Z k n pc L (.int x :: st) Y N := fun p l e s m args below meth c H locs ls C hH hS hL => lv_ineg C.1 C.2.2.1 hd (kk p l e s m args below meth c H locs ls C hH hS hL)
theorem x_i2l {x : Int32} (hd : decode cc pc = .ok (.i2l, 1)) (kk : ExZ G yy cc nL ret tb R Z k n (pc + 1) L (.long x.toInt64 :: st) Y N) : ExZ G yy cc nL ret tb R Z k n pc L (.int x :: st) Y N := fun p l e s m args below meth c H locs ls C hH hS hL => lv_i2l C.1 C.2.2.1 hd rfl (kk p l e s m args below meth c H locs ls C hH hS hL)
theorem x_l2i {x : Int64} (hd : decode cc pc = .ok (.l2i, 1)) (kk : ExZ G yy cc nL ret tb R Z k n (pc + 1) L (.int x.toInt32 :: st) Y N) : ExZ G yy cc nL ret tb R Z k n pc L (.long x :: st) Y N := fun p l e s m args below meth c H locs ls C hH hS hL => lv_l2i C.1 C.2.2.1 hd rfl (kk p l e s m args below meth c H locs ls C hH hS hL)
theorem x_i2b {x : Int32} (hd : decode cc pc = .ok (.i2b, 1)) (kk : ExZ G yy cc nL ret tb R Z k n (pc + 1) L (.int x.toInt8.toInt32 :: st) Y N) : ExZ G yy cc nL ret tb R Z k n pc L (.int x :: st) Y N := fun p l e s m args below meth c H locs ls C hH hS hL => lv_i2b C.1 C.2.2.1 hd rfl (kk p l e s m args below meth c H locs ls C hH hS hL)
theorem x_dup {v : Value} (hd : decode cc pc = .ok (.dup, 1)) (hv : v.category = 1) (kk : ExZ G yy cc nL ret tb R Z k n (pc + 1) L (v :: v :: st) Y N) : ExZ G yy cc nL ret tb R Z k n pc L (v :: st) Y N := fun p l e s m args below meth c H locs ls C hH hS hL => lv_dup C.1 C.2.2.1 hd hv (kk p l e s m args below meth c H locs ls C hH hS hL)
theorem x_pop {v : Value} (hd : decode cc pc = .ok (.pop, 1)) (hv : v.category = 1) (kk : ExZ G yy cc nL ret tb R Z k n (pc + 1) L st Y N) : ExZ G yy cc nL ret tb R Z k n pc L (v :: st) Y N := fun p l e s m args below meth c H locs ls C hH hS hL => lv_pop C.1 C.2.2.1 hd hv (kk p l e s m args below meth c H locs ls C hH hS hL)
theorem x_dup2 {v w : Value} (hd : decode cc pc = .ok (.dup2, 1)) (hv : v.category = 1) (hw : w.category = 1) (kk : ExZ G yy cc nL ret tb R Z k n (pc + 1) L (v :: w :: v :: w :: st) Y N) : ExZ G yy cc nL ret tb R Z k n pc L (v :: w :: st) Y N := fun p l e s m args below meth c H locs ls C hH hS hL => lv_dup2_11 C.1 C.2.2.1 hd hv hw (kk p l e s m args below meth c H locs ls C hH hS hL)
theorem x_goto {z : Int} {tgt : Nat} (hd : decode cc pc = .ok (.goto z, 3)) (ht : (pc : Int) + z = (tgt : Int)) (kk : ExZ G yy cc nL ret tb R Z k n tgt L st Y N) : ExZ G yy cc nL ret tb R Z k n pc L st Y N := fun p l e s m args below meth c H locs ls C hH hS hL => lv_goto C.1 C.2.2.1 hd ht (kk p l e s m args below meth c H locs ls C hH hS hL)
theorem x_if_eq_t {x : Int32} {z : Int} {tgt : Nat} (hd : decode cc pc = .ok (.ifCond .eq z, 3)) (ht : (pc : Int) + z = (tgt : Int)) (hc : x = 0) (kk : ExZ G yy cc nL ret tb R Z k n tgt L st Y N) : ExZ G yy cc nL ret tb R Z k n pc L (.int x :: st) Y N := fun p l e s m args below meth c H locs ls C hH hS hL => lv_if_eq C.1 C.2.2.1 hd ht (fun _ => (kk p l e s m args below meth c H locs ls C hH hS hL)) (fun h9 => absurd hc h9)
theorem x_if_eq_f {x : Int32} {z : Int} (hd : decode cc pc = .ok (.ifCond .eq z, 3)) {tgt : Nat} (ht : (pc : Int) + z = (tgt : Int)) (hc : ¬ (x = 0)) (kk : ExZ G yy cc nL ret tb R Z k n (pc + 3) L st Y N) : ExZ G yy cc nL ret tb R Z k n pc L (.int x :: st) Y N := fun p l e s m args below meth c H locs ls C hH hS hL => lv_if_eq C.1 C.2.2.1 hd ht (fun h9 => absurd h9 hc) (fun _ => (kk p l e s m args below meth c H locs ls C hH hS hL))
theorem x_icmp_eq_t {x y : Int32} {z : Int} {tgt : Nat} (hd : decode cc pc = .ok (.if_icmp .eq z, 3)) (ht : (pc : Int) + z = (tgt : Int)) (hc : x = y) (kk : ExZ G yy cc nL ret tb R Z k n tgt L st Y N) : ExZ G yy cc nL ret tb R Z k n pc L (.int y :: .int x :: st) Y N := fun p l e s m args below meth c H locs ls C hH hS hL => lv_icmp_eq C.1 C.2.2.1 hd ht (fun _ => (kk p l e s m args below meth c H locs ls C hH hS hL)) (fun h9 => absurd hc h9)
theorem x_icmp_eq_f {x y : Int32} {z : Int} (hd : decode cc pc = .ok (.if_icmp .eq z, 3)) {tgt : Nat} (ht : (pc : Int) + z = (tgt : Int)) (hc : ¬ (x = y)) (kk : ExZ G yy cc nL ret tb R Z k n (pc + 3) L st Y N) : ExZ G yy cc nL ret tb R Z k n pc L (.int y :: .int x :: st) Y N := fun p l e s m args below meth c H locs ls C hH hS hL => lv_icmp_eq C.1 C.2.2.1 hd ht (fun h9 => absurd h9 hc) (fun _ => (kk p l e s m args below meth c H locs ls C hH hS hL))
theorem x_if_ne_t {x : Int32} {z : Int} {tgt : Nat} (hd : decode cc pc = .ok (.ifCond .ne z, 3)) (ht : (pc : Int) + z = (tgt : Int)) (hc : ¬ x = 0) (kk : ExZ G yy cc nL ret tb R Z k n tgt L st Y N) : ExZ G yy cc nL ret tb R Z k n pc L (.int x :: st) Y N := fun p l e s m args below meth c H locs ls C hH hS hL => lv_if_ne C.1 C.2.2.1 hd ht (fun _ => (kk p l e s m args below meth c H locs ls C hH hS hL)) (fun h9 => absurd h9 hc)
theorem x_if_ne_f {x : Int32} {z : Int} (hd : decode cc pc = .ok (.ifCond .ne z, 3)) {tgt : Nat} (ht : (pc : Int) + z = (tgt : Int)) (hc : x = 0) (kk : ExZ G yy cc nL ret tb R Z k n (pc + 3) L st Y N) : ExZ G yy cc nL ret tb R Z k n pc L (.int x :: st) Y N := fun p l e s m args below meth c H locs ls C hH hS hL => lv_if_ne C.1 C.2.2.1 hd ht (fun h9 => absurd hc h9) (fun _ => (kk p l e s m args below meth c H locs ls C hH hS hL))
theorem x_icmp_ne_t {x y : Int32} {z : Int} {tgt : Nat} (hd : decode cc pc = .ok (.if_icmp .ne z, 3)) (ht : (pc : Int) + z = (tgt : Int)) (hc : ¬ x = y) (kk : ExZ G yy cc nL ret tb R Z k n tgt L st Y N) : ExZ G yy cc nL ret tb R Z k n pc L (.int y :: .int x :: st) Y N := fun p l e s m args below meth c H locs ls C hH hS hL => lv_icmp_ne C.1 C.2.2.1 hd ht (fun _ => (kk p l e s m args below meth c H locs ls C hH hS hL)) (fun h9 => absurd h9 hc)
theorem x_icmp_ne_f {x y : Int32} {z : Int} (hd : decode cc pc = .ok (.if_icmp .ne z, 3)) {tgt : Nat} (ht : (pc : Int) + z = (tgt : Int)) (hc : x = y) (kk : ExZ G yy cc nL ret tb R Z k n (pc + 3) L st Y N) : ExZ G yy cc nL ret tb R Z k n pc L (.int y :: .int x :: st) Y N := fun p l e s m args below meth c H locs ls C hH hS hL => lv_icmp_ne C.1 C.2.2.1 hd ht (fun h9 => absurd hc h9) (fun _ => (kk p l e s m args below meth c H locs ls C hH hS hL))
theorem x_if_lt_t {x : Int32} {z : Int} {tgt : Nat} (hd : decode cc pc = .ok (.ifCond .lt z, 3)) (ht : (pc : Int) + z = (tgt : Int)) (hc : x < 0) (kk : ExZ G yy cc nL ret tb R Z k n tgt L st Y N) : ExZ G yy cc nL ret tb R Z k n pc L (.int x :: st) Y N := fun p l e s m args below meth c H locs ls C hH hS hL => lv_if_lt C.1 C.2.2.1 hd ht (fun _ => (kk p l e s m args below meth c H locs ls C hH hS hL)) (fun h9 => absurd hc h9)
theorem x_if_lt_f {x : Int32} {z : Int} (hd : decode cc pc = .ok (.ifCond .lt z, 3)) {tgt : Nat} (ht : (pc : Int) + z = (tgt : Int)) (hc : ¬ (x < 0)) (kk : ExZ G yy cc nL ret tb R Z k n (pc + 3) L st Y N) : ExZ G yy cc nL ret tb R Z k n pc L (.int x :: st) Y N := fun p l e s m args below meth c H locs ls C hH hS hL => lv_if_lt C.1 C.2.2.1 hd ht (fun h9 => absurd h9 hc) (fun _ => (kk p l e s m args below meth c H locs ls C hH hS hL))
theorem x_icmp_lt_t {x y : Int32} {z : Int} {tgt : Nat} (hd : decode cc pc = .ok (.if_icmp .lt z, 3)) (ht : (pc : Int) + z = (tgt : Int)) (hc : x < y) (kk : ExZ G yy cc nL ret tb R Z k n tgt L st Y N) : ExZ G yy cc nL ret tb R Z k n pc L (.int y :: .int x :: st) Y N := fun p l e s m args below meth c H locs ls C hH hS hL => lv_icmp_lt C.1 C.2.2.1 hd ht (fun _ => (kk p l e s m args below meth c H locs ls C hH hS hL)) (fun h9 => absurd hc h9)
theorem x_icmp_lt_f {x y : Int32} {z : Int} (hd : decode cc pc = .ok (.if_icmp .lt z, 3)) {tgt : Nat} (ht : (pc : Int) + z = (tgt : Int)) (hc : ¬ (x < y)) (kk : ExZ G yy cc nL ret tb R Z k n (pc + 3) L st Y N) : ExZ G yy cc nL ret tb R Z k n pc L (.int y :: .int x :: st) Y N := fun p l e s m args below meth c H locs ls C hH hS hL => lv_icmp_lt C.1 C.2.2.1 hd ht (fun h9 => absurd h9 hc) (fun _ => (kk p l e s m args below meth c H locs ls C hH hS hL))
theorem x_if_ge_t {x : Int32} {z : Int} {tgt : Nat} (hd : decode cc pc = .ok (.ifCond .ge z, 3)) (ht : (pc : Int) + z = (tgt : Int)) (hc : 0 ≤ x) (kk : ExZ G yy cc nL ret tb R Z k n tgt L st Y N) : ExZ G yy cc nL ret tb R Z k n pc L (.int x :: st) Y N := fun p l e s m args below meth c H locs ls C hH hS hL => lv_if_ge C.1 C.2.2.1 hd ht (fun _ => (kk p l e s m args below meth c H locs ls C hH hS hL)) (fun h9 => absurd hc h9)
theorem x_if_ge_f {x : Int32} {z : Int} (hd : decode cc pc = .ok (.ifCond .ge z, 3)) {tgt : Nat} (ht : (pc : Int) + z = (tgt : Int)) (hc : ¬ (0 ≤ x)) (kk : ExZ G yy cc nL ret tb R Z k n (pc + 3) L st Y N) : ExZ G yy cc nL ret tb R Z k n pc L (.int x :: st) Y N := fun p l e s m args below meth c H locs ls C hH hS hL => lv_if_ge C.1 C.2.2.1 hd ht (fun h9 => absurd h9 hc) (fun _ => (kk p l e s m args below meth c H locs ls C hH hS hL))
theorem x_icmp_ge_t {x y : Int32} {z : Int} {tgt : Nat} (hd : decode cc pc = .ok (.if_icmp .ge z, 3)) (ht : (pc : Int) + z = (tgt : Int)) (hc : y ≤ x) (kk : ExZ G yy cc nL ret tb R Z k n tgt L st Y N) : ExZ G yy cc nL ret tb R Z k n pc L (.int y :: .int x :: st) Y N := fun p l e s m args below meth c H locs ls C hH hS hL => lv_icmp_ge C.1 C.2.2.1 hd ht (fun _ => (kk p l e s m args below meth c H locs ls C hH hS hL)) (fun h9 => absurd hc h9)
theorem x_icmp_ge_f {x y : Int32} {z : Int} (hd : decode cc pc = .ok (.if_icmp .ge z, 3)) {tgt : Nat} (ht : (pc : Int) + z = (tgt : Int)) (hc : ¬ (y ≤ x)) (kk : ExZ G yy cc nL ret tb R Z k n (pc + 3) L st Y N) : ExZ G yy cc nL ret tb R Z k n pc L (.int y :: .int x :: st) Y N := fun p l e s m args below meth c H locs ls C hH hS hL => lv_icmp_ge C.1 C.2.2.1 hd ht (fun h9 => absurd h9 hc) (fun _ => (kk p l e s m args below meth c H locs ls C hH hS hL))
theorem x_if_gt_t {x : Int32} {z : Int} {tgt : Nat} (hd : decode cc pc = .ok (.ifCond .gt z, 3)) (ht : (pc : Int) + z = (tgt : Int)) (hc : 0 < x) (kk : ExZ G yy cc nL ret tb R Z k n tgt L st Y N) : ExZ G yy cc nL ret tb R Z k n pc L (.int x :: st) Y N := fun p l e s m args below meth c H locs ls C hH hS hL => lv_if_gt C.1 C.2.2.1 hd ht (fun _ => (kk p l e s m args below meth c H locs ls C hH hS hL)) (fun h9 => absurd hc h9)
theorem x_if_gt_f {x : Int32} {z : Int} (hd : decode cc pc = .ok (.ifCond .gt z, 3)) {tgt : Nat} (ht : (pc : Int) + z = (tgt : Int)) (hc : ¬ (0 < x)) (kk : ExZ G yy cc nL ret tb R Z k n (pc + 3) L st Y N) : ExZ G yy cc nL ret tb R Z k n pc L (.int x :: st) Y N := fun p l e s m args below meth c H locs ls C hH hS hL => lv_if_gt C.1 C.2.2.1 hd ht (fun h9 => absurd h9 hc) (fun _ => (kk p l e s m args below meth c H locs ls C hH hS hL))
theorem x_icmp_gt_t {x y : Int32} {z : Int} {tgt : Nat} (hd : decode cc pc = .ok (.if_icmp .gt z, 3)) (ht : (pc : Int) + z = (tgt : Int)) (hc : y < x) (kk : ExZ G yy cc nL ret tb R Z k n tgt L st Y N) : ExZ G yy cc nL ret tb R Z k n pc L (.int y :: .int x :: st) Y N := fun p l e s m args below meth c H locs ls C hH hS hL => lv_icmp_gt C.1 C.2.2.1 hd ht (fun _ => (kk p l e s m args below meth c H locs ls C hH hS hL)) (fun h9 => absurd hc h9)
theorem x_icmp_gt_f {x y : Int32} {z : Int} (hd : decode cc pc = .ok (.if_icmp .gt z, 3)) {tgt : Nat} (ht : (pc : Int) + z = (tgt : Int)) (hc : ¬ (y < x)) (kk : ExZ G yy cc nL ret tb R Z k n (pc + 3) L st Y N) : ExZ G yy cc nL ret tb R Z k n pc L (.int y :: .int x :: st) Y N := fun p l e s m args below meth c H locs ls C hH hS hL => lv_icmp_gt C.1 C.2.2.1 hd ht (fun h9 => absurd h9 hc) (fun _ => (kk p l e s m args below meth c H locs ls C hH hS hL))
theorem x_if_le_t {x : Int32} {z : Int} {tgt : Nat} (hd : decode cc pc = .ok (.ifCond .le z, 3)) (ht : (pc : Int) + z = (tgt : Int)) (hc : x ≤ 0) (kk : ExZ G yy cc nL ret tb R Z k n tgt L st Y N) : ExZ G yy cc nL ret tb R Z k n pc L (.int x :: st) Y N := fun p l e s m args below meth c H locs ls C hH hS hL => lv_if_le C.1 C.2.2.1 hd ht (fun _ => (kk p l e s m args below meth c H locs ls C hH hS hL)) (fun h9 => absurd hc h9)
theorem x_if_le_f {x : Int32} {z : Int} (hd : decode cc pc = .ok (.ifCond .le z, 3)) {tgt : Nat} (ht : (pc : Int) + z = (tgt : Int)) (hc : ¬ (x ≤ 0)) (kk : ExZ G yy cc nL ret tb R Z k n (pc + 3) L st Y N) : ExZ G yy cc nL ret tb R Z k n pc L (.int x :: st) Y N := fun p l e s m args below meth c H locs ls C hH hS hL => lv_if_le C.1 C.2.2.1 hd ht (fun h9 => absurd h9 hc) (fun _ => (kk p l e s m args below meth c H locs ls C hH hS hL))
theorem x_icmp_le_t {x y : Int32} {z : Int} {tgt : Nat} (hd : decode cc pc = .ok (.if_icmp .le z, 3)) (ht : (pc : Int) + z = (tgt : Int)) (hc : x ≤ y) (kk : ExZ G yy cc nL ret tb R Z k n tgt L st Y N) : ExZ G yy cc nL ret tb R Z k n pc L (.int y :: .int x :: st) Y N := fun p l e s m args below meth c H locs ls C hH hS hL => lv_icmp_le C.1 C.2.2.1 hd ht (fun _ => (kk p l e s m args below meth c H locs ls C hH hS hL)) (fun h9 => absurd hc h9)
theorem x_icmp_le_f {x y : Int32} {z : Int} (hd : decode cc pc = .ok (.if_icmp .le z, 3)) {tgt : Nat} (ht : (pc : Int) + z = (tgt : Int)) (hc : ¬ (x ≤ y)) (kk : ExZ G yy cc nL ret tb R Z k n (pc + 3) L st Y N) : ExZ G yy cc nL ret tb R Z k n pc L (.int y :: .int x :: st) Y N := fun p l e s m args below meth c H locs ls C hH hS hL => lv_icmp_le C.1 C.2.2.1 hd ht (fun h9 => absurd h9 hc) (fun _ => (kk p l e s m args below meth c H locs ls C hH hS hL))
theorem x_swIn {dflt lo hi : Int} {offs : Array Int} {len : Nat} {x : Int32} {off : Int} {tgt : Nat} (hd : decode cc pc = .ok (.tableswitch dflt lo hi offs, len)) (h1 : ¬ x.toInt < lo) (h2 : ¬ hi < x.toInt) (ho : offs[(x.toInt - lo).toNat]? = some off) (ht : (pc : Int) + off = (tgt : Int)) (kk : ExZ G yy cc nL ret tb R Z k n tgt L st Y N) : ExZ G yy cc nL ret tb R Z k n pc L (.int x :: st) Y N := fun p l e s m args below meth c H locs ls C hH hS hL => lv_tableIn C.1 C.2.2.1 hd h1 h2 ho ht (kk p l e s m args below meth c H locs ls C hH hS hL)
theorem x_swOut {dflt lo hi : Int} {offs : Array Int} {len : Nat} {x : Int32} {tgt : Nat} (hd : decode cc pc = .ok (.tableswitch dflt lo hi offs, len)) (hc : x.toInt < lo ∨ hi < x.toInt) (ht : (pc : Int) + dflt = (tgt : Int)) (kk : ExZ G yy cc nL ret tb R Z k n tgt L st Y N) : ExZ G yy cc nL ret tb R Z k n pc L (.int x :: st) Y N := fun p l e s m args below meth c H locs ls C hH hS hL => lv_tableOut C.1 C.2.2.1 hd hc ht (kk p l e s m args below meth c H locs ls C hH hS hL)
theorem x_lookup {dflt : Int} {ps : Array (Int × Int)} {len : Nat} {x : Int32} {off : Int} {tgt : Nat} (hd : decode cc pc = .ok (.lookupswitch dflt ps, len)) (hp : (ps.toList.zip (ps.toList.drop 1)).all (fun (a, next) => a.1 < next.1) = true) (ho : Op.lookupswitch.offset ps.toList dflt x.toInt = off) (ht : (pc : Int) + off = (tgt : Int)) (kk : ExZ G yy cc nL ret tb R Z k n tgt L st Y N) : ExZ G yy cc nL ret tb R Z k n pc L (.int x :: st) Y N := fun p l e s m args below meth c H locs ls C hH hS hL => lv_lookup C.1 C.2.2.1 hd hp ho ht (kk p l e s m args below meth c H locs ls C hH hS hL)
theorem x_ldc {ix : Nat} {v : Int32} (hd : decode cc pc = .ok (.ldc ix, 2)) (hw : Cond.constant yy.cls ix v ∈ UW) (kk : ExZ G yy cc nL ret tb R Z k n (pc + 2) L (.int v :: st) Y N) : ExZ G yy cc nL ret tb R Z k n pc L st Y N := fun p l e s m args below meth c H locs ls C hH hS hL => lv_ldc C.1 C.2.2.1 C.2.2.2.2.1 (C.2.2.2.2.2.2.2.2.2.1 _ hw) hd (kk p l e s m args below meth c H locs ls C hH hS hL)
theorem x_ldcw {ix : Nat} {v : Int32} (hd : decode cc pc = .ok (.ldc_w ix, 3)) (hw : Cond.constant yy.cls ix v ∈ UW) (kk : ExZ G yy cc nL ret tb R Z k n (pc + 3) L (.int v :: st) Y N) : ExZ G yy cc nL ret tb R Z k n pc L st Y N := fun p l e s m args below meth c H locs ls C hH hS hL => lv_ldcw C.1 C.2.2.1 C.2.2.2.2.1 (C.2.2.2.2.2.2.2.2.2.1 _ hw) hd (kk p l e s m args below meth c H locs ls C hH hS hL)
theorem x_ldc2 {ix : Nat} {v : Int64} (hd : decode cc pc = .ok (.ldc2_w ix, 3)) (hw : Cond.constantLong yy.cls ix v ∈ UW) (kk : ExZ G yy cc nL ret tb R Z k n (pc + 3) L (.long v :: st) Y N) : ExZ G yy cc nL ret tb R Z k n pc L st Y N := fun p l e s m args below meth c H locs ls C hH hS hL => lv_ldc2 C.1 C.2.2.1 C.2.2.2.2.1 (C.2.2.2.2.2.2.2.2.2.1 _ hw) hd (kk p l e s m args below meth c H locs ls C hH hS hL)
theorem xq_ret {s t : State} {v : Option Value} {args : Array Value} {H : Heap} {locs : List Loc} (hH : xH G Y N H) (hS : va_S (xA G) s.heap H locs) (ht : t.heap = H) : xQ G (.inl v) Y N args s (.returned v) t := ⟨⟨v, rfl, rfl, by rw [ht]; exact hH⟩, hS.F ht⟩
theorem x_iret {v : Int32} (hd : decode cc pc = .ok (.ireturn, 1)) (hr : ret = some .int) (hk : R.cells = k) (hn : R.slots = n) : ExZ G yy cc nL ret tb R (xZ G R (.inl (some (.int v))) Y N) k n pc L [.int v] Y N := by
  intro p l e s m args below meth c H locs ls C hH hS hL
  subst hk; subst hn
  exact vx_ret (W.iret C.1 C.2.2.1 (C.2.2.2.2.2.2.1.trans hr) (fun t ht _ => xq_ret hH hS ht) hS.2.2 hd C.2.2.2.2.2.2.2.1)
theorem x_zret {v : Int32} (hd : decode cc pc = .ok (.ireturn, 1)) (hr : ret = some .boolean) (hz : v = 0 ∨ v = 1) (hk : R.cells = k) (hn : R.slots = n) : ExZ G yy cc nL ret tb R (xZ G R (.inl (some (.int v))) Y N) k n pc L [.int v] Y N := by
  intro p l e s m args below meth c H locs ls C hH hS hL
  subst hk; subst hn
  exact vx_ret (W.zret C.1 C.2.2.1 (C.2.2.2.2.2.2.1.trans hr) (by rcases hz with rfl | rfl <;> rfl) (fun t ht _ => xq_ret hH hS ht) hS.2.2 hd C.2.2.2.2.2.2.2.1)
theorem x_lret {v : Int64} (hd : decode cc pc = .ok (.lreturn, 1)) (hr : ret = some .long) (hk : R.cells = k) (hn : R.slots = n) : ExZ G yy cc nL ret tb R (xZ G R (.inl (some (.long v))) Y N) k n pc L [.long v] Y N := by
  intro p l e s m args below meth c H locs ls C hH hS hL
  subst hk; subst hn
  exact vx_ret (W.lret C.1 C.2.2.1 (C.2.2.2.2.2.2.1.trans hr) (fun t ht _ => xq_ret hH hS ht) hS.2.2 hd C.2.2.2.2.2.2.2.1)
theorem x_aret {v : Nat} {nm : String} (hd : decode cc pc = .ok (.areturn, 1)) (hr : ret = some (.object nm)) (hk : R.cells = k) (hn : R.slots = n) : ExZ G yy cc nL ret tb R (xZ G R (.inl (some (.ref v))) Y N) k n pc L [.ref v] Y N := by
  intro p l e s m args below meth c H locs ls C hH hS hL
  subst hk; subst hn
  exact vx_ret (W.aret C.1 C.2.2.1 (C.2.2.2.2.2.2.1.trans hr) (Or.inl ⟨_, rfl⟩) (Or.inr ⟨_, rfl⟩) (fun t ht _ => xq_ret hH hS ht) hS.2.2 hd C.2.2.2.2.2.2.2.1)
theorem x_vret (hd : decode cc pc = .ok (.return_, 1)) (hr : ret = none) (hk : R.cells = k) (hn : R.slots = n) : ExZ G yy cc nL ret tb R (xZ G R (.inl none) Y N) k n pc L [] Y N := by
  intro p l e s m args below meth c H locs ls C hH hS hL
  subst hk; subst hn
  exact vx_ret (W.vret C.1 C.2.2.1 (C.2.2.2.2.2.2.1.trans hr) (fun t ht _ => xq_ret hH hS ht) hS.2.2 hd C.2.2.2.2.2.2.2.1)
end XR
