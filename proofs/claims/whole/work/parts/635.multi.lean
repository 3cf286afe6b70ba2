/-! new int[M][K]: the outer array at q, the rows behind it -/
def yM (Y : XY) (q M K : Nat) : XY := (fun b j => if b = q then (if j < M then some (q + 1 + j) else none) else if q < b ∧ b ≤ q + M then none else Y.1 b j, fun b => if b = q then (8, M) else if q < b ∧ b ≤ q + M then (1, K) else if b = q + M + 1 then (9, 0) else Y.2 b)
def nM (N : XN) (q M : Nat) : XN := (fun b j => if q ≤ b ∧ b ≤ q + M then 0 else N.1 b j, fun b j => if q ≤ b ∧ b ≤ q + M then 0 else N.2 b j)
theorem xH.pushM {G : XG} {Y : XY} {N : XN} {H H1 : Heap} {q M K : Nat} (h : xH G Y N H) (h9 : kc Y q = 9) (z1 : H1.size = q + 1 + M) (o1 : ∀ x : Nat, x < q → H1[x]? = H[x]?)
    (c1 : H1[q]? = some (vp_cell (G.2.1 7) (M, .inr (.inr (.inr (.inr (fun j => if j < M then some (q + 1 + j) else none))))))) (c2 : ∀ j, j < M → H1[q + 1 + j]? = some (vp_cell (G.2.1 0) (K, .inl (fun _ => 0)))) : xH G (yM Y q M K) (nM N q M) H1 := by
  have hz : H.size = q := (h.1 q).end9 h9
  have hB : xB G ≤ q := h.2 q (by rw [h9]; decide)
  refine ⟨fun a => ?_, fun a ha => ?_⟩
  · by_cases e : a = q
    · have hk : kc (yM Y q M K) a = 8 := by simp [kc, yM, e]
      have hn : kn (yM Y q M K) a = M := by simp [kn, yM, e]
      have f1 : (yM Y q M K).1 a = fun j => if j < M then some (q + 1 + j) else none := by funext j; simp [yM, e]
      unfold xAt
      rw [hk, hn, f1, e]
      exact c1
    · by_cases e1 : q < a ∧ a ≤ q + M
      · have hk : kc (yM Y q M K) a = 1 := by simp only [kc, yM, if_neg e, if_pos e1]
        have hn : kn (yM Y q M K) a = K := by simp only [kn, yM, if_neg e, if_pos e1]
        have f1 : (nM N q M).1 a = fun _ => 0 := by
          funext j
          show (if q ≤ a ∧ a ≤ q + M then 0 else N.1 a j) = 0
          rw [if_pos ⟨by omega, e1.2⟩]
        unfold xAt
        rw [hk, hn, f1]
        have := c2 (a - (q + 1)) (by omega)
        rw [show q + 1 + (a - (q + 1)) = a by omega] at this
        exact this
      · by_cases e2 : a = q + M + 1
        · have hk : kc (yM Y q M K) a = 9 := by simp only [kc, yM, if_neg e, if_neg e1, if_pos e2]
          unfold xAt
          rw [hk, e2]
          show H1.size = q + M + 1
          omega
        · have hk : kc (yM Y q M K) a = kc Y a := by simp only [kc, yM, if_neg e, if_neg e1, if_neg e2]
          by_cases h0 : kc Y a = 0
          · unfold xAt
            rw [hk, h0]
            exact trivial
          · have h1 := h.1 a
            have hn9 : kc Y a ≠ 9 := fun z => e ((h1.end9 z).symm.trans hz)
            have hl := h1.lt h0 hn9
            rw [hz] at hl
            have hq := o1 a hl
            have en : ¬ (q ≤ a ∧ a ≤ q + M) := by omega
            have f1 : (nM N q M).1 a = N.1 a := by funext j; show (if q ≤ a ∧ a ≤ q + M then 0 else N.1 a j) = _; rw [if_neg en]
            have f2 : (nM N q M).2 a = N.2 a := by funext j; show (if q ≤ a ∧ a ≤ q + M then 0 else N.2 a j) = _; rw [if_neg en]
            have f3 : (yM Y q M K).1 a = Y.1 a := by funext j; simp only [yM, if_neg e, if_neg e1]
            have f5 : kn (yM Y q M K) a = kn Y a := by simp only [kn, yM, if_neg e, if_neg e1, if_neg e2]
            have f4 : ∀ cc, xV (yM Y q M K) (nM N q M) cc a = xV Y N cc a := fun cc => funext fun k => by unfold xV gr gi; rw [f1, f3]
            unfold xAt at h1 ⊢
            rw [hk, f1, f2, f3, f5, hq]
            revert h1 hn9
            generalize kc Y a = z
            intro h1 hn9
            match z, h1, hn9 with
            | 0, h1, _ => exact h1
            | 1, h1, _ => exact h1
            | 2, h1, _ => exact h1
            | 3, h1, _ => exact h1
            | 4, h1, _ => exact h1
            | 5, h1, _ => exact h1
            | 6, h1, _ => exact h1
            | 7, h1, _ => exact h1
            | 8, h1, _ => exact h1
            | 9, _, hn9 => exact absurd rfl hn9
            | cc + 10, h1, _ =>
              obtain ⟨r, e1, e2⟩ := h1
              exact ⟨r, e1, by rw [f4 cc]; exact e2.kept hq⟩
  · by_cases e : a = q
    · rw [e]; exact hB
    · by_cases e1 : q < a ∧ a ≤ q + M
      · omega
      · by_cases e2 : a = q + M + 1
        · omega
        · exact h.2 a (by simpa only [kc, yM, if_neg e, if_neg e1, if_neg e2] using ha)
section XMU
variable {G : XG} {yy : MethodName} {cc : ByteArray} {nL : Nat} {ret : Option FieldType} {tb : List ExceptionTableEntry} {R : Room} {Z : List Frame → Array Value → State → State → Prop} {Y : XY} {N : XN} {k n pc : Nat} {L : List (Nat × Value)} {st : List Value} {ix q : Nat}
theorem x_newM {z1 z2 : Int32} {M K : Nat} (hd : decode cc pc = .ok (.multianewarray ix 2, 4)) (hw : Cond.classLink yy.cls ix "[[I" ∈ UW) (hac : Cond.arrayClass .int ∈ UW) (hz1 : ¬ z1 < 0) (hz2 : ¬ z2 < 0) (hM : z1.toNatClampNeg = M) (hK9 : z2.toNatClampNeg = K) (hb1 : M * 4 ≤ 536870912) (hb2 : K * 4 ≤ 536870912) (h9 : kc Y q = 9) (hcap : k + 1 + M ≤ R.cells ∧ n + M + M * K ≤ R.slots)
    (kk : ExZ G yy cc nL ret tb R Z (k + 1 + M) (n + M + M * K) (pc + 4) L (.ref q :: st) (yM Y q M K) (nM N q M)) : ExZ G yy cc nL ret tb R Z k n pc L (.int z2 :: .int z1 :: st) Y N := by
  intro p l e s m args below meth c H locs ls C hH hS hL
  have k1 := fun H' hH' hS' => kk p l e s m args below meth c H' locs ls C hH' hS' hL
  obtain ⟨hx, -, hb, hml, hown, -, -, -, -, hts, hK, hC9, -⟩ := C
  have hz : H.size = q := (hH.1 q).end9 h9
  subst hM
  subst hK9
  intro T hT Xs
  obtain ⟨vm₁, cA, comp, -, fA, fC, hO, -, X', step⟩ := Xs.multianewarray2F (ty := .int) hx hown (hts _ hw) (va_AOA.use (A := args) hC9.2.2.2.2.2.2.2.2.2.2.2.2.2) (hts _ hac) (g := F0 m pc ls (.int z2 :: .int z1 :: st)) rfl (by rw [hb]; exact hd) rfl hz1 hz2 hb1 hb2 (by omega) rfl rfl (by omega) (by omega)
  generalize hF : Jvm.Free.Multi.fill (T.setVm vm₁) cA comp z1.toNatClampNeg z2.toNatClampNeg (defaultValue .int) z1.toNatClampNeg = F at X' step
  have hTh : (T.setVm vm₁).heap = H := hT
  obtain ⟨f1, f2, -, -⟩ := Jvm.Free.Multi.fill_facts (T.setVm vm₁) cA comp z1.toNatClampNeg z2.toNatClampNeg (defaultValue .int) z1.toNatClampNeg
  rw [hF, hTh, hz] at f1 f2
  have hold : ∀ x : Nat, x < q → F.heap[x]? = H[x]? := fun x hx => by
    have := Jvm.Free.Multi.fill_old (T.setVm vm₁) cA comp z1.toNatClampNeg z2.toNatClampNeg (defaultValue .int) (a := x) (by rw [hTh, hz]; exact hx) z1.toNatClampNeg
    rw [hF, hTh] at this
    exact this
  have hcA : cA = G.2.1 7 := Option.some.inj (fA.symm.trans (hK.2 7 _ rfl).2)
  have hcy : comp = G.2.1 0 := Option.some.inj (fC.symm.trans (hK.2 0 _ rfl).2)
  have hrow : ∀ j : Nat, j < z1.toNatClampNeg → F.heap[q + 1 + j]? = some (vp_cell (G.2.1 0) (z2.toNatClampNeg, .inl (fun _ => 0))) := fun j hj => by
    have := Jvm.Free.Multi.fill_inner (T.setVm vm₁) cA comp z1.toNatClampNeg z2.toNatClampNeg (defaultValue .int) z1.toNatClampNeg j hj
    rw [hF, hTh, hz] at this
    rw [this, ← hcy]
    show some ({ cls := comp, slots := Array.replicate z2.toNatClampNeg (.int 0), vm := .none } : Cell) = _
    rw [arrV_new]
    rfl
  have hout : Jvm.Free.Multi.outerC cA z1.toNatClampNeg q z1.toNatClampNeg = vp_cell cA (z1.toNatClampNeg, .inr (.inr (.inr (.inr (fun i => if i < z1.toNatClampNeg then some (q + 1 + i) else none))))) := by
    rw [vp_cell_q]
    exact vr_outer cA z1.toNatClampNeg q z1.toNatClampNeg
  rw [hout, hcA] at f2
  obtain ⟨t, a1, b1⟩ := k1 F.heap (hH.pushM h9 (by omega) hold f2 hrow) (va_S_grow hS (by omega) (fun x hx => hold x (by omega))) F rfl X'
  refine ⟨t, step t ?_, b1⟩
  have e : T.heap.size = q := by rw [hT]; exact hz
  rw [e]
  exact a1
end XMU
