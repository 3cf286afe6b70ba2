/-! MATH: by the library's contracts -/
def f_J9_max_7cf53 (_ : XY) (a b : Int32) (N : XN) : Option (Int32 × XN) := some (if a < b then b else a, N)
theorem wm_max_7cf53 : Cond.code Lib.MathLoose.max_int.x Lib.MathLoose.max_int.code 2 (some .int) ∈ UW := xu_mem (List.mem_of_getElem? (i := 1141) (by decide +kernel)) (by decide +kernel)
def f_J9_min_7cf53 (_ : XY) (a b : Int32) (N : XN) : Option (Int32 × XN) := some (if b < a then b else a, N)
theorem wm_min_7cf53 : Cond.code Lib.MathLoose.min_int.x Lib.MathLoose.min_int.code 2 (some .int) ∈ UW := xu_mem (List.mem_of_getElem? (i := 461) (by decide +kernel)) (by decide +kernel)
def f_J9_max_f86c9 (_ : XY) (a b : Int64) (N : XN) : Option (Int64 × XN) := some (if b < a then a else b, N)
theorem wm_max_f86c9 : Cond.code Lib.MathLoose.max_long.x Lib.MathLoose.max_long.code 4 (some .long) ∈ UW := xu_mem (List.mem_of_getElem? (i := 487) (by decide +kernel)) (by decide +kernel)
def f_J9_min_f86c9 (_ : XY) (a b : Int64) (N : XN) : Option (Int64 × XN) := some (if b < a then b else a, N)
theorem wm_min_f86c9 : Cond.code Lib.MathLoose.min_long.x Lib.MathLoose.min_long.code 4 (some .long) ∈ UW := xu_mem (List.mem_of_getElem? (i := 484) (by decide +kernel)) (by decide +kernel)
section XMA
variable {G : XG} {yy : MethodName} {cc : ByteArray} {nL : Nat} {ret : Option FieldType} {tb : List ExceptionTableEntry} {R : Room} {Z : List Frame → Array Value → State → State → Prop} {Y : XY} {N N' : XN} {k n pc ix : Nat} {L : List (Nat × Value)} {st : List Value}
set_option maxHeartbeats 1000000 in
theorem x_J9_max_7cf53 {a b r : Int32} (hd : decode cc pc = .ok (.invokestatic ix, 3)) (hl : Cond.methodLink yy.cls ix yJ9_max_7cf53 ∈ UW) (hr : f_J9_max_7cf53 Y a b N = some (r, N')) (hf : 1 ≤ R.frames) (hlo : 40 ≤ R.locals) (hW : (st.map fun v => v.category).sum ≤ 8) (hcap : k ≤ R.cells ∧ n ≤ R.slots)
    (kk : ExZ G yy cc nL ret tb R Z k n (pc + 3) L (.int r :: st) Y N') : ExZ G yy cc nL ret tb R Z k n pc L (.int b :: .int a :: st) Y N := by
  obtain ⟨rfl, rfl⟩ := Prod.mk.inj (x_so hr)
  intro p l e s m args below meth c H locs ls C hH hS hL
  have hts := C.2.2.2.2.2.2.2.2.2.1
  have k1 := kk p l e s m args below meth c H locs ls C hH hS hL
  intro T hT X
  have hcode := hts _ wm_max_7cf53
  obtain ⟨v, T', X', ⟨first, t, hpost⟩, hstep⟩ := X.staticByContractV C.1 C.2.2.2.2.1 (hts _ hl) (hts _ wt_J9_max_7cf53) (hts _ wn_J9) hcode (by decide) (Lib.MathLoose.max_int.meetsLoose l) rfl rfl rfl rfl
    (fun args' first o s₂ h => by
      cases o with
      | returned r => exact ⟨r, rfl⟩
      | threw y =>
        exfalso
        simp only [Lib.MathLoose.max_int.spec, Cond.after, Cond.holds, Cond.value] at h
        generalize Term.eval args' first (some (Outcome.threw y)) [] s₂ (Term.arg 1) = e1 at h
        generalize Term.eval args' first (some (Outcome.threw y)) [] s₂ (Term.arg 0) = e0 at h
        rcases e0 with _ | v0 <;> rcases e1 with _ | v1
        all_goals first | (cases v0 <;> cases v1 <;> simp at h) | (cases v0 <;> simp at h) | (cases v1 <;> simp at h) | simp at h
        all_goals (revert h; repeat' split) <;> simp_all)
    (g := F0 m pc ls (.int b :: .int a :: st)) rfl (hL.1.trans C.2.2.2.1.symm) (argsL := [.int a, .int b]) (rest := st)
    (fun sig hs => by
      have h : parseMethodDescriptor "(II)I" = some { parameters := [.int, .int], returnType := some .int } := by decide +kernel
      change parseMethodDescriptor "(II)I" = some sig at hs
      rw [h] at hs
      rw [← Option.some.inj hs]; rfl)
    rfl (by rw [C.2.2.1]; exact hd)
    (fun vm' hW => by
      simp only [Lib.MathLoose.max_int.spec, Cond.before_and, Bool.and_eq_true]
      refine ⟨?_, rfl, rfl, rfl⟩
      have q := hcode
      rw [← Cond.code_setVm hW.alike] at q
      simp only [Cond.before, Cond.holds, Cond.value, State.methodNamed?, State.vm_setVm] at q ⊢
      exact q)
    (by show 0 + 1 ≤ R.frames; omega) (by show 2 * 0 + (st.map fun v => v.category).sum + (2 + 11) + 0 ≤ R.locals; omega) (by show k + 0 ≤ R.cells; omega) (by show n + 0 ≤ R.slots; omega)
  have hv : v = some (.int (if a < b then b else a)) := by
    by_cases h1 : a < b
    · rcases v with _ | w
      · simp [Lib.MathLoose.max_int.spec, Cond.after, Cond.holds, Cond.value, Term.eval, h1] at hpost
      · cases w <;> simp [Lib.MathLoose.max_int.spec, Cond.after, Cond.holds, Cond.value, Term.eval, h1] at hpost ⊢ <;> first | (exact Decidable.byContradiction fun hx => by simp [hx] at hpost) | simp_all
    · by_cases h2 : a = b
      · rcases v with _ | w
        · simp [Lib.MathLoose.max_int.spec, Cond.after, Cond.holds, Cond.value, Term.eval, h1, h2] at hpost
        · cases w <;> simp [Lib.MathLoose.max_int.spec, Cond.after, Cond.holds, Cond.value, Term.eval, h1, h2] at hpost ⊢ <;> first | (exact Decidable.byContradiction fun hx => by simp [hx] at hpost) | simp_all
      · rcases v with _ | w
        · simp [Lib.MathLoose.max_int.spec, Cond.after, Cond.holds, Cond.value, Term.eval, h1, h2] at hpost
        · cases w <;> simp [Lib.MathLoose.max_int.spec, Cond.after, Cond.holds, Cond.value, Term.eval, h1, h2] at hpost ⊢ <;> first | (exact Decidable.byContradiction fun hx => by simp [hx] at hpost) | simp_all
  subst hv
  obtain ⟨t2, a1, b1⟩ := k1 (T.setVm T') hT X'
  exact ⟨t2, hstep t2 a1, b1⟩
set_option maxHeartbeats 1000000 in
theorem x_J9_min_7cf53 {a b r : Int32} (hd : decode cc pc = .ok (.invokestatic ix, 3)) (hl : Cond.methodLink yy.cls ix yJ9_min_7cf53 ∈ UW) (hr : f_J9_min_7cf53 Y a b N = some (r, N')) (hf : 1 ≤ R.frames) (hlo : 40 ≤ R.locals) (hW : (st.map fun v => v.category).sum ≤ 8) (hcap : k ≤ R.cells ∧ n ≤ R.slots)
    (kk : ExZ G yy cc nL ret tb R Z k n (pc + 3) L (.int r :: st) Y N') : ExZ G yy cc nL ret tb R Z k n pc L (.int b :: .int a :: st) Y N := by
  obtain ⟨rfl, rfl⟩ := Prod.mk.inj (x_so hr)
  intro p l e s m args below meth c H locs ls C hH hS hL
  have hts := C.2.2.2.2.2.2.2.2.2.1
  have k1 := kk p l e s m args below meth c H locs ls C hH hS hL
  intro T hT X
  have hcode := hts _ wm_min_7cf53
  obtain ⟨v, T', X', ⟨first, t, hpost⟩, hstep⟩ := X.staticByContractV C.1 C.2.2.2.2.1 (hts _ hl) (hts _ wt_J9_min_7cf53) (hts _ wn_J9) hcode (by decide) (Lib.MathLoose.min_int.meetsLoose l) rfl rfl rfl rfl
    (fun args' first o s₂ h => by
      cases o with
      | returned r => exact ⟨r, rfl⟩
      | threw y =>
        exfalso
        simp only [Lib.MathLoose.min_int.spec, Cond.after, Cond.holds, Cond.value] at h
        generalize Term.eval args' first (some (Outcome.threw y)) [] s₂ (Term.arg 1) = e1 at h
        generalize Term.eval args' first (some (Outcome.threw y)) [] s₂ (Term.arg 0) = e0 at h
        rcases e0 with _ | v0 <;> rcases e1 with _ | v1
        all_goals first | (cases v0 <;> cases v1 <;> simp at h) | (cases v0 <;> simp at h) | (cases v1 <;> simp at h) | simp at h
        all_goals (revert h; repeat' split) <;> simp_all)
    (g := F0 m pc ls (.int b :: .int a :: st)) rfl (hL.1.trans C.2.2.2.1.symm) (argsL := [.int a, .int b]) (rest := st)
    (fun sig hs => by
      have h : parseMethodDescriptor "(II)I" = some { parameters := [.int, .int], returnType := some .int } := by decide +kernel
      change parseMethodDescriptor "(II)I" = some sig at hs
      rw [h] at hs
      rw [← Option.some.inj hs]; rfl)
    rfl (by rw [C.2.2.1]; exact hd)
    (fun vm' hW => by
      simp only [Lib.MathLoose.min_int.spec, Cond.before_and, Bool.and_eq_true]
      refine ⟨?_, rfl, rfl, rfl⟩
      have q := hcode
      rw [← Cond.code_setVm hW.alike] at q
      simp only [Cond.before, Cond.holds, Cond.value, State.methodNamed?, State.vm_setVm] at q ⊢
      exact q)
    (by show 0 + 1 ≤ R.frames; omega) (by show 2 * 0 + (st.map fun v => v.category).sum + (2 + 11) + 0 ≤ R.locals; omega) (by show k + 0 ≤ R.cells; omega) (by show n + 0 ≤ R.slots; omega)
  have hv : v = some (.int (if b < a then b else a)) := by
    by_cases h1 : b < a
    · rcases v with _ | w
      · simp [Lib.MathLoose.min_int.spec, Cond.after, Cond.holds, Cond.value, Term.eval, h1] at hpost
      · cases w <;> simp [Lib.MathLoose.min_int.spec, Cond.after, Cond.holds, Cond.value, Term.eval, h1] at hpost ⊢ <;> first | (exact Decidable.byContradiction fun hx => by simp [hx] at hpost) | simp_all
    · by_cases h2 : a = b
      · rcases v with _ | w
        · simp [Lib.MathLoose.min_int.spec, Cond.after, Cond.holds, Cond.value, Term.eval, h1, h2] at hpost
        · cases w <;> simp [Lib.MathLoose.min_int.spec, Cond.after, Cond.holds, Cond.value, Term.eval, h1, h2] at hpost ⊢ <;> first | (exact Decidable.byContradiction fun hx => by simp [hx] at hpost) | simp_all
      · rcases v with _ | w
        · simp [Lib.MathLoose.min_int.spec, Cond.after, Cond.holds, Cond.value, Term.eval, h1, h2] at hpost
        · cases w <;> simp [Lib.MathLoose.min_int.spec, Cond.after, Cond.holds, Cond.value, Term.eval, h1, h2] at hpost ⊢ <;> first | (exact Decidable.byContradiction fun hx => by simp [hx] at hpost) | simp_all
  subst hv
  obtain ⟨t2, a1, b1⟩ := k1 (T.setVm T') hT X'
  exact ⟨t2, hstep t2 a1, b1⟩
set_option maxHeartbeats 1000000 in
theorem x_J9_max_f86c9 {a b r : Int64} (hd : decode cc pc = .ok (.invokestatic ix, 3)) (hl : Cond.methodLink yy.cls ix yJ9_max_f86c9 ∈ UW) (hr : f_J9_max_f86c9 Y a b N = some (r, N')) (hf : 1 ≤ R.frames) (hlo : 40 ≤ R.locals) (hW : (st.map fun v => v.category).sum ≤ 8) (hcap : k ≤ R.cells ∧ n ≤ R.slots)
    (kk : ExZ G yy cc nL ret tb R Z k n (pc + 3) L (.long r :: st) Y N') : ExZ G yy cc nL ret tb R Z k n pc L (.long b :: .long a :: st) Y N := by
  obtain ⟨rfl, rfl⟩ := Prod.mk.inj (x_so hr)
  intro p l e s m args below meth c H locs ls C hH hS hL
  have hts := C.2.2.2.2.2.2.2.2.2.1
  have k1 := kk p l e s m args below meth c H locs ls C hH hS hL
  intro T hT X
  have hcode := hts _ wm_max_f86c9
  obtain ⟨v, T', X', ⟨first, t, hpost⟩, hstep⟩ := X.staticByContractV C.1 C.2.2.2.2.1 (hts _ hl) (hts _ wt_J9_max_f86c9) (hts _ wn_J9) hcode (by decide) (Lib.MathLoose.max_long.meetsLoose l) rfl rfl rfl rfl
    (fun args' first o s₂ h => by
      cases o with
      | returned r => exact ⟨r, rfl⟩
      | threw y =>
        exfalso
        simp only [Lib.MathLoose.max_long.spec, Cond.after, Cond.holds, Cond.value] at h
        generalize Term.eval args' first (some (Outcome.threw y)) [] s₂ (Term.arg 1) = e1 at h
        generalize Term.eval args' first (some (Outcome.threw y)) [] s₂ (Term.arg 0) = e0 at h
        rcases e0 with _ | v0 <;> rcases e1 with _ | v1
        all_goals first | (cases v0 <;> cases v1 <;> simp at h) | (cases v0 <;> simp at h) | (cases v1 <;> simp at h) | simp at h
        all_goals (revert h; repeat' split) <;> simp_all)
    (g := F0 m pc ls (.long b :: .long a :: st)) rfl (hL.1.trans C.2.2.2.1.symm) (argsL := [.long a, .long b]) (rest := st)
    (fun sig hs => by
      have h : parseMethodDescriptor "(JJ)J" = some { parameters := [.long, .long], returnType := some .long } := by decide +kernel
      change parseMethodDescriptor "(JJ)J" = some sig at hs
      rw [h] at hs
      rw [← Option.some.inj hs]; rfl)
    rfl (by rw [C.2.2.1]; exact hd)
    (fun vm' hW => by
      simp only [Lib.MathLoose.max_long.spec, Cond.before_and, Bool.and_eq_true]
      refine ⟨?_, rfl, rfl, rfl⟩
      have q := hcode
      rw [← Cond.code_setVm hW.alike] at q
      simp only [Cond.before, Cond.holds, Cond.value, State.methodNamed?, State.vm_setVm] at q ⊢
      exact q)
    (by show 0 + 1 ≤ R.frames; omega) (by show 2 * 0 + (st.map fun v => v.category).sum + (4 + 11) + 0 ≤ R.locals; omega) (by show k + 0 ≤ R.cells; omega) (by show n + 0 ≤ R.slots; omega)
  have hv : v = some (.long (if b < a then a else b)) := by
    by_cases h1 : b < a
    · rcases v with _ | w
      · simp [Lib.MathLoose.max_long.spec, Cond.after, Cond.holds, Cond.value, Term.eval, h1] at hpost
      · cases w <;> simp [Lib.MathLoose.max_long.spec, Cond.after, Cond.holds, Cond.value, Term.eval, h1] at hpost ⊢ <;> first | (exact Decidable.byContradiction fun hx => by simp [hx] at hpost) | simp_all
    · by_cases h2 : a = b
      · rcases v with _ | w
        · simp [Lib.MathLoose.max_long.spec, Cond.after, Cond.holds, Cond.value, Term.eval, h1, h2] at hpost
        · cases w <;> simp [Lib.MathLoose.max_long.spec, Cond.after, Cond.holds, Cond.value, Term.eval, h1, h2] at hpost ⊢ <;> first | (exact Decidable.byContradiction fun hx => by simp [hx] at hpost) | simp_all
      · rcases v with _ | w
        · simp [Lib.MathLoose.max_long.spec, Cond.after, Cond.holds, Cond.value, Term.eval, h1, h2] at hpost
        · cases w <;> simp [Lib.MathLoose.max_long.spec, Cond.after, Cond.holds, Cond.value, Term.eval, h1, h2] at hpost ⊢ <;> first | (exact Decidable.byContradiction fun hx => by simp [hx] at hpost) | simp_all
  subst hv
  obtain ⟨t2, a1, b1⟩ := k1 (T.setVm T') hT X'
  exact ⟨t2, hstep t2 a1, b1⟩
set_option maxHeartbeats 1000000 in
theorem x_J9_min_f86c9 {a b r : Int64} (hd : decode cc pc = .ok (.invokestatic ix, 3)) (hl : Cond.methodLink yy.cls ix yJ9_min_f86c9 ∈ UW) (hr : f_J9_min_f86c9 Y a b N = some (r, N')) (hf : 1 ≤ R.frames) (hlo : 40 ≤ R.locals) (hW : (st.map fun v => v.category).sum ≤ 8) (hcap : k ≤ R.cells ∧ n ≤ R.slots)
    (kk : ExZ G yy cc nL ret tb R Z k n (pc + 3) L (.long r :: st) Y N') : ExZ G yy cc nL ret tb R Z k n pc L (.long b :: .long a :: st) Y N := by
  obtain ⟨rfl, rfl⟩ := Prod.mk.inj (x_so hr)
  intro p l e s m args below meth c H locs ls C hH hS hL
  have hts := C.2.2.2.2.2.2.2.2.2.1
  have k1 := kk p l e s m args below meth c H locs ls C hH hS hL
  intro T hT X
  have hcode := hts _ wm_min_f86c9
  obtain ⟨v, T', X', ⟨first, t, hpost⟩, hstep⟩ := X.staticByContractV C.1 C.2.2.2.2.1 (hts _ hl) (hts _ wt_J9_min_f86c9) (hts _ wn_J9) hcode (by decide) (Lib.MathLoose.min_long.meetsLoose l) rfl rfl rfl rfl
    (fun args' first o s₂ h => by
      cases o with
      | returned r => exact ⟨r, rfl⟩
      | threw y =>
        exfalso
        simp only [Lib.MathLoose.min_long.spec, Cond.after, Cond.holds, Cond.value] at h
        generalize Term.eval args' first (some (Outcome.threw y)) [] s₂ (Term.arg 1) = e1 at h
        generalize Term.eval args' first (some (Outcome.threw y)) [] s₂ (Term.arg 0) = e0 at h
        rcases e0 with _ | v0 <;> rcases e1 with _ | v1
        all_goals first | (cases v0 <;> cases v1 <;> simp at h) | (cases v0 <;> simp at h) | (cases v1 <;> simp at h) | simp at h
        all_goals (revert h; repeat' split) <;> simp_all)
    (g := F0 m pc ls (.long b :: .long a :: st)) rfl (hL.1.trans C.2.2.2.1.symm) (argsL := [.long a, .long b]) (rest := st)
    (fun sig hs => by
      have h : parseMethodDescriptor "(JJ)J" = some { parameters := [.long, .long], returnType := some .long } := by decide +kernel
      change parseMethodDescriptor "(JJ)J" = some sig at hs
      rw [h] at hs
      rw [← Option.some.inj hs]; rfl)
    rfl (by rw [C.2.2.1]; exact hd)
    (fun vm' hW => by
      simp only [Lib.MathLoose.min_long.spec, Cond.before_and, Bool.and_eq_true]
      refine ⟨?_, rfl, rfl, rfl⟩
      have q := hcode
      rw [← Cond.code_setVm hW.alike] at q
      simp only [Cond.before, Cond.holds, Cond.value, State.methodNamed?, State.vm_setVm] at q ⊢
      exact q)
    (by show 0 + 1 ≤ R.frames; omega) (by show 2 * 0 + (st.map fun v => v.category).sum + (4 + 11) + 0 ≤ R.locals; omega) (by show k + 0 ≤ R.cells; omega) (by show n + 0 ≤ R.slots; omega)
  have hv : v = some (.long (if b < a then b else a)) := by
    by_cases h1 : b < a
    · rcases v with _ | w
      · simp [Lib.MathLoose.min_long.spec, Cond.after, Cond.holds, Cond.value, Term.eval, h1] at hpost
      · cases w <;> simp [Lib.MathLoose.min_long.spec, Cond.after, Cond.holds, Cond.value, Term.eval, h1] at hpost ⊢ <;> first | (exact Decidable.byContradiction fun hx => by simp [hx] at hpost) | simp_all
    · by_cases h2 : a = b
      · rcases v with _ | w
        · simp [Lib.MathLoose.min_long.spec, Cond.after, Cond.holds, Cond.value, Term.eval, h1, h2] at hpost
        · cases w <;> simp [Lib.MathLoose.min_long.spec, Cond.after, Cond.holds, Cond.value, Term.eval, h1, h2] at hpost ⊢ <;> first | (exact Decidable.byContradiction fun hx => by simp [hx] at hpost) | simp_all
      · rcases v with _ | w
        · simp [Lib.MathLoose.min_long.spec, Cond.after, Cond.holds, Cond.value, Term.eval, h1, h2] at hpost
        · cases w <;> simp [Lib.MathLoose.min_long.spec, Cond.after, Cond.holds, Cond.value, Term.eval, h1, h2] at hpost ⊢ <;> first | (exact Decidable.byContradiction fun hx => by simp [hx] at hpost) | simp_all
  subst hv
  obtain ⟨t2, a1, b1⟩ := k1 (T.setVm T') hT X'
  exact ⟨t2, hstep t2 a1, b1⟩
end XMA
