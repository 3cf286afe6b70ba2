/-! THE WRAPPERS -/
abbrev IOB : String := "java/lang/IndexOutOfBoundsException"
abbrev IAE : String := "java/lang/IllegalArgumentException"
abbrev ISE : String := "java/lang/IllegalStateException"
abbrev NSE : String := "java/util/NoSuchElementException"
noncomputable def f_L_load (Y : XY) (a0 : Nat) (a1 : Int32) (N : XN) : Option (Int32 × XN) := match f_X7_load Y a0 a1 N with
  | some (.inl r, M) => some (r, M)
  | _ => none
noncomputable def f_L_loadx (Y : XY) (a0 : Nat) (a1 : Int32) (N : XN) : Option (Int32 × XN) := match f_X7_load Y a0 a1 N with
  | some (.inr e, M) => if e = IAE then some (-2000000098, M) else none
  | _ => none
noncomputable def f_L_calm (Y : XY) (a0 : Nat) (a1 : Int32) (N : XN) : Option (Int32 × XN) := match f_X7_calm Y a0 a1 N with
  | some (.inl r, M) => some (r, M)
  | some (.inr e, M) => if e = IOB then some (-2000000097, M) else none
  | none => none
noncomputable def f_L_endsAt (Y : XY) (a0 : Nat) (a1 : Int32) (N : XN) : Option (Int32 × XN) := match f_X7_endsAt Y a0 a1 N with
  | some (.inl r, M) => some (r, M)
  | some (.inr e, M) => if e = IOB then some (-2000000097, M) else none
  | none => none
noncomputable def f_L_bankruptIn (Y : XY) (a0 : Nat) (a1 : Int32) (N : XN) : Option (Int32 × XN) := match f_X7_bankruptIn Y a0 a1 N with
  | some (.inl r, M) => some (r, M)
  | some (.inr e, M) => if e = IOB then some (-2000000097, M) else none
  | none => none
noncomputable def f_L_finesIn (Y : XY) (a0 : Nat) (a1 : Int32) (N : XN) : Option (Int32 × XN) := match f_X7_finesIn Y a0 a1 N with
  | some (.inl r, M) => some (r, M)
  | some (.inr e, M) => if e = IAE then some (-2000000098, M) else none
  | none => none
noncomputable def f_L_advise (Y : XY) (a0 : Nat) (a1 : Int32) (N : XN) : Option (Int32 × XN) := match f_X7_advise Y a0 a1 N with
  | some (.inl r, M) => some (r, M)
  | some (.inr e, M) => if e = IOB then some (-2000000097, M) else none
  | none => none
noncomputable def f_L_pass (Y : XY) (a0 : Nat) (a1 : Int32) (N : XN) : Option (Int32 × XN) := match f_X7_pass Y a0 a1 N with
  | some (.inl r, M) => some (r, M)
  | some (.inr e, M) => if e = IAE then some (-2000000098, M) else none
  | none => none
noncomputable def f_L_raise (Y : XY) (a0 : Nat) (a1 a2 : Int32) (N : XN) : Option (Int32 × XN) := match f_X7_raise Y a0 a1 a2 N with
  | some (.inl r, M) => some (r, M)
  | some (.inr e, M) => if e = IOB then some (-2000000097, M) else if e = IAE then some (-2000000098, M) else if e = ISE then some (-2000000099, M) else none
  | none => none
noncomputable def f_L_lease (Y : XY) (a0 : Nat) (a1 a2 : Int32) (N : XN) : Option (Int32 × XN) := match f_X7_lease Y a0 a1 a2 N with
  | some (.inl r, M) => some (r, M)
  | some (.inr e, M) => if e = IOB then some (-2000000097, M) else none
  | none => none
noncomputable def f_L_release (Y : XY) (a0 : Nat) (a1 a2 : Int32) (N : XN) : Option (Int32 × XN) := match f_X7_release Y a0 a1 a2 N with
  | some (.inl r, M) => some (r, M)
  | some (.inr e, M) => if e = IOB then some (-2000000097, M) else none
  | none => none
noncomputable def f_L_fund (Y : XY) (a0 : Nat) (a1 a2 : Int32) (N : XN) : Option (Int32 × XN) := match f_X7_fund Y a0 a1 a2 N with
  | some (.inl r, M) => some (r, M)
  | some (.inr e, M) => if e = IOB then some (-2000000097, M) else if e = IAE then some (-2000000098, M) else none
  | none => none
noncomputable def f_L_state (Y : XY) (a0 : Nat) (a1 : Int32) (N : XN) : Option (Int32 × XN) := match f_X7_state Y a0 a1 N with
  | some (.inl r, M) => some (r, M)
  | some (.inr e, M) => if e = IAE then some (-2000000098, M) else none
  | none => none
noncomputable def f_L_handler (Y : XY) (a0 : Nat) (a1 a2 : Int32) (N : XN) : Option (Int32 × XN) := match f_X7_handler Y a0 a1 a2 N with
  | some (.inl r, M) => some (r, M)
  | some (.inr e, M) => if e = IOB then some (-2000000097, M) else if e = IAE then some (-2000000098, M) else none
  | none => none
noncomputable def f_L_line (Y : XY) (a0 : Nat) (a1 a2 : Int32) (N : XN) : Option (Int32 × XN) := match f_X7_line Y a0 a1 a2 N with
  | some (.inl r, M) => some (r, M)
  | some (.inr e, M) => if e = IOB then some (-2000000097, M) else if e = IAE then some (-2000000098, M) else none
  | none => none
noncomputable def f_L_tenant (Y : XY) (a0 : Nat) (a1 a2 : Int32) (N : XN) : Option (Int32 × XN) := match f_X7_tenant Y a0 a1 a2 N with
  | some (.inl r, M) => some (r, M)
  | some (.inr e, M) => if e = IOB then some (-2000000097, M) else if e = NSE then some (-2000000100, M) else none
  | none => none
noncomputable def f_L_request (Y : XY) (a0 : Nat) (a1 a2 : Int32) (N : XN) : Option (Int32 × XN) := match f_X7_request Y a0 a1 a2 N with
  | some (.inl r, M) => some (r, M)
  | some (.inr e, M) => if e = IOB then some (-2000000097, M) else if e = IAE then some (-2000000098, M) else none
  | none => none
theorem hp_L_load : HP yL_load 2 := by decide +kernel
theorem T_L_load {G : XG} {Y : XY} (hw : WT Y) {a0 : Nat} {a1 : Int32} {N : XN} (k0 : kc Y a0 = 17) {r9 : Int32} {N9 : XN} (h : f_L_load Y a0 a1 N = some (r9, N9)) : ClW G yL_load cL_load 3 (some .int) [(0, 5, 6, 40)] (xR 31 0 0) [.ref a0, .int a1] (.inl (some (.int r9))) Y N (yrd Y (gp Y a0 4) (gp Y a0 3) (gp Y a0 6)) N9 := by
  unfold f_L_load at h
  split at h
  · rename_i r M e
    obtain ⟨rfl, rfl⟩ := Prod.mk.inj (x_so h)
    replace h := e
    refine x_entryW (by decide) (Nat.le_of_ble_eq_true rfl) rfl ?_
    refine x_aload_n 0 dL_load_0 rfl rfl ?_
    refine x_iload_n 1 dL_load_1 rfl rfl ?_
    refine x_cv (ci := 7) (b := a0) (As := [.int a1]) (rest := []) (d' := 30) (zz := yX7_load) dL_load_2 ml_L_37 wi_X7_load wv_X7_load wn_X7 wc_X7_load hp_X7_load (by decide) (by decide) rfl (Nat.le_of_ble_eq_true rfl) ⟨Nat.zero_le _, Nat.zero_le _⟩ vc_X7 k0 (T_X7_load (G := G) hw k0 h) ?_
    exact x_iret dL_load_5 rfl rfl rfl
  · cases h
theorem T_L_loadx {G : XG} {Y : XY} (hw : WT Y) (h9 : ∀ a, kc Y a ≠ 9) {a0 : Nat} {a1 : Int32} {N : XN} (k0 : kc Y a0 = 17) {r9 : Int32} {N9 : XN} (h : f_L_loadx Y a0 a1 N = some (r9, N9)) : ClW G yL_load cL_load 3 (some .int) [(0, 5, 6, 40)] (xR 31 1 6) [.ref a0, .int a1] (.inl (some (.int r9))) Y N Y N9 := by
  unfold f_L_loadx at h
  split at h
  · rename_i e M e9
    by_cases g0 : e = IAE
    · rw [if_pos g0] at h
      obtain ⟨rfl, rfl⟩ := Prod.mk.inj (x_so h)
      replace h := e9
      rw [g0] at h
      refine x_entryW (by decide) (Nat.le_of_ble_eq_true rfl) rfl ?_
      refine x_aload_n 0 dL_load_0 rfl rfl ?_
      refine x_iload_n 1 dL_load_1 rfl rfl ?_
      refine x_cvX (ci := 7) (b := a0) (As := [.int a1]) (rest := []) (R' := xR 30 1 6) (zz := yX7_load) (E := IAE) (x := ⟨0, 5, 6, 40⟩) [] [] dL_load_2 ml_L_37 wi_X7_load wv_X7_load wn_X7 wc_X7_load hp_X7_load ⟨Nat.le_of_ble_eq_true rfl, Nat.le_of_ble_eq_true rfl⟩ rfl (Nat.le_of_ble_eq_true rfl) ⟨Nat.le_of_ble_eq_true rfl, Nat.le_of_ble_eq_true rfl⟩ vc_X7 k0 (T_X7_loadx (G := G) hw h9 k0 h) rfl (fun z hz => absurd hz List.not_mem_nil) (by decide) (by decide) kl9_L_40 (by decide +kernel) (fun q9 => ?_)
      refine x_astore_n (L' := []) [] dL_load_6 rfl (by decide) rfl ?_
      refine x_ldc (v := -2000000098) dL_load_7 kc_L_42 ?_
      exact x_iret dL_load_9 rfl rfl rfl
    · rw [if_neg g0] at h
      cases h
  · cases h
theorem hp_L_calm : HP yL_calm 2 := by decide +kernel
theorem T_L_calm {G : XG} {Y : XY} (hw : WT Y) (h9 : ∀ a, kc Y a ≠ 9) {a0 : Nat} {a1 : Int32} {N : XN} (k0 : kc Y a0 = 17) {r9 : Int32} {N9 : XN} (h : f_L_calm Y a0 a1 N = some (r9, N9)) : ClW G yL_calm cL_calm 3 (some .int) [(0, 5, 6, 50)] (xR 8 1 6) [.ref a0, .int a1] (.inl (some (.int r9))) Y N Y N9 := by
  unfold f_L_calm at h
  split at h
  · rename_i r M e9
    obtain ⟨rfl, rfl⟩ := Prod.mk.inj (x_so h)
    replace h := e9
    refine x_entryW (by decide) (Nat.le_of_ble_eq_true rfl) rfl ?_
    refine x_aload_n 0 dL_calm_0 rfl rfl ?_
    refine x_iload_n 1 dL_calm_1 rfl rfl ?_
    refine x_cv (ci := 7) (b := a0) (As := [.int a1]) (rest := []) (d' := 7) (zz := yX7_calm) dL_calm_2 ml_L_65 wi_X7_calm wv_X7_calm wn_X7 wc_X7_calm hp_X7_calm (by decide) (by decide) rfl (Nat.le_of_ble_eq_true rfl) ⟨Nat.le_of_ble_eq_true rfl, Nat.le_of_ble_eq_true rfl⟩ vc_X7 k0 (T_X7_calm (G := G) hw k0 h) ?_
    refine x_widen (k' := 1) (n' := 6) (Nat.le_of_ble_eq_true rfl) (Nat.le_of_ble_eq_true rfl) ?_
    exact x_iret dL_calm_5 rfl rfl rfl
  · rename_i e M e9
    by_cases g0 : e = IOB
    · rw [if_pos g0] at h
      obtain ⟨rfl, rfl⟩ := Prod.mk.inj (x_so h)
      replace h := e9
      rw [g0] at h
      refine x_entryW (by decide) (Nat.le_of_ble_eq_true rfl) rfl ?_
      refine x_aload_n 0 dL_calm_0 rfl rfl ?_
      refine x_iload_n 1 dL_calm_1 rfl rfl ?_
      refine x_cvX (ci := 7) (b := a0) (As := [.int a1]) (rest := []) (R' := xR 7 1 6) (zz := yX7_calm) (E := IOB) (x := ⟨0, 5, 6, 50⟩) [] [] dL_calm_2 ml_L_65 wi_X7_calm wv_X7_calm wn_X7 wc_X7_calm hp_X7_calm ⟨Nat.le_of_ble_eq_true rfl, Nat.le_of_ble_eq_true rfl⟩ rfl (Nat.le_of_ble_eq_true rfl) ⟨Nat.le_of_ble_eq_true rfl, Nat.le_of_ble_eq_true rfl⟩ vc_X7 k0 (T_X7_calmx (G := G) hw h9 k0 h) rfl (fun z hz => absurd hz List.not_mem_nil) (by decide) (by decide) kl9_L_50 (by decide +kernel) (fun q9 => ?_)
      refine x_astore_n (L' := []) [] dL_calm_6 rfl (by decide) rfl ?_
      refine x_ldc (v := -2000000097) dL_calm_7 kc_L_52 ?_
      exact x_iret dL_calm_9 rfl rfl rfl
    rw [if_neg g0] at h
    cases h
  · cases h
theorem hp_L_endsAt : HP yL_endsAt 2 := by decide +kernel
theorem T_L_endsAt {G : XG} {Y : XY} (hw : WT Y) (h9 : ∀ a, kc Y a ≠ 9) {a0 : Nat} {a1 : Int32} {N : XN} (k0 : kc Y a0 = 17) {r9 : Int32} {N9 : XN} (h : f_L_endsAt Y a0 a1 N = some (r9, N9)) : ClW G yL_endsAt cL_endsAt 3 (some .int) [(0, 5, 6, 50)] (xR 8 1 6) [.ref a0, .int a1] (.inl (some (.int r9))) Y N Y N9 := by
  unfold f_L_endsAt at h
  split at h
  · rename_i r M e9
    obtain ⟨rfl, rfl⟩ := Prod.mk.inj (x_so h)
    replace h := e9
    refine x_entryW (by decide) (Nat.le_of_ble_eq_true rfl) rfl ?_
    refine x_aload_n 0 dL_endsAt_0 rfl rfl ?_
    refine x_iload_n 1 dL_endsAt_1 rfl rfl ?_
    refine x_cv (ci := 7) (b := a0) (As := [.int a1]) (rest := []) (d' := 7) (zz := yX7_endsAt) dL_endsAt_2 ml_L_68 wi_X7_endsAt wv_X7_endsAt wn_X7 wc_X7_endsAt hp_X7_endsAt (by decide) (by decide) rfl (Nat.le_of_ble_eq_true rfl) ⟨Nat.le_of_ble_eq_true rfl, Nat.le_of_ble_eq_true rfl⟩ vc_X7 k0 (T_X7_endsAt (G := G) hw k0 h) ?_
    refine x_widen (k' := 1) (n' := 6) (Nat.le_of_ble_eq_true rfl) (Nat.le_of_ble_eq_true rfl) ?_
    exact x_iret dL_endsAt_5 rfl rfl rfl
  · rename_i e M e9
    by_cases g0 : e = IOB
    · rw [if_pos g0] at h
      obtain ⟨rfl, rfl⟩ := Prod.mk.inj (x_so h)
      replace h := e9
      rw [g0] at h
      refine x_entryW (by decide) (Nat.le_of_ble_eq_true rfl) rfl ?_
      refine x_aload_n 0 dL_endsAt_0 rfl rfl ?_
      refine x_iload_n 1 dL_endsAt_1 rfl rfl ?_
      refine x_cvX (ci := 7) (b := a0) (As := [.int a1]) (rest := []) (R' := xR 7 1 6) (zz := yX7_endsAt) (E := IOB) (x := ⟨0, 5, 6, 50⟩) [] [] dL_endsAt_2 ml_L_68 wi_X7_endsAt wv_X7_endsAt wn_X7 wc_X7_endsAt hp_X7_endsAt ⟨Nat.le_of_ble_eq_true rfl, Nat.le_of_ble_eq_true rfl⟩ rfl (Nat.le_of_ble_eq_true rfl) ⟨Nat.le_of_ble_eq_true rfl, Nat.le_of_ble_eq_true rfl⟩ vc_X7 k0 (T_X7_endsAtx (G := G) hw h9 k0 h) rfl (fun z hz => absurd hz List.not_mem_nil) (by decide) (by decide) kl9_L_50 (by decide +kernel) (fun q9 => ?_)
      refine x_astore_n (L' := []) [] dL_endsAt_6 rfl (by decide) rfl ?_
      refine x_ldc (v := -2000000097) dL_endsAt_7 kc_L_52 ?_
      exact x_iret dL_endsAt_9 rfl rfl rfl
    rw [if_neg g0] at h
    cases h
  · cases h
theorem hp_L_bankruptIn : HP yL_bankruptIn 2 := by decide +kernel
theorem T_L_bankruptIn {G : XG} {Y : XY} (hw : WT Y) (h9 : ∀ a, kc Y a ≠ 9) {a0 : Nat} {a1 : Int32} {N : XN} (k0 : kc Y a0 = 17) {r9 : Int32} {N9 : XN} (h : f_L_bankruptIn Y a0 a1 N = some (r9, N9)) : ClW G yL_bankruptIn cL_bankruptIn 3 (some .int) [(0, 5, 6, 50)] (xR 8 1 6) [.ref a0, .int a1] (.inl (some (.int r9))) Y N Y N9 := by
  unfold f_L_bankruptIn at h
  split at h
  · rename_i r M e9
    obtain ⟨rfl, rfl⟩ := Prod.mk.inj (x_so h)
    replace h := e9
    refine x_entryW (by decide) (Nat.le_of_ble_eq_true rfl) rfl ?_
    refine x_aload_n 0 dL_bankruptIn_0 rfl rfl ?_
    refine x_iload_n 1 dL_bankruptIn_1 rfl rfl ?_
    refine x_cv (ci := 7) (b := a0) (As := [.int a1]) (rest := []) (d' := 7) (zz := yX7_bankruptIn) dL_bankruptIn_2 ml_L_71 wi_X7_bankruptIn wv_X7_bankruptIn wn_X7 wc_X7_bankruptIn hp_X7_bankruptIn (by decide) (by decide) rfl (Nat.le_of_ble_eq_true rfl) ⟨Nat.le_of_ble_eq_true rfl, Nat.le_of_ble_eq_true rfl⟩ vc_X7 k0 (T_X7_bankruptIn (G := G) hw k0 h) ?_
    refine x_widen (k' := 1) (n' := 6) (Nat.le_of_ble_eq_true rfl) (Nat.le_of_ble_eq_true rfl) ?_
    exact x_iret dL_bankruptIn_5 rfl rfl rfl
  · rename_i e M e9
    by_cases g0 : e = IOB
    · rw [if_pos g0] at h
      obtain ⟨rfl, rfl⟩ := Prod.mk.inj (x_so h)
      replace h := e9
      rw [g0] at h
      refine x_entryW (by decide) (Nat.le_of_ble_eq_true rfl) rfl ?_
      refine x_aload_n 0 dL_bankruptIn_0 rfl rfl ?_
      refine x_iload_n 1 dL_bankruptIn_1 rfl rfl ?_
      refine x_cvX (ci := 7) (b := a0) (As := [.int a1]) (rest := []) (R' := xR 7 1 6) (zz := yX7_bankruptIn) (E := IOB) (x := ⟨0, 5, 6, 50⟩) [] [] dL_bankruptIn_2 ml_L_71 wi_X7_bankruptIn wv_X7_bankruptIn wn_X7 wc_X7_bankruptIn hp_X7_bankruptIn ⟨Nat.le_of_ble_eq_true rfl, Nat.le_of_ble_eq_true rfl⟩ rfl (Nat.le_of_ble_eq_true rfl) ⟨Nat.le_of_ble_eq_true rfl, Nat.le_of_ble_eq_true rfl⟩ vc_X7 k0 (T_X7_bankruptInx (G := G) hw h9 k0 h) rfl (fun z hz => absurd hz List.not_mem_nil) (by decide) (by decide) kl9_L_50 (by decide +kernel) (fun q9 => ?_)
      refine x_astore_n (L' := []) [] dL_bankruptIn_6 rfl (by decide) rfl ?_
      refine x_ldc (v := -2000000097) dL_bankruptIn_7 kc_L_52 ?_
      exact x_iret dL_bankruptIn_9 rfl rfl rfl
    rw [if_neg g0] at h
    cases h
  · cases h
theorem hp_L_finesIn : HP yL_finesIn 2 := by decide +kernel
theorem T_L_finesIn {G : XG} {Y : XY} (hw : WT Y) (h9 : ∀ a, kc Y a ≠ 9) {a0 : Nat} {a1 : Int32} {N : XN} (k0 : kc Y a0 = 17) {r9 : Int32} {N9 : XN} (h : f_L_finesIn Y a0 a1 N = some (r9, N9)) : ClW G yL_finesIn cL_finesIn 3 (some .int) [(0, 5, 6, 40)] (xR 9 1 6) [.ref a0, .int a1] (.inl (some (.int r9))) Y N Y N9 := by
  unfold f_L_finesIn at h
  split at h
  · rename_i r M e9
    obtain ⟨rfl, rfl⟩ := Prod.mk.inj (x_so h)
    replace h := e9
    refine x_entryW (by decide) (Nat.le_of_ble_eq_true rfl) rfl ?_
    refine x_aload_n 0 dL_finesIn_0 rfl rfl ?_
    refine x_iload_n 1 dL_finesIn_1 rfl rfl ?_
    refine x_cv (ci := 7) (b := a0) (As := [.int a1]) (rest := []) (d' := 8) (zz := yX7_finesIn) dL_finesIn_2 ml_L_74 wi_X7_finesIn wv_X7_finesIn wn_X7 wc_X7_finesIn hp_X7_finesIn (by decide) (by decide) rfl (Nat.le_of_ble_eq_true rfl) ⟨Nat.le_of_ble_eq_true rfl, Nat.le_of_ble_eq_true rfl⟩ vc_X7 k0 (T_X7_finesIn (G := G) hw k0 h) ?_
    refine x_widen (k' := 1) (n' := 6) (Nat.le_of_ble_eq_true rfl) (Nat.le_of_ble_eq_true rfl) ?_
    exact x_iret dL_finesIn_5 rfl rfl rfl
  · rename_i e M e9
    by_cases g0 : e = IAE
    · rw [if_pos g0] at h
      obtain ⟨rfl, rfl⟩ := Prod.mk.inj (x_so h)
      replace h := e9
      rw [g0] at h
      refine x_entryW (by decide) (Nat.le_of_ble_eq_true rfl) rfl ?_
      refine x_aload_n 0 dL_finesIn_0 rfl rfl ?_
      refine x_iload_n 1 dL_finesIn_1 rfl rfl ?_
      refine x_cvX (ci := 7) (b := a0) (As := [.int a1]) (rest := []) (R' := xR 8 1 6) (zz := yX7_finesIn) (E := IAE) (x := ⟨0, 5, 6, 40⟩) [] [] dL_finesIn_2 ml_L_74 wi_X7_finesIn wv_X7_finesIn wn_X7 wc_X7_finesIn hp_X7_finesIn ⟨Nat.le_of_ble_eq_true rfl, Nat.le_of_ble_eq_true rfl⟩ rfl (Nat.le_of_ble_eq_true rfl) ⟨Nat.le_of_ble_eq_true rfl, Nat.le_of_ble_eq_true rfl⟩ vc_X7 k0 (T_X7_finesInx (G := G) hw h9 k0 h) rfl (fun z hz => absurd hz List.not_mem_nil) (by decide) (by decide) kl9_L_40 (by decide +kernel) (fun q9 => ?_)
      refine x_astore_n (L' := []) [] dL_finesIn_6 rfl (by decide) rfl ?_
      refine x_ldc (v := -2000000098) dL_finesIn_7 kc_L_42 ?_
      exact x_iret dL_finesIn_9 rfl rfl rfl
    rw [if_neg g0] at h
    cases h
  · cases h
theorem hp_L_advise : HP yL_advise 2 := by decide +kernel
theorem T_L_advise {G : XG} {Y : XY} (hw : WT Y) (h9 : ∀ a, kc Y a ≠ 9) {a0 : Nat} {a1 : Int32} {N : XN} (k0 : kc Y a0 = 17) {r9 : Int32} {N9 : XN} (h : f_L_advise Y a0 a1 N = some (r9, N9)) : ClW G yL_advise cL_advise 3 (some .int) [(0, 5, 6, 50)] (xR 9 1 6) [.ref a0, .int a1] (.inl (some (.int r9))) Y N Y N9 := by
  unfold f_L_advise at h
  split at h
  · rename_i r M e9
    obtain ⟨rfl, rfl⟩ := Prod.mk.inj (x_so h)
    replace h := e9
    refine x_entryW (by decide) (Nat.le_of_ble_eq_true rfl) rfl ?_
    refine x_aload_n 0 dL_advise_0 rfl rfl ?_
    refine x_iload_n 1 dL_advise_1 rfl rfl ?_
    refine x_cv (ci := 7) (b := a0) (As := [.int a1]) (rest := []) (d' := 8) (zz := yX7_advise) dL_advise_2 ml_L_77 wi_X7_advise wv_X7_advise wn_X7 wc_X7_advise hp_X7_advise (by decide) (by decide) rfl (Nat.le_of_ble_eq_true rfl) ⟨Nat.le_of_ble_eq_true rfl, Nat.le_of_ble_eq_true rfl⟩ vc_X7 k0 (T_X7_advise (G := G) hw k0 h) ?_
    refine x_widen (k' := 1) (n' := 6) (Nat.le_of_ble_eq_true rfl) (Nat.le_of_ble_eq_true rfl) ?_
    exact x_iret dL_advise_5 rfl rfl rfl
  · rename_i e M e9
    by_cases g0 : e = IOB
    · rw [if_pos g0] at h
      obtain ⟨rfl, rfl⟩ := Prod.mk.inj (x_so h)
      replace h := e9
      rw [g0] at h
      refine x_entryW (by decide) (Nat.le_of_ble_eq_true rfl) rfl ?_
      refine x_aload_n 0 dL_advise_0 rfl rfl ?_
      refine x_iload_n 1 dL_advise_1 rfl rfl ?_
      refine x_cvX (ci := 7) (b := a0) (As := [.int a1]) (rest := []) (R' := xR 8 1 6) (zz := yX7_advise) (E := IOB) (x := ⟨0, 5, 6, 50⟩) [] [] dL_advise_2 ml_L_77 wi_X7_advise wv_X7_advise wn_X7 wc_X7_advise hp_X7_advise ⟨Nat.le_of_ble_eq_true rfl, Nat.le_of_ble_eq_true rfl⟩ rfl (Nat.le_of_ble_eq_true rfl) ⟨Nat.le_of_ble_eq_true rfl, Nat.le_of_ble_eq_true rfl⟩ vc_X7 k0 (T_X7_advisex (G := G) hw h9 k0 h) rfl (fun z hz => absurd hz List.not_mem_nil) (by decide) (by decide) kl9_L_50 (by decide +kernel) (fun q9 => ?_)
      refine x_astore_n (L' := []) [] dL_advise_6 rfl (by decide) rfl ?_
      refine x_ldc (v := -2000000097) dL_advise_7 kc_L_52 ?_
      exact x_iret dL_advise_9 rfl rfl rfl
    rw [if_neg g0] at h
    cases h
  · cases h
theorem hp_L_pass : HP yL_pass 2 := by decide +kernel
theorem T_L_pass {G : XG} {Y : XY} (hw : WT Y) (h9 : ∀ a, kc Y a ≠ 9) {a0 : Nat} {a1 : Int32} {N : XN} (k0 : kc Y a0 = 17) {r9 : Int32} {N9 : XN} (h : f_L_pass Y a0 a1 N = some (r9, N9)) : ClW G yL_pass cL_pass 3 (some .int) [(0, 5, 6, 40)] (xR 8 1 6) [.ref a0, .int a1] (.inl (some (.int r9))) Y N Y N9 := by
  unfold f_L_pass at h
  split at h
  · rename_i r M e9
    obtain ⟨rfl, rfl⟩ := Prod.mk.inj (x_so h)
    replace h := e9
    refine x_entryW (by decide) (Nat.le_of_ble_eq_true rfl) rfl ?_
    refine x_aload_n 0 dL_pass_0 rfl rfl ?_
    refine x_iload_n 1 dL_pass_1 rfl rfl ?_
    refine x_cv (ci := 7) (b := a0) (As := [.int a1]) (rest := []) (d' := 7) (zz := yX7_pass) dL_pass_2 ml_L_80 wi_X7_pass wv_X7_pass wn_X7 wc_X7_pass hp_X7_pass (by decide) (by decide) rfl (Nat.le_of_ble_eq_true rfl) ⟨Nat.le_of_ble_eq_true rfl, Nat.le_of_ble_eq_true rfl⟩ vc_X7 k0 (T_X7_pass (G := G) hw k0 h) ?_
    refine x_widen (k' := 1) (n' := 6) (Nat.le_of_ble_eq_true rfl) (Nat.le_of_ble_eq_true rfl) ?_
    exact x_iret dL_pass_5 rfl rfl rfl
  · rename_i e M e9
    by_cases g0 : e = IAE
    · rw [if_pos g0] at h
      obtain ⟨rfl, rfl⟩ := Prod.mk.inj (x_so h)
      replace h := e9
      rw [g0] at h
      refine x_entryW (by decide) (Nat.le_of_ble_eq_true rfl) rfl ?_
      refine x_aload_n 0 dL_pass_0 rfl rfl ?_
      refine x_iload_n 1 dL_pass_1 rfl rfl ?_
      refine x_cvX (ci := 7) (b := a0) (As := [.int a1]) (rest := []) (R' := xR 7 1 6) (zz := yX7_pass) (E := IAE) (x := ⟨0, 5, 6, 40⟩) [] [] dL_pass_2 ml_L_80 wi_X7_pass wv_X7_pass wn_X7 wc_X7_pass hp_X7_pass ⟨Nat.le_of_ble_eq_true rfl, Nat.le_of_ble_eq_true rfl⟩ rfl (Nat.le_of_ble_eq_true rfl) ⟨Nat.le_of_ble_eq_true rfl, Nat.le_of_ble_eq_true rfl⟩ vc_X7 k0 (T_X7_passx (G := G) hw h9 k0 h) rfl (fun z hz => absurd hz List.not_mem_nil) (by decide) (by decide) kl9_L_40 (by decide +kernel) (fun q9 => ?_)
      refine x_astore_n (L' := []) [] dL_pass_6 rfl (by decide) rfl ?_
      refine x_ldc (v := -2000000098) dL_pass_7 kc_L_42 ?_
      exact x_iret dL_pass_9 rfl rfl rfl
    rw [if_neg g0] at h
    cases h
  · cases h
theorem hp_L_raise : HP yL_raise 3 := by decide +kernel
theorem T_L_raise {G : XG} {Y : XY} (hw : WT Y) (h9 : ∀ a, kc Y a ≠ 9) {a0 : Nat} {a1 a2 : Int32} {N : XN} (k0 : kc Y a0 = 17) {r9 : Int32} {N9 : XN} (h : f_L_raise Y a0 a1 a2 N = some (r9, N9)) : ClW G yL_raise cL_raise 4 (some .int) [(0, 6, 7, 50), (0, 6, 11, 40), (0, 6, 15, 86)] (xR 8 1 6) [.ref a0, .int a1, .int a2] (.inl (some (.int r9))) Y N Y N9 := by
  unfold f_L_raise at h
  split at h
  · rename_i r M e9
    obtain ⟨rfl, rfl⟩ := Prod.mk.inj (x_so h)
    replace h := e9
    refine x_entryW (by decide) (Nat.le_of_ble_eq_true rfl) rfl ?_
    refine x_aload_n 0 dL_raise_0 rfl rfl ?_
    refine x_iload_n 1 dL_raise_1 rfl rfl ?_
    refine x_iload_n 2 dL_raise_2 rfl rfl ?_
    refine x_cv (ci := 7) (b := a0) (As := [.int a1, .int a2]) (rest := []) (d' := 7) (zz := yX7_raise) dL_raise_3 ml_L_83 wi_X7_raise wv_X7_raise wn_X7 wc_X7_raise hp_X7_raise (by decide) (by decide) rfl (Nat.le_of_ble_eq_true rfl) ⟨Nat.le_of_ble_eq_true rfl, Nat.le_of_ble_eq_true rfl⟩ vc_X7 k0 (T_X7_raise (G := G) hw k0 h) ?_
    refine x_widen (k' := 1) (n' := 6) (Nat.le_of_ble_eq_true rfl) (Nat.le_of_ble_eq_true rfl) ?_
    exact x_iret dL_raise_6 rfl rfl rfl
  · rename_i e M e9
    by_cases g0 : e = IOB
    · rw [if_pos g0] at h
      obtain ⟨rfl, rfl⟩ := Prod.mk.inj (x_so h)
      replace h := e9
      rw [g0] at h
      refine x_entryW (by decide) (Nat.le_of_ble_eq_true rfl) rfl ?_
      refine x_aload_n 0 dL_raise_0 rfl rfl ?_
      refine x_iload_n 1 dL_raise_1 rfl rfl ?_
      refine x_iload_n 2 dL_raise_2 rfl rfl ?_
      refine x_cvX (ci := 7) (b := a0) (As := [.int a1, .int a2]) (rest := []) (R' := xR 7 1 6) (zz := yX7_raise) (E := IOB) (x := ⟨0, 6, 7, 50⟩) [] [⟨0, 6, 11, 40⟩, ⟨0, 6, 15, 86⟩] dL_raise_3 ml_L_83 wi_X7_raise wv_X7_raise wn_X7 wc_X7_raise hp_X7_raise ⟨Nat.le_of_ble_eq_true rfl, Nat.le_of_ble_eq_true rfl⟩ rfl (Nat.le_of_ble_eq_true rfl) ⟨Nat.le_of_ble_eq_true rfl, Nat.le_of_ble_eq_true rfl⟩ vc_X7 k0 (T_X7_raisex (G := G) hw h9 k0 h) rfl (fun z hz => absurd hz List.not_mem_nil) (by decide) (by decide) kl9_L_50 (by decide +kernel) (fun q9 => ?_)
      refine x_astore_n (L' := []) [] dL_raise_7 rfl (by decide) rfl ?_
      refine x_ldc (v := -2000000097) dL_raise_8 kc_L_52 ?_
      exact x_iret dL_raise_10 rfl rfl rfl
    rw [if_neg g0] at h
    by_cases g1 : e = IAE
    · rw [if_pos g1] at h
      obtain ⟨rfl, rfl⟩ := Prod.mk.inj (x_so h)
      replace h := e9
      rw [g1] at h
      refine x_entryW (by decide) (Nat.le_of_ble_eq_true rfl) rfl ?_
      refine x_aload_n 0 dL_raise_0 rfl rfl ?_
      refine x_iload_n 1 dL_raise_1 rfl rfl ?_
      refine x_iload_n 2 dL_raise_2 rfl rfl ?_
      refine x_cvX (ci := 7) (b := a0) (As := [.int a1, .int a2]) (rest := []) (R' := xR 7 1 6) (zz := yX7_raise) (E := IAE) (x := ⟨0, 6, 11, 40⟩) [⟨0, 6, 7, 50⟩] [⟨0, 6, 15, 86⟩] dL_raise_3 ml_L_83 wi_X7_raise wv_X7_raise wn_X7 wc_X7_raise hp_X7_raise ⟨Nat.le_of_ble_eq_true rfl, Nat.le_of_ble_eq_true rfl⟩ rfl (Nat.le_of_ble_eq_true rfl) ⟨Nat.le_of_ble_eq_true rfl, Nat.le_of_ble_eq_true rfl⟩ vc_X7 k0 (T_X7_raisex (G := G) hw h9 k0 h) rfl (fun z hz => by
        simp only [List.mem_cons, List.not_mem_nil, or_false] at hz
        rcases hz with rfl
        · exact Or.inr ⟨by decide, _, kl9_L_50, by decide +kernel⟩) (by decide) (by decide) kl9_L_40 (by decide +kernel) (fun q9 => ?_)
      refine x_astore_n (L' := []) [] dL_raise_11 rfl (by decide) rfl ?_
      refine x_ldc (v := -2000000098) dL_raise_12 kc_L_42 ?_
      exact x_iret dL_raise_14 rfl rfl rfl
    rw [if_neg g1] at h
    by_cases g2 : e = ISE
    · rw [if_pos g2] at h
      obtain ⟨rfl, rfl⟩ := Prod.mk.inj (x_so h)
      replace h := e9
      rw [g2] at h
      refine x_entryW (by decide) (Nat.le_of_ble_eq_true rfl) rfl ?_
      refine x_aload_n 0 dL_raise_0 rfl rfl ?_
      refine x_iload_n 1 dL_raise_1 rfl rfl ?_
      refine x_iload_n 2 dL_raise_2 rfl rfl ?_
      refine x_cvX (ci := 7) (b := a0) (As := [.int a1, .int a2]) (rest := []) (R' := xR 7 1 6) (zz := yX7_raise) (E := ISE) (x := ⟨0, 6, 15, 86⟩) [⟨0, 6, 7, 50⟩, ⟨0, 6, 11, 40⟩] [] dL_raise_3 ml_L_83 wi_X7_raise wv_X7_raise wn_X7 wc_X7_raise hp_X7_raise ⟨Nat.le_of_ble_eq_true rfl, Nat.le_of_ble_eq_true rfl⟩ rfl (Nat.le_of_ble_eq_true rfl) ⟨Nat.le_of_ble_eq_true rfl, Nat.le_of_ble_eq_true rfl⟩ vc_X7 k0 (T_X7_raisex (G := G) hw h9 k0 h) rfl (fun z hz => by
        simp only [List.mem_cons, List.not_mem_nil, or_false] at hz
        rcases hz with rfl | rfl
        · exact Or.inr ⟨by decide, _, kl9_L_50, by decide +kernel⟩
        · exact Or.inr ⟨by decide, _, kl9_L_40, by decide +kernel⟩) (by decide) (by decide) kl9_L_86 (by decide +kernel) (fun q9 => ?_)
      refine x_astore_n (L' := []) [] dL_raise_15 rfl (by decide) rfl ?_
      refine x_ldc (v := -2000000099) dL_raise_16 kc_L_88 ?_
      exact x_iret dL_raise_18 rfl rfl rfl
    rw [if_neg g2] at h
    cases h
  · cases h
theorem hp_L_lease : HP yL_lease 3 := by decide +kernel
theorem T_L_lease {G : XG} {Y : XY} (hw : WT Y) (h9 : ∀ a, kc Y a ≠ 9) {a0 : Nat} {a1 a2 : Int32} {N : XN} (k0 : kc Y a0 = 17) {r9 : Int32} {N9 : XN} (h : f_L_lease Y a0 a1 a2 N = some (r9, N9)) : ClW G yL_lease cL_lease 4 (some .int) [(0, 6, 7, 50)] (xR 8 1 6) [.ref a0, .int a1, .int a2] (.inl (some (.int r9))) Y N Y N9 := by
  unfold f_L_lease at h
  split at h
  · rename_i r M e9
    obtain ⟨rfl, rfl⟩ := Prod.mk.inj (x_so h)
    replace h := e9
    refine x_entryW (by decide) (Nat.le_of_ble_eq_true rfl) rfl ?_
    refine x_aload_n 0 dL_lease_0 rfl rfl ?_
    refine x_iload_n 1 dL_lease_1 rfl rfl ?_
    refine x_iload_n 2 dL_lease_2 rfl rfl ?_
    refine x_cv (ci := 7) (b := a0) (As := [.int a1, .int a2]) (rest := []) (d' := 7) (zz := yX7_lease) dL_lease_3 ml_L_89 wi_X7_lease wv_X7_lease wn_X7 wc_X7_lease hp_X7_lease (by decide) (by decide) rfl (Nat.le_of_ble_eq_true rfl) ⟨Nat.le_of_ble_eq_true rfl, Nat.le_of_ble_eq_true rfl⟩ vc_X7 k0 (T_X7_lease (G := G) hw k0 h) ?_
    refine x_widen (k' := 1) (n' := 6) (Nat.le_of_ble_eq_true rfl) (Nat.le_of_ble_eq_true rfl) ?_
    exact x_iret dL_lease_6 rfl rfl rfl
  · rename_i e M e9
    by_cases g0 : e = IOB
    · rw [if_pos g0] at h
      obtain ⟨rfl, rfl⟩ := Prod.mk.inj (x_so h)
      replace h := e9
      rw [g0] at h
      refine x_entryW (by decide) (Nat.le_of_ble_eq_true rfl) rfl ?_
      refine x_aload_n 0 dL_lease_0 rfl rfl ?_
      refine x_iload_n 1 dL_lease_1 rfl rfl ?_
      refine x_iload_n 2 dL_lease_2 rfl rfl ?_
      refine x_cvX (ci := 7) (b := a0) (As := [.int a1, .int a2]) (rest := []) (R' := xR 7 1 6) (zz := yX7_lease) (E := IOB) (x := ⟨0, 6, 7, 50⟩) [] [] dL_lease_3 ml_L_89 wi_X7_lease wv_X7_lease wn_X7 wc_X7_lease hp_X7_lease ⟨Nat.le_of_ble_eq_true rfl, Nat.le_of_ble_eq_true rfl⟩ rfl (Nat.le_of_ble_eq_true rfl) ⟨Nat.le_of_ble_eq_true rfl, Nat.le_of_ble_eq_true rfl⟩ vc_X7 k0 (T_X7_leasex (G := G) hw h9 k0 h) rfl (fun z hz => absurd hz List.not_mem_nil) (by decide) (by decide) kl9_L_50 (by decide +kernel) (fun q9 => ?_)
      refine x_astore_n (L' := []) [] dL_lease_7 rfl (by decide) rfl ?_
      refine x_ldc (v := -2000000097) dL_lease_8 kc_L_52 ?_
      exact x_iret dL_lease_10 rfl rfl rfl
    rw [if_neg g0] at h
    cases h
  · cases h
theorem hp_L_release : HP yL_release 3 := by decide +kernel
theorem T_L_release {G : XG} {Y : XY} (hw : WT Y) (h9 : ∀ a, kc Y a ≠ 9) {a0 : Nat} {a1 a2 : Int32} {N : XN} (k0 : kc Y a0 = 17) {r9 : Int32} {N9 : XN} (h : f_L_release Y a0 a1 a2 N = some (r9, N9)) : ClW G yL_release cL_release 4 (some .int) [(0, 6, 7, 50)] (xR 8 1 6) [.ref a0, .int a1, .int a2] (.inl (some (.int r9))) Y N Y N9 := by
  unfold f_L_release at h
  split at h
  · rename_i r M e9
    obtain ⟨rfl, rfl⟩ := Prod.mk.inj (x_so h)
    replace h := e9
    refine x_entryW (by decide) (Nat.le_of_ble_eq_true rfl) rfl ?_
    refine x_aload_n 0 dL_release_0 rfl rfl ?_
    refine x_iload_n 1 dL_release_1 rfl rfl ?_
    refine x_iload_n 2 dL_release_2 rfl rfl ?_
    refine x_cv (ci := 7) (b := a0) (As := [.int a1, .int a2]) (rest := []) (d' := 7) (zz := yX7_release) dL_release_3 ml_L_92 wi_X7_release wv_X7_release wn_X7 wc_X7_release hp_X7_release (by decide) (by decide) rfl (Nat.le_of_ble_eq_true rfl) ⟨Nat.le_of_ble_eq_true rfl, Nat.le_of_ble_eq_true rfl⟩ vc_X7 k0 (T_X7_release (G := G) hw k0 h) ?_
    refine x_widen (k' := 1) (n' := 6) (Nat.le_of_ble_eq_true rfl) (Nat.le_of_ble_eq_true rfl) ?_
    exact x_iret dL_release_6 rfl rfl rfl
  · rename_i e M e9
    by_cases g0 : e = IOB
    · rw [if_pos g0] at h
      obtain ⟨rfl, rfl⟩ := Prod.mk.inj (x_so h)
      replace h := e9
      rw [g0] at h
      refine x_entryW (by decide) (Nat.le_of_ble_eq_true rfl) rfl ?_
      refine x_aload_n 0 dL_release_0 rfl rfl ?_
      refine x_iload_n 1 dL_release_1 rfl rfl ?_
      refine x_iload_n 2 dL_release_2 rfl rfl ?_
      refine x_cvX (ci := 7) (b := a0) (As := [.int a1, .int a2]) (rest := []) (R' := xR 7 1 6) (zz := yX7_release) (E := IOB) (x := ⟨0, 6, 7, 50⟩) [] [] dL_release_3 ml_L_92 wi_X7_release wv_X7_release wn_X7 wc_X7_release hp_X7_release ⟨Nat.le_of_ble_eq_true rfl, Nat.le_of_ble_eq_true rfl⟩ rfl (Nat.le_of_ble_eq_true rfl) ⟨Nat.le_of_ble_eq_true rfl, Nat.le_of_ble_eq_true rfl⟩ vc_X7 k0 (T_X7_releasex (G := G) hw h9 k0 h) rfl (fun z hz => absurd hz List.not_mem_nil) (by decide) (by decide) kl9_L_50 (by decide +kernel) (fun q9 => ?_)
      refine x_astore_n (L' := []) [] dL_release_7 rfl (by decide) rfl ?_
      refine x_ldc (v := -2000000097) dL_release_8 kc_L_52 ?_
      exact x_iret dL_release_10 rfl rfl rfl
    rw [if_neg g0] at h
    cases h
  · cases h
theorem hp_L_fund : HP yL_fund 3 := by decide +kernel
theorem T_L_fund {G : XG} {Y : XY} (hw : WT Y) (h9 : ∀ a, kc Y a ≠ 9) {a0 : Nat} {a1 a2 : Int32} {N : XN} (k0 : kc Y a0 = 17) {r9 : Int32} {N9 : XN} (h : f_L_fund Y a0 a1 a2 N = some (r9, N9)) : ClW G yL_fund cL_fund 4 (some .int) [(0, 6, 7, 50), (0, 6, 11, 40)] (xR 8 1 6) [.ref a0, .int a1, .int a2] (.inl (some (.int r9))) Y N Y N9 := by
  unfold f_L_fund at h
  split at h
  · rename_i r M e9
    obtain ⟨rfl, rfl⟩ := Prod.mk.inj (x_so h)
    replace h := e9
    refine x_entryW (by decide) (Nat.le_of_ble_eq_true rfl) rfl ?_
    refine x_aload_n 0 dL_fund_0 rfl rfl ?_
    refine x_iload_n 1 dL_fund_1 rfl rfl ?_
    refine x_iload_n 2 dL_fund_2 rfl rfl ?_
    refine x_cv (ci := 7) (b := a0) (As := [.int a1, .int a2]) (rest := []) (d' := 7) (zz := yX7_fund) dL_fund_3 ml_L_95 wi_X7_fund wv_X7_fund wn_X7 wc_X7_fund hp_X7_fund (by decide) (by decide) rfl (Nat.le_of_ble_eq_true rfl) ⟨Nat.le_of_ble_eq_true rfl, Nat.le_of_ble_eq_true rfl⟩ vc_X7 k0 (T_X7_fund (G := G) hw k0 h) ?_
    refine x_widen (k' := 1) (n' := 6) (Nat.le_of_ble_eq_true rfl) (Nat.le_of_ble_eq_true rfl) ?_
    exact x_iret dL_fund_6 rfl rfl rfl
  · rename_i e M e9
    by_cases g0 : e = IOB
    · rw [if_pos g0] at h
      obtain ⟨rfl, rfl⟩ := Prod.mk.inj (x_so h)
      replace h := e9
      rw [g0] at h
      refine x_entryW (by decide) (Nat.le_of_ble_eq_true rfl) rfl ?_
      refine x_aload_n 0 dL_fund_0 rfl rfl ?_
      refine x_iload_n 1 dL_fund_1 rfl rfl ?_
      refine x_iload_n 2 dL_fund_2 rfl rfl ?_
      refine x_cvX (ci := 7) (b := a0) (As := [.int a1, .int a2]) (rest := []) (R' := xR 7 1 6) (zz := yX7_fund) (E := IOB) (x := ⟨0, 6, 7, 50⟩) [] [⟨0, 6, 11, 40⟩] dL_fund_3 ml_L_95 wi_X7_fund wv_X7_fund wn_X7 wc_X7_fund hp_X7_fund ⟨Nat.le_of_ble_eq_true rfl, Nat.le_of_ble_eq_true rfl⟩ rfl (Nat.le_of_ble_eq_true rfl) ⟨Nat.le_of_ble_eq_true rfl, Nat.le_of_ble_eq_true rfl⟩ vc_X7 k0 (T_X7_fundx (G := G) hw h9 k0 h) rfl (fun z hz => absurd hz List.not_mem_nil) (by decide) (by decide) kl9_L_50 (by decide +kernel) (fun q9 => ?_)
      refine x_astore_n (L' := []) [] dL_fund_7 rfl (by decide) rfl ?_
      refine x_ldc (v := -2000000097) dL_fund_8 kc_L_52 ?_
      exact x_iret dL_fund_10 rfl rfl rfl
    rw [if_neg g0] at h
    by_cases g1 : e = IAE
    · rw [if_pos g1] at h
      obtain ⟨rfl, rfl⟩ := Prod.mk.inj (x_so h)
      replace h := e9
      rw [g1] at h
      refine x_entryW (by decide) (Nat.le_of_ble_eq_true rfl) rfl ?_
      refine x_aload_n 0 dL_fund_0 rfl rfl ?_
      refine x_iload_n 1 dL_fund_1 rfl rfl ?_
      refine x_iload_n 2 dL_fund_2 rfl rfl ?_
      refine x_cvX (ci := 7) (b := a0) (As := [.int a1, .int a2]) (rest := []) (R' := xR 7 1 6) (zz := yX7_fund) (E := IAE) (x := ⟨0, 6, 11, 40⟩) [⟨0, 6, 7, 50⟩] [] dL_fund_3 ml_L_95 wi_X7_fund wv_X7_fund wn_X7 wc_X7_fund hp_X7_fund ⟨Nat.le_of_ble_eq_true rfl, Nat.le_of_ble_eq_true rfl⟩ rfl (Nat.le_of_ble_eq_true rfl) ⟨Nat.le_of_ble_eq_true rfl, Nat.le_of_ble_eq_true rfl⟩ vc_X7 k0 (T_X7_fundx (G := G) hw h9 k0 h) rfl (fun z hz => by
        simp only [List.mem_cons, List.not_mem_nil, or_false] at hz
        rcases hz with rfl
        · exact Or.inr ⟨by decide, _, kl9_L_50, by decide +kernel⟩) (by decide) (by decide) kl9_L_40 (by decide +kernel) (fun q9 => ?_)
      refine x_astore_n (L' := []) [] dL_fund_11 rfl (by decide) rfl ?_
      refine x_ldc (v := -2000000098) dL_fund_12 kc_L_42 ?_
      exact x_iret dL_fund_14 rfl rfl rfl
    rw [if_neg g1] at h
    cases h
  · cases h
theorem hp_L_state : HP yL_state 2 := by decide +kernel
theorem T_L_state {G : XG} {Y : XY} (hw : WT Y) (h9 : ∀ a, kc Y a ≠ 9) {a0 : Nat} {a1 : Int32} {N : XN} (k0 : kc Y a0 = 17) {r9 : Int32} {N9 : XN} (h : f_L_state Y a0 a1 N = some (r9, N9)) : ClW G yL_state cL_state 3 (some .int) [(0, 5, 6, 40)] (xR 8 1 6) [.ref a0, .int a1] (.inl (some (.int r9))) Y N Y N9 := by
  unfold f_L_state at h
  split at h
  · rename_i r M e9
    obtain ⟨rfl, rfl⟩ := Prod.mk.inj (x_so h)
    replace h := e9
    refine x_entryW (by decide) (Nat.le_of_ble_eq_true rfl) rfl ?_
    refine x_aload_n 0 dL_state_0 rfl rfl ?_
    refine x_iload_n 1 dL_state_1 rfl rfl ?_
    refine x_cv (ci := 7) (b := a0) (As := [.int a1]) (rest := []) (d' := 7) (zz := yX7_state) dL_state_2 ml_L_43 wi_X7_state wv_X7_state wn_X7 wc_X7_state hp_X7_state (by decide) (by decide) rfl (Nat.le_of_ble_eq_true rfl) ⟨Nat.le_of_ble_eq_true rfl, Nat.le_of_ble_eq_true rfl⟩ vc_X7 k0 (T_X7_state (G := G) hw k0 h) ?_
    refine x_widen (k' := 1) (n' := 6) (Nat.le_of_ble_eq_true rfl) (Nat.le_of_ble_eq_true rfl) ?_
    exact x_iret dL_state_5 rfl rfl rfl
  · rename_i e M e9
    by_cases g0 : e = IAE
    · rw [if_pos g0] at h
      obtain ⟨rfl, rfl⟩ := Prod.mk.inj (x_so h)
      replace h := e9
      rw [g0] at h
      refine x_entryW (by decide) (Nat.le_of_ble_eq_true rfl) rfl ?_
      refine x_aload_n 0 dL_state_0 rfl rfl ?_
      refine x_iload_n 1 dL_state_1 rfl rfl ?_
      refine x_cvX (ci := 7) (b := a0) (As := [.int a1]) (rest := []) (R' := xR 7 1 6) (zz := yX7_state) (E := IAE) (x := ⟨0, 5, 6, 40⟩) [] [] dL_state_2 ml_L_43 wi_X7_state wv_X7_state wn_X7 wc_X7_state hp_X7_state ⟨Nat.le_of_ble_eq_true rfl, Nat.le_of_ble_eq_true rfl⟩ rfl (Nat.le_of_ble_eq_true rfl) ⟨Nat.le_of_ble_eq_true rfl, Nat.le_of_ble_eq_true rfl⟩ vc_X7 k0 (T_X7_statex (G := G) hw h9 k0 h) rfl (fun z hz => absurd hz List.not_mem_nil) (by decide) (by decide) kl9_L_40 (by decide +kernel) (fun q9 => ?_)
      refine x_astore_n (L' := []) [] dL_state_6 rfl (by decide) rfl ?_
      refine x_ldc (v := -2000000098) dL_state_7 kc_L_42 ?_
      exact x_iret dL_state_9 rfl rfl rfl
    rw [if_neg g0] at h
    cases h
  · cases h
theorem hp_L_handler : HP yL_handler 3 := by decide +kernel
theorem T_L_handler {G : XG} {Y : XY} (hw : WT Y) (h9 : ∀ a, kc Y a ≠ 9) {a0 : Nat} {a1 a2 : Int32} {N : XN} (k0 : kc Y a0 = 17) {r9 : Int32} {N9 : XN} (h : f_L_handler Y a0 a1 a2 N = some (r9, N9)) : ClW G yL_handler cL_handler 4 (some .int) [(0, 6, 7, 50), (0, 6, 11, 40)] (xR 8 1 6) [.ref a0, .int a1, .int a2] (.inl (some (.int r9))) Y N Y N9 := by
  unfold f_L_handler at h
  split at h
  · rename_i r M e9
    obtain ⟨rfl, rfl⟩ := Prod.mk.inj (x_so h)
    replace h := e9
    refine x_entryW (by decide) (Nat.le_of_ble_eq_true rfl) rfl ?_
    refine x_aload_n 0 dL_handler_0 rfl rfl ?_
    refine x_iload_n 1 dL_handler_1 rfl rfl ?_
    refine x_iload_n 2 dL_handler_2 rfl rfl ?_
    refine x_cv (ci := 7) (b := a0) (As := [.int a1, .int a2]) (rest := []) (d' := 7) (zz := yX7_handler) dL_handler_3 ml_L_46 wi_X7_handler wv_X7_handler wn_X7 wc_X7_handler hp_X7_handler (by decide) (by decide) rfl (Nat.le_of_ble_eq_true rfl) ⟨Nat.le_of_ble_eq_true rfl, Nat.le_of_ble_eq_true rfl⟩ vc_X7 k0 (T_X7_handler (G := G) hw k0 h) ?_
    refine x_widen (k' := 1) (n' := 6) (Nat.le_of_ble_eq_true rfl) (Nat.le_of_ble_eq_true rfl) ?_
    exact x_iret dL_handler_6 rfl rfl rfl
  · rename_i e M e9
    by_cases g0 : e = IOB
    · rw [if_pos g0] at h
      obtain ⟨rfl, rfl⟩ := Prod.mk.inj (x_so h)
      replace h := e9
      rw [g0] at h
      refine x_entryW (by decide) (Nat.le_of_ble_eq_true rfl) rfl ?_
      refine x_aload_n 0 dL_handler_0 rfl rfl ?_
      refine x_iload_n 1 dL_handler_1 rfl rfl ?_
      refine x_iload_n 2 dL_handler_2 rfl rfl ?_
      refine x_cvX (ci := 7) (b := a0) (As := [.int a1, .int a2]) (rest := []) (R' := xR 7 1 6) (zz := yX7_handler) (E := IOB) (x := ⟨0, 6, 7, 50⟩) [] [⟨0, 6, 11, 40⟩] dL_handler_3 ml_L_46 wi_X7_handler wv_X7_handler wn_X7 wc_X7_handler hp_X7_handler ⟨Nat.le_of_ble_eq_true rfl, Nat.le_of_ble_eq_true rfl⟩ rfl (Nat.le_of_ble_eq_true rfl) ⟨Nat.le_of_ble_eq_true rfl, Nat.le_of_ble_eq_true rfl⟩ vc_X7 k0 (T_X7_handlerx (G := G) hw h9 k0 h) rfl (fun z hz => absurd hz List.not_mem_nil) (by decide) (by decide) kl9_L_50 (by decide +kernel) (fun q9 => ?_)
      refine x_astore_n (L' := []) [] dL_handler_7 rfl (by decide) rfl ?_
      refine x_ldc (v := -2000000097) dL_handler_8 kc_L_52 ?_
      exact x_iret dL_handler_10 rfl rfl rfl
    rw [if_neg g0] at h
    by_cases g1 : e = IAE
    · rw [if_pos g1] at h
      obtain ⟨rfl, rfl⟩ := Prod.mk.inj (x_so h)
      replace h := e9
      rw [g1] at h
      refine x_entryW (by decide) (Nat.le_of_ble_eq_true rfl) rfl ?_
      refine x_aload_n 0 dL_handler_0 rfl rfl ?_
      refine x_iload_n 1 dL_handler_1 rfl rfl ?_
      refine x_iload_n 2 dL_handler_2 rfl rfl ?_
      refine x_cvX (ci := 7) (b := a0) (As := [.int a1, .int a2]) (rest := []) (R' := xR 7 1 6) (zz := yX7_handler) (E := IAE) (x := ⟨0, 6, 11, 40⟩) [⟨0, 6, 7, 50⟩] [] dL_handler_3 ml_L_46 wi_X7_handler wv_X7_handler wn_X7 wc_X7_handler hp_X7_handler ⟨Nat.le_of_ble_eq_true rfl, Nat.le_of_ble_eq_true rfl⟩ rfl (Nat.le_of_ble_eq_true rfl) ⟨Nat.le_of_ble_eq_true rfl, Nat.le_of_ble_eq_true rfl⟩ vc_X7 k0 (T_X7_handlerx (G := G) hw h9 k0 h) rfl (fun z hz => by
        simp only [List.mem_cons, List.not_mem_nil, or_false] at hz
        rcases hz with rfl
        · exact Or.inr ⟨by decide, _, kl9_L_50, by decide +kernel⟩) (by decide) (by decide) kl9_L_40 (by decide +kernel) (fun q9 => ?_)
      refine x_astore_n (L' := []) [] dL_handler_11 rfl (by decide) rfl ?_
      refine x_ldc (v := -2000000098) dL_handler_12 kc_L_42 ?_
      exact x_iret dL_handler_14 rfl rfl rfl
    rw [if_neg g1] at h
    cases h
  · cases h
theorem hp_L_line : HP yL_line 3 := by decide +kernel
theorem T_L_line {G : XG} {Y : XY} (hw : WT Y) (h9 : ∀ a, kc Y a ≠ 9) {a0 : Nat} {a1 a2 : Int32} {N : XN} (k0 : kc Y a0 = 17) {r9 : Int32} {N9 : XN} (h : f_L_line Y a0 a1 a2 N = some (r9, N9)) : ClW G yL_line cL_line 4 (some .int) [(0, 6, 7, 50), (0, 6, 11, 40)] (xR 8 1 6) [.ref a0, .int a1, .int a2] (.inl (some (.int r9))) Y N Y N9 := by
  unfold f_L_line at h
  split at h
  · rename_i r M e9
    obtain ⟨rfl, rfl⟩ := Prod.mk.inj (x_so h)
    replace h := e9
    refine x_entryW (by decide) (Nat.le_of_ble_eq_true rfl) rfl ?_
    refine x_aload_n 0 dL_line_0 rfl rfl ?_
    refine x_iload_n 1 dL_line_1 rfl rfl ?_
    refine x_iload_n 2 dL_line_2 rfl rfl ?_
    refine x_cv (ci := 7) (b := a0) (As := [.int a1, .int a2]) (rest := []) (d' := 7) (zz := yX7_line) dL_line_3 ml_L_53 wi_X7_line wv_X7_line wn_X7 wc_X7_line hp_X7_line (by decide) (by decide) rfl (Nat.le_of_ble_eq_true rfl) ⟨Nat.le_of_ble_eq_true rfl, Nat.le_of_ble_eq_true rfl⟩ vc_X7 k0 (T_X7_line (G := G) hw k0 h) ?_
    refine x_widen (k' := 1) (n' := 6) (Nat.le_of_ble_eq_true rfl) (Nat.le_of_ble_eq_true rfl) ?_
    exact x_iret dL_line_6 rfl rfl rfl
  · rename_i e M e9
    by_cases g0 : e = IOB
    · rw [if_pos g0] at h
      obtain ⟨rfl, rfl⟩ := Prod.mk.inj (x_so h)
      replace h := e9
      rw [g0] at h
      refine x_entryW (by decide) (Nat.le_of_ble_eq_true rfl) rfl ?_
      refine x_aload_n 0 dL_line_0 rfl rfl ?_
      refine x_iload_n 1 dL_line_1 rfl rfl ?_
      refine x_iload_n 2 dL_line_2 rfl rfl ?_
      refine x_cvX (ci := 7) (b := a0) (As := [.int a1, .int a2]) (rest := []) (R' := xR 7 1 6) (zz := yX7_line) (E := IOB) (x := ⟨0, 6, 7, 50⟩) [] [⟨0, 6, 11, 40⟩] dL_line_3 ml_L_53 wi_X7_line wv_X7_line wn_X7 wc_X7_line hp_X7_line ⟨Nat.le_of_ble_eq_true rfl, Nat.le_of_ble_eq_true rfl⟩ rfl (Nat.le_of_ble_eq_true rfl) ⟨Nat.le_of_ble_eq_true rfl, Nat.le_of_ble_eq_true rfl⟩ vc_X7 k0 (T_X7_linex (G := G) hw h9 k0 h) rfl (fun z hz => absurd hz List.not_mem_nil) (by decide) (by decide) kl9_L_50 (by decide +kernel) (fun q9 => ?_)
      refine x_astore_n (L' := []) [] dL_line_7 rfl (by decide) rfl ?_
      refine x_ldc (v := -2000000097) dL_line_8 kc_L_52 ?_
      exact x_iret dL_line_10 rfl rfl rfl
    rw [if_neg g0] at h
    by_cases g1 : e = IAE
    · rw [if_pos g1] at h
      obtain ⟨rfl, rfl⟩ := Prod.mk.inj (x_so h)
      replace h := e9
      rw [g1] at h
      refine x_entryW (by decide) (Nat.le_of_ble_eq_true rfl) rfl ?_
      refine x_aload_n 0 dL_line_0 rfl rfl ?_
      refine x_iload_n 1 dL_line_1 rfl rfl ?_
      refine x_iload_n 2 dL_line_2 rfl rfl ?_
      refine x_cvX (ci := 7) (b := a0) (As := [.int a1, .int a2]) (rest := []) (R' := xR 7 1 6) (zz := yX7_line) (E := IAE) (x := ⟨0, 6, 11, 40⟩) [⟨0, 6, 7, 50⟩] [] dL_line_3 ml_L_53 wi_X7_line wv_X7_line wn_X7 wc_X7_line hp_X7_line ⟨Nat.le_of_ble_eq_true rfl, Nat.le_of_ble_eq_true rfl⟩ rfl (Nat.le_of_ble_eq_true rfl) ⟨Nat.le_of_ble_eq_true rfl, Nat.le_of_ble_eq_true rfl⟩ vc_X7 k0 (T_X7_linex (G := G) hw h9 k0 h) rfl (fun z hz => by
        simp only [List.mem_cons, List.not_mem_nil, or_false] at hz
        rcases hz with rfl
        · exact Or.inr ⟨by decide, _, kl9_L_50, by decide +kernel⟩) (by decide) (by decide) kl9_L_40 (by decide +kernel) (fun q9 => ?_)
      refine x_astore_n (L' := []) [] dL_line_11 rfl (by decide) rfl ?_
      refine x_ldc (v := -2000000098) dL_line_12 kc_L_42 ?_
      exact x_iret dL_line_14 rfl rfl rfl
    rw [if_neg g1] at h
    cases h
  · cases h
theorem hp_L_tenant : HP yL_tenant 3 := by decide +kernel
theorem T_L_tenant {G : XG} {Y : XY} (hw : WT Y) (h9 : ∀ a, kc Y a ≠ 9) {a0 : Nat} {a1 a2 : Int32} {N : XN} (k0 : kc Y a0 = 17) {r9 : Int32} {N9 : XN} (h : f_L_tenant Y a0 a1 a2 N = some (r9, N9)) : ClW G yL_tenant cL_tenant 4 (some .int) [(0, 6, 7, 50), (0, 6, 11, 59)] (xR 8 1 6) [.ref a0, .int a1, .int a2] (.inl (some (.int r9))) Y N Y N9 := by
  unfold f_L_tenant at h
  split at h
  · rename_i r M e9
    obtain ⟨rfl, rfl⟩ := Prod.mk.inj (x_so h)
    replace h := e9
    refine x_entryW (by decide) (Nat.le_of_ble_eq_true rfl) rfl ?_
    refine x_aload_n 0 dL_tenant_0 rfl rfl ?_
    refine x_iload_n 1 dL_tenant_1 rfl rfl ?_
    refine x_iload_n 2 dL_tenant_2 rfl rfl ?_
    refine x_cv (ci := 7) (b := a0) (As := [.int a1, .int a2]) (rest := []) (d' := 7) (zz := yX7_tenant) dL_tenant_3 ml_L_56 wi_X7_tenant wv_X7_tenant wn_X7 wc_X7_tenant hp_X7_tenant (by decide) (by decide) rfl (Nat.le_of_ble_eq_true rfl) ⟨Nat.le_of_ble_eq_true rfl, Nat.le_of_ble_eq_true rfl⟩ vc_X7 k0 (T_X7_tenant (G := G) hw k0 h) ?_
    refine x_widen (k' := 1) (n' := 6) (Nat.le_of_ble_eq_true rfl) (Nat.le_of_ble_eq_true rfl) ?_
    exact x_iret dL_tenant_6 rfl rfl rfl
  · rename_i e M e9
    by_cases g0 : e = IOB
    · rw [if_pos g0] at h
      obtain ⟨rfl, rfl⟩ := Prod.mk.inj (x_so h)
      replace h := e9
      rw [g0] at h
      refine x_entryW (by decide) (Nat.le_of_ble_eq_true rfl) rfl ?_
      refine x_aload_n 0 dL_tenant_0 rfl rfl ?_
      refine x_iload_n 1 dL_tenant_1 rfl rfl ?_
      refine x_iload_n 2 dL_tenant_2 rfl rfl ?_
      refine x_cvX (ci := 7) (b := a0) (As := [.int a1, .int a2]) (rest := []) (R' := xR 7 1 6) (zz := yX7_tenant) (E := IOB) (x := ⟨0, 6, 7, 50⟩) [] [⟨0, 6, 11, 59⟩] dL_tenant_3 ml_L_56 wi_X7_tenant wv_X7_tenant wn_X7 wc_X7_tenant hp_X7_tenant ⟨Nat.le_of_ble_eq_true rfl, Nat.le_of_ble_eq_true rfl⟩ rfl (Nat.le_of_ble_eq_true rfl) ⟨Nat.le_of_ble_eq_true rfl, Nat.le_of_ble_eq_true rfl⟩ vc_X7 k0 (T_X7_tenantx (G := G) hw h9 k0 h) rfl (fun z hz => absurd hz List.not_mem_nil) (by decide) (by decide) kl9_L_50 (by decide +kernel) (fun q9 => ?_)
      refine x_astore_n (L' := []) [] dL_tenant_7 rfl (by decide) rfl ?_
      refine x_ldc (v := -2000000097) dL_tenant_8 kc_L_52 ?_
      exact x_iret dL_tenant_10 rfl rfl rfl
    rw [if_neg g0] at h
    by_cases g1 : e = NSE
    · rw [if_pos g1] at h
      obtain ⟨rfl, rfl⟩ := Prod.mk.inj (x_so h)
      replace h := e9
      rw [g1] at h
      refine x_entryW (by decide) (Nat.le_of_ble_eq_true rfl) rfl ?_
      refine x_aload_n 0 dL_tenant_0 rfl rfl ?_
      refine x_iload_n 1 dL_tenant_1 rfl rfl ?_
      refine x_iload_n 2 dL_tenant_2 rfl rfl ?_
      refine x_cvX (ci := 7) (b := a0) (As := [.int a1, .int a2]) (rest := []) (R' := xR 7 1 6) (zz := yX7_tenant) (E := NSE) (x := ⟨0, 6, 11, 59⟩) [⟨0, 6, 7, 50⟩] [] dL_tenant_3 ml_L_56 wi_X7_tenant wv_X7_tenant wn_X7 wc_X7_tenant hp_X7_tenant ⟨Nat.le_of_ble_eq_true rfl, Nat.le_of_ble_eq_true rfl⟩ rfl (Nat.le_of_ble_eq_true rfl) ⟨Nat.le_of_ble_eq_true rfl, Nat.le_of_ble_eq_true rfl⟩ vc_X7 k0 (T_X7_tenantx (G := G) hw h9 k0 h) rfl (fun z hz => by
        simp only [List.mem_cons, List.not_mem_nil, or_false] at hz
        rcases hz with rfl
        · exact Or.inr ⟨by decide, _, kl9_L_50, by decide +kernel⟩) (by decide) (by decide) kl9_L_59 (by decide +kernel) (fun q9 => ?_)
      refine x_astore_n (L' := []) [] dL_tenant_11 rfl (by decide) rfl ?_
      refine x_ldc (v := -2000000100) dL_tenant_12 kc_L_61 ?_
      exact x_iret dL_tenant_14 rfl rfl rfl
    rw [if_neg g1] at h
    cases h
  · cases h
theorem hp_L_request : HP yL_request 3 := by decide +kernel
theorem T_L_request {G : XG} {Y : XY} (hw : WT Y) (h9 : ∀ a, kc Y a ≠ 9) {a0 : Nat} {a1 a2 : Int32} {N : XN} (k0 : kc Y a0 = 17) {r9 : Int32} {N9 : XN} (h : f_L_request Y a0 a1 a2 N = some (r9, N9)) : ClW G yL_request cL_request 4 (some .int) [(0, 6, 7, 50), (0, 6, 11, 40)] (xR 8 1 6) [.ref a0, .int a1, .int a2] (.inl (some (.int r9))) Y N Y N9 := by
  unfold f_L_request at h
  split at h
  · rename_i r M e9
    obtain ⟨rfl, rfl⟩ := Prod.mk.inj (x_so h)
    replace h := e9
    refine x_entryW (by decide) (Nat.le_of_ble_eq_true rfl) rfl ?_
    refine x_aload_n 0 dL_request_0 rfl rfl ?_
    refine x_iload_n 1 dL_request_1 rfl rfl ?_
    refine x_iload_n 2 dL_request_2 rfl rfl ?_
    refine x_cv (ci := 7) (b := a0) (As := [.int a1, .int a2]) (rest := []) (d' := 7) (zz := yX7_request) dL_request_3 ml_L_62 wi_X7_request wv_X7_request wn_X7 wc_X7_request hp_X7_request (by decide) (by decide) rfl (Nat.le_of_ble_eq_true rfl) ⟨Nat.le_of_ble_eq_true rfl, Nat.le_of_ble_eq_true rfl⟩ vc_X7 k0 (T_X7_request (G := G) hw k0 h) ?_
    refine x_widen (k' := 1) (n' := 6) (Nat.le_of_ble_eq_true rfl) (Nat.le_of_ble_eq_true rfl) ?_
    exact x_iret dL_request_6 rfl rfl rfl
  · rename_i e M e9
    by_cases g0 : e = IOB
    · rw [if_pos g0] at h
      obtain ⟨rfl, rfl⟩ := Prod.mk.inj (x_so h)
      replace h := e9
      rw [g0] at h
      refine x_entryW (by decide) (Nat.le_of_ble_eq_true rfl) rfl ?_
      refine x_aload_n 0 dL_request_0 rfl rfl ?_
      refine x_iload_n 1 dL_request_1 rfl rfl ?_
      refine x_iload_n 2 dL_request_2 rfl rfl ?_
      refine x_cvX (ci := 7) (b := a0) (As := [.int a1, .int a2]) (rest := []) (R' := xR 7 1 6) (zz := yX7_request) (E := IOB) (x := ⟨0, 6, 7, 50⟩) [] [⟨0, 6, 11, 40⟩] dL_request_3 ml_L_62 wi_X7_request wv_X7_request wn_X7 wc_X7_request hp_X7_request ⟨Nat.le_of_ble_eq_true rfl, Nat.le_of_ble_eq_true rfl⟩ rfl (Nat.le_of_ble_eq_true rfl) ⟨Nat.le_of_ble_eq_true rfl, Nat.le_of_ble_eq_true rfl⟩ vc_X7 k0 (T_X7_requestx (G := G) hw h9 k0 h) rfl (fun z hz => absurd hz List.not_mem_nil) (by decide) (by decide) kl9_L_50 (by decide +kernel) (fun q9 => ?_)
      refine x_astore_n (L' := []) [] dL_request_7 rfl (by decide) rfl ?_
      refine x_ldc (v := -2000000097) dL_request_8 kc_L_52 ?_
      exact x_iret dL_request_10 rfl rfl rfl
    rw [if_neg g0] at h
    by_cases g1 : e = IAE
    · rw [if_pos g1] at h
      obtain ⟨rfl, rfl⟩ := Prod.mk.inj (x_so h)
      replace h := e9
      rw [g1] at h
      refine x_entryW (by decide) (Nat.le_of_ble_eq_true rfl) rfl ?_
      refine x_aload_n 0 dL_request_0 rfl rfl ?_
      refine x_iload_n 1 dL_request_1 rfl rfl ?_
      refine x_iload_n 2 dL_request_2 rfl rfl ?_
      refine x_cvX (ci := 7) (b := a0) (As := [.int a1, .int a2]) (rest := []) (R' := xR 7 1 6) (zz := yX7_request) (E := IAE) (x := ⟨0, 6, 11, 40⟩) [⟨0, 6, 7, 50⟩] [] dL_request_3 ml_L_62 wi_X7_request wv_X7_request wn_X7 wc_X7_request hp_X7_request ⟨Nat.le_of_ble_eq_true rfl, Nat.le_of_ble_eq_true rfl⟩ rfl (Nat.le_of_ble_eq_true rfl) ⟨Nat.le_of_ble_eq_true rfl, Nat.le_of_ble_eq_true rfl⟩ vc_X7 k0 (T_X7_requestx (G := G) hw h9 k0 h) rfl (fun z hz => by
        simp only [List.mem_cons, List.not_mem_nil, or_false] at hz
        rcases hz with rfl
        · exact Or.inr ⟨by decide, _, kl9_L_50, by decide +kernel⟩) (by decide) (by decide) kl9_L_40 (by decide +kernel) (fun q9 => ?_)
      refine x_astore_n (L' := []) [] dL_request_11 rfl (by decide) rfl ?_
      refine x_ldc (v := -2000000098) dL_request_12 kc_L_42 ?_
      exact x_iret dL_request_14 rfl rfl rfl
    rw [if_neg g1] at h
    cases h
  · cases h
