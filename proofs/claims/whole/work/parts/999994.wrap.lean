/-! THE WRAPPERS -/
theorem W_load {G : XG} {Y : XY} (hw : WT Y) {a0 q : Nat} {a1 : Int32} {N : XN} (k0 : kc Y a0 = 17) (kq : kc Y q = 3) (kn9 : kn Y q = 1) {r9 : Int32} {N9 : XN} (h : f_X7_load Y a0 a1 N = some (.inl r9, N9)) : ClW G yL_load cL_load 4 (some .int) [(0, 9, 12, 13)] (xR 31 0 0) [.ref a0, .int a1, .ref q] (.inl (some (.int 0))) Y N (yrd Y (gp Y a0 4) (gp Y a0 3) (gp Y a0 6)) (sl N9 q 0 r9.toInt64) := by
  refine x_entryW (by decide) (Nat.le_of_ble_eq_true rfl) rfl ?_
  refine x_aload_n 2 dL_load_0 rfl rfl ?_
  refine x_iconst (v := 0) dL_load_1 rfl ?_
  refine x_aload_n 0 dL_load_2 rfl rfl ?_
  refine x_iload_n 1 dL_load_3 rfl rfl ?_
  refine x_cv (ci := 7) (b := a0) (As := [.int a1]) (rest := [.int 0, .ref q]) (d' := 30) (zz := yX7_load) dL_load_4 ml_L_7 wi_X7_load wv_X7_load wn_X7 wc_X7_load hp_X7_load (by decide) (by decide) rfl (Nat.le_of_ble_eq_true rfl) ⟨Nat.zero_le _, Nat.zero_le _⟩ vc_X7 k0 (T_X7_load (G := G) hw k0 h) ?_
  refine x_i2l dL_load_7 ?_
  refine x_last (j9 := 0) dL_load_8 kq (show vp_in 0 (kn Y q) by rw [kn9]; exact vp01) rfl ?_
  refine x_goto (tgt := 15) dL_load_9 (by decide) ?_
  refine x_iconst (v := 0) dL_load_15 rfl ?_
  exact x_iret dL_load_16 rfl rfl rfl
theorem W_load_x0 {G : XG} {Y : XY} (hw : WT Y) {a0 q : Nat} {a1 : Int32} {N : XN} (k0 : kc Y a0 = 17) (kq : kc Y q = 3) (kn9 : kn Y q = 1) {N9 : XN} (h : f_X7_load Y a0 a1 N = some (.inr IAE, N9)) : ClW G yL_load cL_load 4 (some .int) [(0, 9, 12, 13)] (xR 31 1 6) [.ref a0, .int a1, .ref q] (.inl (some (.int 1))) Y N Y N9 := by
  refine x_entryW (by decide) (Nat.le_of_ble_eq_true rfl) rfl ?_
  refine x_aload_n 2 dL_load_0 rfl rfl ?_
  refine x_iconst (v := 0) dL_load_1 rfl ?_
  refine x_aload_n 0 dL_load_2 rfl rfl ?_
  refine x_iload_n 1 dL_load_3 rfl rfl ?_
  refine x_cvX (ci := 7) (b := a0) (As := [.int a1]) (rest := [.int 0, .ref q]) (R' := xR 30 1 6) (zz := yX7_load) (E := IAE) (x := ⟨0, 9, 12, 13⟩) [] [] dL_load_4 ml_L_7 wi_X7_load wv_X7_load wn_X7 wc_X7_load hp_X7_load ⟨Nat.le_of_ble_eq_true rfl, Nat.le_of_ble_eq_true rfl⟩ rfl (Nat.le_of_ble_eq_true rfl) ⟨Nat.le_of_ble_eq_true rfl, Nat.le_of_ble_eq_true rfl⟩ vc_X7 k0 (T_X7_loadx (G := G) hw k0 h) rfl (fun z hz => absurd hz List.not_mem_nil) (by decide) (by decide) kl9_L_13 (by decide +kernel) (fun q9 => ?_)
  refine x_astore_n (L' := []) [] dL_load_12 rfl (by decide) rfl ?_
  refine x_iconst (v := 1) dL_load_13 rfl ?_
  exact x_iret dL_load_14 rfl rfl rfl
theorem W_state {G : XG} {Y : XY} (hw : WT Y) {a0 q : Nat} {a1 : Int32} {N : XN} (k0 : kc Y a0 = 17) (kq : kc Y q = 3) (kn9 : kn Y q = 1) {r9 : Int32} {N9 : XN} (h : f_X7_state Y a0 a1 N = some (.inl r9, N9)) : ClW G yL_state cL_state 4 (some .int) [(0, 9, 12, 13)] (xR 8 0 0) [.ref a0, .int a1, .ref q] (.inl (some (.int 0))) Y N Y (sl N9 q 0 r9.toInt64) := by
  refine x_entryW (by decide) (Nat.le_of_ble_eq_true rfl) rfl ?_
  refine x_aload_n 2 dL_state_0 rfl rfl ?_
  refine x_iconst (v := 0) dL_state_1 rfl ?_
  refine x_aload_n 0 dL_state_2 rfl rfl ?_
  refine x_iload_n 1 dL_state_3 rfl rfl ?_
  refine x_cv (ci := 7) (b := a0) (As := [.int a1]) (rest := [.int 0, .ref q]) (d' := 7) (zz := yX7_state) dL_state_4 ml_L_15 wi_X7_state wv_X7_state wn_X7 wc_X7_state hp_X7_state (by decide) (by decide) rfl (Nat.le_of_ble_eq_true rfl) ⟨Nat.zero_le _, Nat.zero_le _⟩ vc_X7 k0 (T_X7_state (G := G) hw k0 h) ?_
  refine x_i2l dL_state_7 ?_
  refine x_last (j9 := 0) dL_state_8 kq (show vp_in 0 (kn Y q) by rw [kn9]; exact vp01) rfl ?_
  refine x_goto (tgt := 15) dL_state_9 (by decide) ?_
  refine x_iconst (v := 0) dL_state_15 rfl ?_
  exact x_iret dL_state_16 rfl rfl rfl
theorem W_state_x0 {G : XG} {Y : XY} (hw : WT Y) {a0 q : Nat} {a1 : Int32} {N : XN} (k0 : kc Y a0 = 17) (kq : kc Y q = 3) (kn9 : kn Y q = 1) {N9 : XN} (h : f_X7_state Y a0 a1 N = some (.inr IAE, N9)) : ClW G yL_state cL_state 4 (some .int) [(0, 9, 12, 13)] (xR 8 1 6) [.ref a0, .int a1, .ref q] (.inl (some (.int 1))) Y N Y N9 := by
  refine x_entryW (by decide) (Nat.le_of_ble_eq_true rfl) rfl ?_
  refine x_aload_n 2 dL_state_0 rfl rfl ?_
  refine x_iconst (v := 0) dL_state_1 rfl ?_
  refine x_aload_n 0 dL_state_2 rfl rfl ?_
  refine x_iload_n 1 dL_state_3 rfl rfl ?_
  refine x_cvX (ci := 7) (b := a0) (As := [.int a1]) (rest := [.int 0, .ref q]) (R' := xR 7 1 6) (zz := yX7_state) (E := IAE) (x := ⟨0, 9, 12, 13⟩) [] [] dL_state_4 ml_L_15 wi_X7_state wv_X7_state wn_X7 wc_X7_state hp_X7_state ⟨Nat.le_of_ble_eq_true rfl, Nat.le_of_ble_eq_true rfl⟩ rfl (Nat.le_of_ble_eq_true rfl) ⟨Nat.le_of_ble_eq_true rfl, Nat.le_of_ble_eq_true rfl⟩ vc_X7 k0 (T_X7_statex (G := G) hw k0 h) rfl (fun z hz => absurd hz List.not_mem_nil) (by decide) (by decide) kl9_L_13 (by decide +kernel) (fun q9 => ?_)
  refine x_astore_n (L' := []) [] dL_state_12 rfl (by decide) rfl ?_
  refine x_iconst (v := 1) dL_state_13 rfl ?_
  exact x_iret dL_state_14 rfl rfl rfl
theorem W_handler {G : XG} {Y : XY} (hw : WT Y) {a0 q : Nat} {a1 a2 : Int32} {N : XN} (k0 : kc Y a0 = 17) (kq : kc Y q = 3) (kn9 : kn Y q = 1) {r9 : Int32} {N9 : XN} (h : f_X7_handler Y a0 a1 a2 N = some (.inl r9, N9)) : ClW G yL_handler cL_handler 5 (some .int) [(0, 10, 13, 22), (0, 10, 17, 13)] (xR 8 0 0) [.ref a0, .int a1, .int a2, .ref q] (.inl (some (.int 0))) Y N Y (sl N9 q 0 r9.toInt64) := by
  refine x_entryW (by decide) (Nat.le_of_ble_eq_true rfl) rfl ?_
  refine x_aload_n 3 dL_handler_0 rfl rfl ?_
  refine x_iconst (v := 0) dL_handler_1 rfl ?_
  refine x_aload_n 0 dL_handler_2 rfl rfl ?_
  refine x_iload_n 1 dL_handler_3 rfl rfl ?_
  refine x_iload_n 2 dL_handler_4 rfl rfl ?_
  refine x_cv (ci := 7) (b := a0) (As := [.int a1, .int a2]) (rest := [.int 0, .ref q]) (d' := 7) (zz := yX7_handler) dL_handler_5 ml_L_18 wi_X7_handler wv_X7_handler wn_X7 wc_X7_handler hp_X7_handler (by decide) (by decide) rfl (Nat.le_of_ble_eq_true rfl) ⟨Nat.zero_le _, Nat.zero_le _⟩ vc_X7 k0 (T_X7_handler (G := G) hw k0 h) ?_
  refine x_i2l dL_handler_8 ?_
  refine x_last (j9 := 0) dL_handler_9 kq (show vp_in 0 (kn Y q) by rw [kn9]; exact vp01) rfl ?_
  refine x_goto (tgt := 21) dL_handler_10 (by decide) ?_
  refine x_iconst (v := 0) dL_handler_21 rfl ?_
  exact x_iret dL_handler_22 rfl rfl rfl
theorem W_handler_x0 {G : XG} {Y : XY} (hw : WT Y) {a0 q : Nat} {a1 a2 : Int32} {N : XN} (k0 : kc Y a0 = 17) (kq : kc Y q = 3) (kn9 : kn Y q = 1) {N9 : XN} (h : f_X7_handler Y a0 a1 a2 N = some (.inr IOB, N9)) : ClW G yL_handler cL_handler 5 (some .int) [(0, 10, 13, 22), (0, 10, 17, 13)] (xR 8 1 6) [.ref a0, .int a1, .int a2, .ref q] (.inl (some (.int 1))) Y N Y N9 := by
  refine x_entryW (by decide) (Nat.le_of_ble_eq_true rfl) rfl ?_
  refine x_aload_n 3 dL_handler_0 rfl rfl ?_
  refine x_iconst (v := 0) dL_handler_1 rfl ?_
  refine x_aload_n 0 dL_handler_2 rfl rfl ?_
  refine x_iload_n 1 dL_handler_3 rfl rfl ?_
  refine x_iload_n 2 dL_handler_4 rfl rfl ?_
  refine x_cvX (ci := 7) (b := a0) (As := [.int a1, .int a2]) (rest := [.int 0, .ref q]) (R' := xR 7 1 6) (zz := yX7_handler) (E := IOB) (x := ⟨0, 10, 13, 22⟩) [] [⟨0, 10, 17, 13⟩] dL_handler_5 ml_L_18 wi_X7_handler wv_X7_handler wn_X7 wc_X7_handler hp_X7_handler ⟨Nat.le_of_ble_eq_true rfl, Nat.le_of_ble_eq_true rfl⟩ rfl (Nat.le_of_ble_eq_true rfl) ⟨Nat.le_of_ble_eq_true rfl, Nat.le_of_ble_eq_true rfl⟩ vc_X7 k0 (T_X7_handlerx (G := G) hw k0 h) rfl (fun z hz => absurd hz List.not_mem_nil) (by decide) (by decide) kl9_L_22 (by decide +kernel) (fun q9 => ?_)
  refine x_astore (L' := []) [] dL_handler_13 (by decide) rfl ?_
  refine x_iconst (v := 1) dL_handler_15 rfl ?_
  exact x_iret dL_handler_16 rfl rfl rfl
theorem W_handler_x1 {G : XG} {Y : XY} (hw : WT Y) {a0 q : Nat} {a1 a2 : Int32} {N : XN} (k0 : kc Y a0 = 17) (kq : kc Y q = 3) (kn9 : kn Y q = 1) {N9 : XN} (h : f_X7_handler Y a0 a1 a2 N = some (.inr IAE, N9)) : ClW G yL_handler cL_handler 5 (some .int) [(0, 10, 13, 22), (0, 10, 17, 13)] (xR 8 1 6) [.ref a0, .int a1, .int a2, .ref q] (.inl (some (.int 2))) Y N Y N9 := by
  refine x_entryW (by decide) (Nat.le_of_ble_eq_true rfl) rfl ?_
  refine x_aload_n 3 dL_handler_0 rfl rfl ?_
  refine x_iconst (v := 0) dL_handler_1 rfl ?_
  refine x_aload_n 0 dL_handler_2 rfl rfl ?_
  refine x_iload_n 1 dL_handler_3 rfl rfl ?_
  refine x_iload_n 2 dL_handler_4 rfl rfl ?_
  refine x_cvX (ci := 7) (b := a0) (As := [.int a1, .int a2]) (rest := [.int 0, .ref q]) (R' := xR 7 1 6) (zz := yX7_handler) (E := IAE) (x := ⟨0, 10, 17, 13⟩) [⟨0, 10, 13, 22⟩] [] dL_handler_5 ml_L_18 wi_X7_handler wv_X7_handler wn_X7 wc_X7_handler hp_X7_handler ⟨Nat.le_of_ble_eq_true rfl, Nat.le_of_ble_eq_true rfl⟩ rfl (Nat.le_of_ble_eq_true rfl) ⟨Nat.le_of_ble_eq_true rfl, Nat.le_of_ble_eq_true rfl⟩ vc_X7 k0 (T_X7_handlerx (G := G) hw k0 h) rfl (fun z hz => by
    simp only [List.mem_cons, List.not_mem_nil, or_false] at hz
    rcases hz with rfl
    · exact Or.inr ⟨by decide, _, kl9_L_22, by decide +kernel⟩) (by decide) (by decide) kl9_L_13 (by decide +kernel) (fun q9 => ?_)
  refine x_astore (L' := []) [] dL_handler_17 (by decide) rfl ?_
  refine x_iconst (v := 2) dL_handler_19 rfl ?_
  exact x_iret dL_handler_20 rfl rfl rfl
theorem W_line {G : XG} {Y : XY} (hw : WT Y) {a0 q : Nat} {a1 a2 : Int32} {N : XN} (k0 : kc Y a0 = 17) (kq : kc Y q = 3) (kn9 : kn Y q = 1) {r9 : Int32} {N9 : XN} (h : f_X7_line Y a0 a1 a2 N = some (.inl r9, N9)) : ClW G yL_line cL_line 5 (some .int) [(0, 10, 13, 22), (0, 10, 17, 13)] (xR 8 0 0) [.ref a0, .int a1, .int a2, .ref q] (.inl (some (.int 0))) Y N Y (sl N9 q 0 r9.toInt64) := by
  refine x_entryW (by decide) (Nat.le_of_ble_eq_true rfl) rfl ?_
  refine x_aload_n 3 dL_line_0 rfl rfl ?_
  refine x_iconst (v := 0) dL_line_1 rfl ?_
  refine x_aload_n 0 dL_line_2 rfl rfl ?_
  refine x_iload_n 1 dL_line_3 rfl rfl ?_
  refine x_iload_n 2 dL_line_4 rfl rfl ?_
  refine x_cv (ci := 7) (b := a0) (As := [.int a1, .int a2]) (rest := [.int 0, .ref q]) (d' := 7) (zz := yX7_line) dL_line_5 ml_L_24 wi_X7_line wv_X7_line wn_X7 wc_X7_line hp_X7_line (by decide) (by decide) rfl (Nat.le_of_ble_eq_true rfl) ⟨Nat.zero_le _, Nat.zero_le _⟩ vc_X7 k0 (T_X7_line (G := G) hw k0 h) ?_
  refine x_i2l dL_line_8 ?_
  refine x_last (j9 := 0) dL_line_9 kq (show vp_in 0 (kn Y q) by rw [kn9]; exact vp01) rfl ?_
  refine x_goto (tgt := 21) dL_line_10 (by decide) ?_
  refine x_iconst (v := 0) dL_line_21 rfl ?_
  exact x_iret dL_line_22 rfl rfl rfl
theorem W_line_x0 {G : XG} {Y : XY} (hw : WT Y) {a0 q : Nat} {a1 a2 : Int32} {N : XN} (k0 : kc Y a0 = 17) (kq : kc Y q = 3) (kn9 : kn Y q = 1) {N9 : XN} (h : f_X7_line Y a0 a1 a2 N = some (.inr IOB, N9)) : ClW G yL_line cL_line 5 (some .int) [(0, 10, 13, 22), (0, 10, 17, 13)] (xR 8 1 6) [.ref a0, .int a1, .int a2, .ref q] (.inl (some (.int 1))) Y N Y N9 := by
  refine x_entryW (by decide) (Nat.le_of_ble_eq_true rfl) rfl ?_
  refine x_aload_n 3 dL_line_0 rfl rfl ?_
  refine x_iconst (v := 0) dL_line_1 rfl ?_
  refine x_aload_n 0 dL_line_2 rfl rfl ?_
  refine x_iload_n 1 dL_line_3 rfl rfl ?_
  refine x_iload_n 2 dL_line_4 rfl rfl ?_
  refine x_cvX (ci := 7) (b := a0) (As := [.int a1, .int a2]) (rest := [.int 0, .ref q]) (R' := xR 7 1 6) (zz := yX7_line) (E := IOB) (x := ⟨0, 10, 13, 22⟩) [] [⟨0, 10, 17, 13⟩] dL_line_5 ml_L_24 wi_X7_line wv_X7_line wn_X7 wc_X7_line hp_X7_line ⟨Nat.le_of_ble_eq_true rfl, Nat.le_of_ble_eq_true rfl⟩ rfl (Nat.le_of_ble_eq_true rfl) ⟨Nat.le_of_ble_eq_true rfl, Nat.le_of_ble_eq_true rfl⟩ vc_X7 k0 (T_X7_linex (G := G) hw k0 h) rfl (fun z hz => absurd hz List.not_mem_nil) (by decide) (by decide) kl9_L_22 (by decide +kernel) (fun q9 => ?_)
  refine x_astore (L' := []) [] dL_line_13 (by decide) rfl ?_
  refine x_iconst (v := 1) dL_line_15 rfl ?_
  exact x_iret dL_line_16 rfl rfl rfl
theorem W_line_x1 {G : XG} {Y : XY} (hw : WT Y) {a0 q : Nat} {a1 a2 : Int32} {N : XN} (k0 : kc Y a0 = 17) (kq : kc Y q = 3) (kn9 : kn Y q = 1) {N9 : XN} (h : f_X7_line Y a0 a1 a2 N = some (.inr IAE, N9)) : ClW G yL_line cL_line 5 (some .int) [(0, 10, 13, 22), (0, 10, 17, 13)] (xR 8 1 6) [.ref a0, .int a1, .int a2, .ref q] (.inl (some (.int 2))) Y N Y N9 := by
  refine x_entryW (by decide) (Nat.le_of_ble_eq_true rfl) rfl ?_
  refine x_aload_n 3 dL_line_0 rfl rfl ?_
  refine x_iconst (v := 0) dL_line_1 rfl ?_
  refine x_aload_n 0 dL_line_2 rfl rfl ?_
  refine x_iload_n 1 dL_line_3 rfl rfl ?_
  refine x_iload_n 2 dL_line_4 rfl rfl ?_
  refine x_cvX (ci := 7) (b := a0) (As := [.int a1, .int a2]) (rest := [.int 0, .ref q]) (R' := xR 7 1 6) (zz := yX7_line) (E := IAE) (x := ⟨0, 10, 17, 13⟩) [⟨0, 10, 13, 22⟩] [] dL_line_5 ml_L_24 wi_X7_line wv_X7_line wn_X7 wc_X7_line hp_X7_line ⟨Nat.le_of_ble_eq_true rfl, Nat.le_of_ble_eq_true rfl⟩ rfl (Nat.le_of_ble_eq_true rfl) ⟨Nat.le_of_ble_eq_true rfl, Nat.le_of_ble_eq_true rfl⟩ vc_X7 k0 (T_X7_linex (G := G) hw k0 h) rfl (fun z hz => by
    simp only [List.mem_cons, List.not_mem_nil, or_false] at hz
    rcases hz with rfl
    · exact Or.inr ⟨by decide, _, kl9_L_22, by decide +kernel⟩) (by decide) (by decide) kl9_L_13 (by decide +kernel) (fun q9 => ?_)
  refine x_astore (L' := []) [] dL_line_17 (by decide) rfl ?_
  refine x_iconst (v := 2) dL_line_19 rfl ?_
  exact x_iret dL_line_20 rfl rfl rfl
theorem W_tenant {G : XG} {Y : XY} (hw : WT Y) {a0 q : Nat} {a1 a2 : Int32} {N : XN} (k0 : kc Y a0 = 17) (kq : kc Y q = 3) (kn9 : kn Y q = 1) {r9 : Int32} {N9 : XN} (h : f_X7_tenant Y a0 a1 a2 N = some (.inl r9, N9)) : ClW G yL_tenant cL_tenant 5 (some .int) [(0, 10, 13, 22), (0, 10, 17, 30)] (xR 8 0 0) [.ref a0, .int a1, .int a2, .ref q] (.inl (some (.int 0))) Y N Y (sl N9 q 0 r9.toInt64) := by
  refine x_entryW (by decide) (Nat.le_of_ble_eq_true rfl) rfl ?_
  refine x_aload_n 3 dL_tenant_0 rfl rfl ?_
  refine x_iconst (v := 0) dL_tenant_1 rfl ?_
  refine x_aload_n 0 dL_tenant_2 rfl rfl ?_
  refine x_iload_n 1 dL_tenant_3 rfl rfl ?_
  refine x_iload_n 2 dL_tenant_4 rfl rfl ?_
  refine x_cv (ci := 7) (b := a0) (As := [.int a1, .int a2]) (rest := [.int 0, .ref q]) (d' := 7) (zz := yX7_tenant) dL_tenant_5 ml_L_27 wi_X7_tenant wv_X7_tenant wn_X7 wc_X7_tenant hp_X7_tenant (by decide) (by decide) rfl (Nat.le_of_ble_eq_true rfl) ⟨Nat.zero_le _, Nat.zero_le _⟩ vc_X7 k0 (T_X7_tenant (G := G) hw k0 h) ?_
  refine x_i2l dL_tenant_8 ?_
  refine x_last (j9 := 0) dL_tenant_9 kq (show vp_in 0 (kn Y q) by rw [kn9]; exact vp01) rfl ?_
  refine x_goto (tgt := 21) dL_tenant_10 (by decide) ?_
  refine x_iconst (v := 0) dL_tenant_21 rfl ?_
  exact x_iret dL_tenant_22 rfl rfl rfl
theorem W_tenant_x0 {G : XG} {Y : XY} (hw : WT Y) {a0 q : Nat} {a1 a2 : Int32} {N : XN} (k0 : kc Y a0 = 17) (kq : kc Y q = 3) (kn9 : kn Y q = 1) {N9 : XN} (h : f_X7_tenant Y a0 a1 a2 N = some (.inr IOB, N9)) : ClW G yL_tenant cL_tenant 5 (some .int) [(0, 10, 13, 22), (0, 10, 17, 30)] (xR 8 1 6) [.ref a0, .int a1, .int a2, .ref q] (.inl (some (.int 1))) Y N Y N9 := by
  refine x_entryW (by decide) (Nat.le_of_ble_eq_true rfl) rfl ?_
  refine x_aload_n 3 dL_tenant_0 rfl rfl ?_
  refine x_iconst (v := 0) dL_tenant_1 rfl ?_
  refine x_aload_n 0 dL_tenant_2 rfl rfl ?_
  refine x_iload_n 1 dL_tenant_3 rfl rfl ?_
  refine x_iload_n 2 dL_tenant_4 rfl rfl ?_
  refine x_cvX (ci := 7) (b := a0) (As := [.int a1, .int a2]) (rest := [.int 0, .ref q]) (R' := xR 7 1 6) (zz := yX7_tenant) (E := IOB) (x := ⟨0, 10, 13, 22⟩) [] [⟨0, 10, 17, 30⟩] dL_tenant_5 ml_L_27 wi_X7_tenant wv_X7_tenant wn_X7 wc_X7_tenant hp_X7_tenant ⟨Nat.le_of_ble_eq_true rfl, Nat.le_of_ble_eq_true rfl⟩ rfl (Nat.le_of_ble_eq_true rfl) ⟨Nat.le_of_ble_eq_true rfl, Nat.le_of_ble_eq_true rfl⟩ vc_X7 k0 (T_X7_tenantx (G := G) hw k0 h) rfl (fun z hz => absurd hz List.not_mem_nil) (by decide) (by decide) kl9_L_22 (by decide +kernel) (fun q9 => ?_)
  refine x_astore (L' := []) [] dL_tenant_13 (by decide) rfl ?_
  refine x_iconst (v := 1) dL_tenant_15 rfl ?_
  exact x_iret dL_tenant_16 rfl rfl rfl
theorem W_tenant_x1 {G : XG} {Y : XY} (hw : WT Y) {a0 q : Nat} {a1 a2 : Int32} {N : XN} (k0 : kc Y a0 = 17) (kq : kc Y q = 3) (kn9 : kn Y q = 1) {N9 : XN} (h : f_X7_tenant Y a0 a1 a2 N = some (.inr NSE, N9)) : ClW G yL_tenant cL_tenant 5 (some .int) [(0, 10, 13, 22), (0, 10, 17, 30)] (xR 8 1 6) [.ref a0, .int a1, .int a2, .ref q] (.inl (some (.int 2))) Y N Y N9 := by
  refine x_entryW (by decide) (Nat.le_of_ble_eq_true rfl) rfl ?_
  refine x_aload_n 3 dL_tenant_0 rfl rfl ?_
  refine x_iconst (v := 0) dL_tenant_1 rfl ?_
  refine x_aload_n 0 dL_tenant_2 rfl rfl ?_
  refine x_iload_n 1 dL_tenant_3 rfl rfl ?_
  refine x_iload_n 2 dL_tenant_4 rfl rfl ?_
  refine x_cvX (ci := 7) (b := a0) (As := [.int a1, .int a2]) (rest := [.int 0, .ref q]) (R' := xR 7 1 6) (zz := yX7_tenant) (E := NSE) (x := ⟨0, 10, 17, 30⟩) [⟨0, 10, 13, 22⟩] [] dL_tenant_5 ml_L_27 wi_X7_tenant wv_X7_tenant wn_X7 wc_X7_tenant hp_X7_tenant ⟨Nat.le_of_ble_eq_true rfl, Nat.le_of_ble_eq_true rfl⟩ rfl (Nat.le_of_ble_eq_true rfl) ⟨Nat.le_of_ble_eq_true rfl, Nat.le_of_ble_eq_true rfl⟩ vc_X7 k0 (T_X7_tenantx (G := G) hw k0 h) rfl (fun z hz => by
    simp only [List.mem_cons, List.not_mem_nil, or_false] at hz
    rcases hz with rfl
    · exact Or.inr ⟨by decide, _, kl9_L_22, by decide +kernel⟩) (by decide) (by decide) kl9_L_30 (by decide +kernel) (fun q9 => ?_)
  refine x_astore (L' := []) [] dL_tenant_17 (by decide) rfl ?_
  refine x_iconst (v := 2) dL_tenant_19 rfl ?_
  exact x_iret dL_tenant_20 rfl rfl rfl
theorem W_request {G : XG} {Y : XY} (hw : WT Y) {a0 q : Nat} {a1 a2 : Int32} {N : XN} (k0 : kc Y a0 = 17) (kq : kc Y q = 3) (kn9 : kn Y q = 1) {r9 : Int32} {N9 : XN} (h : f_X7_request Y a0 a1 a2 N = some (.inl r9, N9)) : ClW G yL_request cL_request 5 (some .int) [(0, 10, 13, 22), (0, 10, 17, 13)] (xR 8 0 0) [.ref a0, .int a1, .int a2, .ref q] (.inl (some (.int 0))) Y N Y (sl N9 q 0 r9.toInt64) := by
  refine x_entryW (by decide) (Nat.le_of_ble_eq_true rfl) rfl ?_
  refine x_aload_n 3 dL_request_0 rfl rfl ?_
  refine x_iconst (v := 0) dL_request_1 rfl ?_
  refine x_aload_n 0 dL_request_2 rfl rfl ?_
  refine x_iload_n 1 dL_request_3 rfl rfl ?_
  refine x_iload_n 2 dL_request_4 rfl rfl ?_
  refine x_cv (ci := 7) (b := a0) (As := [.int a1, .int a2]) (rest := [.int 0, .ref q]) (d' := 7) (zz := yX7_request) dL_request_5 ml_L_32 wi_X7_request wv_X7_request wn_X7 wc_X7_request hp_X7_request (by decide) (by decide) rfl (Nat.le_of_ble_eq_true rfl) ⟨Nat.zero_le _, Nat.zero_le _⟩ vc_X7 k0 (T_X7_request (G := G) hw k0 h) ?_
  refine x_i2l dL_request_8 ?_
  refine x_last (j9 := 0) dL_request_9 kq (show vp_in 0 (kn Y q) by rw [kn9]; exact vp01) rfl ?_
  refine x_goto (tgt := 21) dL_request_10 (by decide) ?_
  refine x_iconst (v := 0) dL_request_21 rfl ?_
  exact x_iret dL_request_22 rfl rfl rfl
theorem W_request_x0 {G : XG} {Y : XY} (hw : WT Y) {a0 q : Nat} {a1 a2 : Int32} {N : XN} (k0 : kc Y a0 = 17) (kq : kc Y q = 3) (kn9 : kn Y q = 1) {N9 : XN} (h : f_X7_request Y a0 a1 a2 N = some (.inr IOB, N9)) : ClW G yL_request cL_request 5 (some .int) [(0, 10, 13, 22), (0, 10, 17, 13)] (xR 8 1 6) [.ref a0, .int a1, .int a2, .ref q] (.inl (some (.int 1))) Y N Y N9 := by
  refine x_entryW (by decide) (Nat.le_of_ble_eq_true rfl) rfl ?_
  refine x_aload_n 3 dL_request_0 rfl rfl ?_
  refine x_iconst (v := 0) dL_request_1 rfl ?_
  refine x_aload_n 0 dL_request_2 rfl rfl ?_
  refine x_iload_n 1 dL_request_3 rfl rfl ?_
  refine x_iload_n 2 dL_request_4 rfl rfl ?_
  refine x_cvX (ci := 7) (b := a0) (As := [.int a1, .int a2]) (rest := [.int 0, .ref q]) (R' := xR 7 1 6) (zz := yX7_request) (E := IOB) (x := ⟨0, 10, 13, 22⟩) [] [⟨0, 10, 17, 13⟩] dL_request_5 ml_L_32 wi_X7_request wv_X7_request wn_X7 wc_X7_request hp_X7_request ⟨Nat.le_of_ble_eq_true rfl, Nat.le_of_ble_eq_true rfl⟩ rfl (Nat.le_of_ble_eq_true rfl) ⟨Nat.le_of_ble_eq_true rfl, Nat.le_of_ble_eq_true rfl⟩ vc_X7 k0 (T_X7_requestx (G := G) hw k0 h) rfl (fun z hz => absurd hz List.not_mem_nil) (by decide) (by decide) kl9_L_22 (by decide +kernel) (fun q9 => ?_)
  refine x_astore (L' := []) [] dL_request_13 (by decide) rfl ?_
  refine x_iconst (v := 1) dL_request_15 rfl ?_
  exact x_iret dL_request_16 rfl rfl rfl
theorem W_request_x1 {G : XG} {Y : XY} (hw : WT Y) {a0 q : Nat} {a1 a2 : Int32} {N : XN} (k0 : kc Y a0 = 17) (kq : kc Y q = 3) (kn9 : kn Y q = 1) {N9 : XN} (h : f_X7_request Y a0 a1 a2 N = some (.inr IAE, N9)) : ClW G yL_request cL_request 5 (some .int) [(0, 10, 13, 22), (0, 10, 17, 13)] (xR 8 1 6) [.ref a0, .int a1, .int a2, .ref q] (.inl (some (.int 2))) Y N Y N9 := by
  refine x_entryW (by decide) (Nat.le_of_ble_eq_true rfl) rfl ?_
  refine x_aload_n 3 dL_request_0 rfl rfl ?_
  refine x_iconst (v := 0) dL_request_1 rfl ?_
  refine x_aload_n 0 dL_request_2 rfl rfl ?_
  refine x_iload_n 1 dL_request_3 rfl rfl ?_
  refine x_iload_n 2 dL_request_4 rfl rfl ?_
  refine x_cvX (ci := 7) (b := a0) (As := [.int a1, .int a2]) (rest := [.int 0, .ref q]) (R' := xR 7 1 6) (zz := yX7_request) (E := IAE) (x := ⟨0, 10, 17, 13⟩) [⟨0, 10, 13, 22⟩] [] dL_request_5 ml_L_32 wi_X7_request wv_X7_request wn_X7 wc_X7_request hp_X7_request ⟨Nat.le_of_ble_eq_true rfl, Nat.le_of_ble_eq_true rfl⟩ rfl (Nat.le_of_ble_eq_true rfl) ⟨Nat.le_of_ble_eq_true rfl, Nat.le_of_ble_eq_true rfl⟩ vc_X7 k0 (T_X7_requestx (G := G) hw k0 h) rfl (fun z hz => by
    simp only [List.mem_cons, List.not_mem_nil, or_false] at hz
    rcases hz with rfl
    · exact Or.inr ⟨by decide, _, kl9_L_22, by decide +kernel⟩) (by decide) (by decide) kl9_L_13 (by decide +kernel) (fun q9 => ?_)
  refine x_astore (L' := []) [] dL_request_17 (by decide) rfl ?_
  refine x_iconst (v := 2) dL_request_19 rfl ?_
  exact x_iret dL_request_20 rfl rfl rfl
theorem W_calm {G : XG} {Y : XY} (hw : WT Y) {a0 q : Nat} {a1 : Int32} {N : XN} (k0 : kc Y a0 = 17) (kq : kc Y q = 3) (kn9 : kn Y q = 1) {r9 : Int32} {N9 : XN} (h : f_X7_calm Y a0 a1 N = some (.inl r9, N9)) : ClW G yL_calm cL_calm 4 (some .int) [(0, 9, 12, 22)] (xR 8 0 0) [.ref a0, .int a1, .ref q] (.inl (some (.int 0))) Y N Y (sl N9 q 0 r9.toInt64) := by
  refine x_entryW (by decide) (Nat.le_of_ble_eq_true rfl) rfl ?_
  refine x_aload_n 2 dL_calm_0 rfl rfl ?_
  refine x_iconst (v := 0) dL_calm_1 rfl ?_
  refine x_aload_n 0 dL_calm_2 rfl rfl ?_
  refine x_iload_n 1 dL_calm_3 rfl rfl ?_
  refine x_cv (ci := 7) (b := a0) (As := [.int a1]) (rest := [.int 0, .ref q]) (d' := 7) (zz := yX7_calm) dL_calm_4 ml_L_35 wi_X7_calm wv_X7_calm wn_X7 wc_X7_calm hp_X7_calm (by decide) (by decide) rfl (Nat.le_of_ble_eq_true rfl) ⟨Nat.zero_le _, Nat.zero_le _⟩ vc_X7 k0 (T_X7_calm (G := G) hw k0 h) ?_
  refine x_i2l dL_calm_7 ?_
  refine x_last (j9 := 0) dL_calm_8 kq (show vp_in 0 (kn Y q) by rw [kn9]; exact vp01) rfl ?_
  refine x_goto (tgt := 15) dL_calm_9 (by decide) ?_
  refine x_iconst (v := 0) dL_calm_15 rfl ?_
  exact x_iret dL_calm_16 rfl rfl rfl
theorem W_calm_x0 {G : XG} {Y : XY} (hw : WT Y) {a0 q : Nat} {a1 : Int32} {N : XN} (k0 : kc Y a0 = 17) (kq : kc Y q = 3) (kn9 : kn Y q = 1) {N9 : XN} (h : f_X7_calm Y a0 a1 N = some (.inr IOB, N9)) : ClW G yL_calm cL_calm 4 (some .int) [(0, 9, 12, 22)] (xR 8 1 6) [.ref a0, .int a1, .ref q] (.inl (some (.int 1))) Y N Y N9 := by
  refine x_entryW (by decide) (Nat.le_of_ble_eq_true rfl) rfl ?_
  refine x_aload_n 2 dL_calm_0 rfl rfl ?_
  refine x_iconst (v := 0) dL_calm_1 rfl ?_
  refine x_aload_n 0 dL_calm_2 rfl rfl ?_
  refine x_iload_n 1 dL_calm_3 rfl rfl ?_
  refine x_cvX (ci := 7) (b := a0) (As := [.int a1]) (rest := [.int 0, .ref q]) (R' := xR 7 1 6) (zz := yX7_calm) (E := IOB) (x := ⟨0, 9, 12, 22⟩) [] [] dL_calm_4 ml_L_35 wi_X7_calm wv_X7_calm wn_X7 wc_X7_calm hp_X7_calm ⟨Nat.le_of_ble_eq_true rfl, Nat.le_of_ble_eq_true rfl⟩ rfl (Nat.le_of_ble_eq_true rfl) ⟨Nat.le_of_ble_eq_true rfl, Nat.le_of_ble_eq_true rfl⟩ vc_X7 k0 (T_X7_calmx (G := G) hw k0 h) rfl (fun z hz => absurd hz List.not_mem_nil) (by decide) (by decide) kl9_L_22 (by decide +kernel) (fun q9 => ?_)
  refine x_astore_n (L' := []) [] dL_calm_12 rfl (by decide) rfl ?_
  refine x_iconst (v := 1) dL_calm_13 rfl ?_
  exact x_iret dL_calm_14 rfl rfl rfl
theorem W_endsAt {G : XG} {Y : XY} (hw : WT Y) {a0 q : Nat} {a1 : Int32} {N : XN} (k0 : kc Y a0 = 17) (kq : kc Y q = 3) (kn9 : kn Y q = 1) {r9 : Int32} {N9 : XN} (h : f_X7_endsAt Y a0 a1 N = some (.inl r9, N9)) : ClW G yL_endsAt cL_endsAt 4 (some .int) [(0, 9, 12, 22)] (xR 8 0 0) [.ref a0, .int a1, .ref q] (.inl (some (.int 0))) Y N Y (sl N9 q 0 r9.toInt64) := by
  refine x_entryW (by decide) (Nat.le_of_ble_eq_true rfl) rfl ?_
  refine x_aload_n 2 dL_endsAt_0 rfl rfl ?_
  refine x_iconst (v := 0) dL_endsAt_1 rfl ?_
  refine x_aload_n 0 dL_endsAt_2 rfl rfl ?_
  refine x_iload_n 1 dL_endsAt_3 rfl rfl ?_
  refine x_cv (ci := 7) (b := a0) (As := [.int a1]) (rest := [.int 0, .ref q]) (d' := 7) (zz := yX7_endsAt) dL_endsAt_4 ml_L_38 wi_X7_endsAt wv_X7_endsAt wn_X7 wc_X7_endsAt hp_X7_endsAt (by decide) (by decide) rfl (Nat.le_of_ble_eq_true rfl) ⟨Nat.zero_le _, Nat.zero_le _⟩ vc_X7 k0 (T_X7_endsAt (G := G) hw k0 h) ?_
  refine x_i2l dL_endsAt_7 ?_
  refine x_last (j9 := 0) dL_endsAt_8 kq (show vp_in 0 (kn Y q) by rw [kn9]; exact vp01) rfl ?_
  refine x_goto (tgt := 15) dL_endsAt_9 (by decide) ?_
  refine x_iconst (v := 0) dL_endsAt_15 rfl ?_
  exact x_iret dL_endsAt_16 rfl rfl rfl
theorem W_endsAt_x0 {G : XG} {Y : XY} (hw : WT Y) {a0 q : Nat} {a1 : Int32} {N : XN} (k0 : kc Y a0 = 17) (kq : kc Y q = 3) (kn9 : kn Y q = 1) {N9 : XN} (h : f_X7_endsAt Y a0 a1 N = some (.inr IOB, N9)) : ClW G yL_endsAt cL_endsAt 4 (some .int) [(0, 9, 12, 22)] (xR 8 1 6) [.ref a0, .int a1, .ref q] (.inl (some (.int 1))) Y N Y N9 := by
  refine x_entryW (by decide) (Nat.le_of_ble_eq_true rfl) rfl ?_
  refine x_aload_n 2 dL_endsAt_0 rfl rfl ?_
  refine x_iconst (v := 0) dL_endsAt_1 rfl ?_
  refine x_aload_n 0 dL_endsAt_2 rfl rfl ?_
  refine x_iload_n 1 dL_endsAt_3 rfl rfl ?_
  refine x_cvX (ci := 7) (b := a0) (As := [.int a1]) (rest := [.int 0, .ref q]) (R' := xR 7 1 6) (zz := yX7_endsAt) (E := IOB) (x := ⟨0, 9, 12, 22⟩) [] [] dL_endsAt_4 ml_L_38 wi_X7_endsAt wv_X7_endsAt wn_X7 wc_X7_endsAt hp_X7_endsAt ⟨Nat.le_of_ble_eq_true rfl, Nat.le_of_ble_eq_true rfl⟩ rfl (Nat.le_of_ble_eq_true rfl) ⟨Nat.le_of_ble_eq_true rfl, Nat.le_of_ble_eq_true rfl⟩ vc_X7 k0 (T_X7_endsAtx (G := G) hw k0 h) rfl (fun z hz => absurd hz List.not_mem_nil) (by decide) (by decide) kl9_L_22 (by decide +kernel) (fun q9 => ?_)
  refine x_astore_n (L' := []) [] dL_endsAt_12 rfl (by decide) rfl ?_
  refine x_iconst (v := 1) dL_endsAt_13 rfl ?_
  exact x_iret dL_endsAt_14 rfl rfl rfl
theorem W_bankruptIn {G : XG} {Y : XY} (hw : WT Y) {a0 q : Nat} {a1 : Int32} {N : XN} (k0 : kc Y a0 = 17) (kq : kc Y q = 3) (kn9 : kn Y q = 1) {r9 : Int32} {N9 : XN} (h : f_X7_bankruptIn Y a0 a1 N = some (.inl r9, N9)) : ClW G yL_bankruptIn cL_bankruptIn 4 (some .int) [(0, 9, 12, 22)] (xR 8 0 0) [.ref a0, .int a1, .ref q] (.inl (some (.int 0))) Y N Y (sl N9 q 0 r9.toInt64) := by
  refine x_entryW (by decide) (Nat.le_of_ble_eq_true rfl) rfl ?_
  refine x_aload_n 2 dL_bankruptIn_0 rfl rfl ?_
  refine x_iconst (v := 0) dL_bankruptIn_1 rfl ?_
  refine x_aload_n 0 dL_bankruptIn_2 rfl rfl ?_
  refine x_iload_n 1 dL_bankruptIn_3 rfl rfl ?_
  refine x_cv (ci := 7) (b := a0) (As := [.int a1]) (rest := [.int 0, .ref q]) (d' := 7) (zz := yX7_bankruptIn) dL_bankruptIn_4 ml_L_41 wi_X7_bankruptIn wv_X7_bankruptIn wn_X7 wc_X7_bankruptIn hp_X7_bankruptIn (by decide) (by decide) rfl (Nat.le_of_ble_eq_true rfl) ⟨Nat.zero_le _, Nat.zero_le _⟩ vc_X7 k0 (T_X7_bankruptIn (G := G) hw k0 h) ?_
  refine x_i2l dL_bankruptIn_7 ?_
  refine x_last (j9 := 0) dL_bankruptIn_8 kq (show vp_in 0 (kn Y q) by rw [kn9]; exact vp01) rfl ?_
  refine x_goto (tgt := 15) dL_bankruptIn_9 (by decide) ?_
  refine x_iconst (v := 0) dL_bankruptIn_15 rfl ?_
  exact x_iret dL_bankruptIn_16 rfl rfl rfl
theorem W_bankruptIn_x0 {G : XG} {Y : XY} (hw : WT Y) {a0 q : Nat} {a1 : Int32} {N : XN} (k0 : kc Y a0 = 17) (kq : kc Y q = 3) (kn9 : kn Y q = 1) {N9 : XN} (h : f_X7_bankruptIn Y a0 a1 N = some (.inr IOB, N9)) : ClW G yL_bankruptIn cL_bankruptIn 4 (some .int) [(0, 9, 12, 22)] (xR 8 1 6) [.ref a0, .int a1, .ref q] (.inl (some (.int 1))) Y N Y N9 := by
  refine x_entryW (by decide) (Nat.le_of_ble_eq_true rfl) rfl ?_
  refine x_aload_n 2 dL_bankruptIn_0 rfl rfl ?_
  refine x_iconst (v := 0) dL_bankruptIn_1 rfl ?_
  refine x_aload_n 0 dL_bankruptIn_2 rfl rfl ?_
  refine x_iload_n 1 dL_bankruptIn_3 rfl rfl ?_
  refine x_cvX (ci := 7) (b := a0) (As := [.int a1]) (rest := [.int 0, .ref q]) (R' := xR 7 1 6) (zz := yX7_bankruptIn) (E := IOB) (x := ⟨0, 9, 12, 22⟩) [] [] dL_bankruptIn_4 ml_L_41 wi_X7_bankruptIn wv_X7_bankruptIn wn_X7 wc_X7_bankruptIn hp_X7_bankruptIn ⟨Nat.le_of_ble_eq_true rfl, Nat.le_of_ble_eq_true rfl⟩ rfl (Nat.le_of_ble_eq_true rfl) ⟨Nat.le_of_ble_eq_true rfl, Nat.le_of_ble_eq_true rfl⟩ vc_X7 k0 (T_X7_bankruptInx (G := G) hw k0 h) rfl (fun z hz => absurd hz List.not_mem_nil) (by decide) (by decide) kl9_L_22 (by decide +kernel) (fun q9 => ?_)
  refine x_astore_n (L' := []) [] dL_bankruptIn_12 rfl (by decide) rfl ?_
  refine x_iconst (v := 1) dL_bankruptIn_13 rfl ?_
  exact x_iret dL_bankruptIn_14 rfl rfl rfl
theorem W_finesIn {G : XG} {Y : XY} (hw : WT Y) {a0 q : Nat} {a1 : Int32} {N : XN} (k0 : kc Y a0 = 17) (kq : kc Y q = 3) (kn9 : kn Y q = 1) {r9 : Int32} {N9 : XN} (h : f_X7_finesIn Y a0 a1 N = some (.inl r9, N9)) : ClW G yL_finesIn cL_finesIn 4 (some .int) [(0, 9, 12, 13)] (xR 9 0 0) [.ref a0, .int a1, .ref q] (.inl (some (.int 0))) Y N Y (sl N9 q 0 r9.toInt64) := by
  refine x_entryW (by decide) (Nat.le_of_ble_eq_true rfl) rfl ?_
  refine x_aload_n 2 dL_finesIn_0 rfl rfl ?_
  refine x_iconst (v := 0) dL_finesIn_1 rfl ?_
  refine x_aload_n 0 dL_finesIn_2 rfl rfl ?_
  refine x_iload_n 1 dL_finesIn_3 rfl rfl ?_
  refine x_cv (ci := 7) (b := a0) (As := [.int a1]) (rest := [.int 0, .ref q]) (d' := 8) (zz := yX7_finesIn) dL_finesIn_4 ml_L_44 wi_X7_finesIn wv_X7_finesIn wn_X7 wc_X7_finesIn hp_X7_finesIn (by decide) (by decide) rfl (Nat.le_of_ble_eq_true rfl) ⟨Nat.zero_le _, Nat.zero_le _⟩ vc_X7 k0 (T_X7_finesIn (G := G) hw k0 h) ?_
  refine x_i2l dL_finesIn_7 ?_
  refine x_last (j9 := 0) dL_finesIn_8 kq (show vp_in 0 (kn Y q) by rw [kn9]; exact vp01) rfl ?_
  refine x_goto (tgt := 15) dL_finesIn_9 (by decide) ?_
  refine x_iconst (v := 0) dL_finesIn_15 rfl ?_
  exact x_iret dL_finesIn_16 rfl rfl rfl
theorem W_finesIn_x0 {G : XG} {Y : XY} (hw : WT Y) {a0 q : Nat} {a1 : Int32} {N : XN} (k0 : kc Y a0 = 17) (kq : kc Y q = 3) (kn9 : kn Y q = 1) {N9 : XN} (h : f_X7_finesIn Y a0 a1 N = some (.inr IAE, N9)) : ClW G yL_finesIn cL_finesIn 4 (some .int) [(0, 9, 12, 13)] (xR 9 1 6) [.ref a0, .int a1, .ref q] (.inl (some (.int 1))) Y N Y N9 := by
  refine x_entryW (by decide) (Nat.le_of_ble_eq_true rfl) rfl ?_
  refine x_aload_n 2 dL_finesIn_0 rfl rfl ?_
  refine x_iconst (v := 0) dL_finesIn_1 rfl ?_
  refine x_aload_n 0 dL_finesIn_2 rfl rfl ?_
  refine x_iload_n 1 dL_finesIn_3 rfl rfl ?_
  refine x_cvX (ci := 7) (b := a0) (As := [.int a1]) (rest := [.int 0, .ref q]) (R' := xR 8 1 6) (zz := yX7_finesIn) (E := IAE) (x := ⟨0, 9, 12, 13⟩) [] [] dL_finesIn_4 ml_L_44 wi_X7_finesIn wv_X7_finesIn wn_X7 wc_X7_finesIn hp_X7_finesIn ⟨Nat.le_of_ble_eq_true rfl, Nat.le_of_ble_eq_true rfl⟩ rfl (Nat.le_of_ble_eq_true rfl) ⟨Nat.le_of_ble_eq_true rfl, Nat.le_of_ble_eq_true rfl⟩ vc_X7 k0 (T_X7_finesInx (G := G) hw k0 h) rfl (fun z hz => absurd hz List.not_mem_nil) (by decide) (by decide) kl9_L_13 (by decide +kernel) (fun q9 => ?_)
  refine x_astore_n (L' := []) [] dL_finesIn_12 rfl (by decide) rfl ?_
  refine x_iconst (v := 1) dL_finesIn_13 rfl ?_
  exact x_iret dL_finesIn_14 rfl rfl rfl
theorem W_advise {G : XG} {Y : XY} (hw : WT Y) {a0 q : Nat} {a1 : Int32} {N : XN} (k0 : kc Y a0 = 17) (kq : kc Y q = 3) (kn9 : kn Y q = 1) {r9 : Int32} {N9 : XN} (h : f_X7_advise Y a0 a1 N = some (.inl r9, N9)) : ClW G yL_advise cL_advise 4 (some .int) [(0, 9, 12, 22)] (xR 9 0 0) [.ref a0, .int a1, .ref q] (.inl (some (.int 0))) Y N Y (sl N9 q 0 r9.toInt64) := by
  refine x_entryW (by decide) (Nat.le_of_ble_eq_true rfl) rfl ?_
  refine x_aload_n 2 dL_advise_0 rfl rfl ?_
  refine x_iconst (v := 0) dL_advise_1 rfl ?_
  refine x_aload_n 0 dL_advise_2 rfl rfl ?_
  refine x_iload_n 1 dL_advise_3 rfl rfl ?_
  refine x_cv (ci := 7) (b := a0) (As := [.int a1]) (rest := [.int 0, .ref q]) (d' := 8) (zz := yX7_advise) dL_advise_4 ml_L_47 wi_X7_advise wv_X7_advise wn_X7 wc_X7_advise hp_X7_advise (by decide) (by decide) rfl (Nat.le_of_ble_eq_true rfl) ⟨Nat.zero_le _, Nat.zero_le _⟩ vc_X7 k0 (T_X7_advise (G := G) hw k0 h) ?_
  refine x_i2l dL_advise_7 ?_
  refine x_last (j9 := 0) dL_advise_8 kq (show vp_in 0 (kn Y q) by rw [kn9]; exact vp01) rfl ?_
  refine x_goto (tgt := 15) dL_advise_9 (by decide) ?_
  refine x_iconst (v := 0) dL_advise_15 rfl ?_
  exact x_iret dL_advise_16 rfl rfl rfl
theorem W_advise_x0 {G : XG} {Y : XY} (hw : WT Y) {a0 q : Nat} {a1 : Int32} {N : XN} (k0 : kc Y a0 = 17) (kq : kc Y q = 3) (kn9 : kn Y q = 1) {N9 : XN} (h : f_X7_advise Y a0 a1 N = some (.inr IOB, N9)) : ClW G yL_advise cL_advise 4 (some .int) [(0, 9, 12, 22)] (xR 9 1 6) [.ref a0, .int a1, .ref q] (.inl (some (.int 1))) Y N Y N9 := by
  refine x_entryW (by decide) (Nat.le_of_ble_eq_true rfl) rfl ?_
  refine x_aload_n 2 dL_advise_0 rfl rfl ?_
  refine x_iconst (v := 0) dL_advise_1 rfl ?_
  refine x_aload_n 0 dL_advise_2 rfl rfl ?_
  refine x_iload_n 1 dL_advise_3 rfl rfl ?_
  refine x_cvX (ci := 7) (b := a0) (As := [.int a1]) (rest := [.int 0, .ref q]) (R' := xR 8 1 6) (zz := yX7_advise) (E := IOB) (x := ⟨0, 9, 12, 22⟩) [] [] dL_advise_4 ml_L_47 wi_X7_advise wv_X7_advise wn_X7 wc_X7_advise hp_X7_advise ⟨Nat.le_of_ble_eq_true rfl, Nat.le_of_ble_eq_true rfl⟩ rfl (Nat.le_of_ble_eq_true rfl) ⟨Nat.le_of_ble_eq_true rfl, Nat.le_of_ble_eq_true rfl⟩ vc_X7 k0 (T_X7_advisex (G := G) hw k0 h) rfl (fun z hz => absurd hz List.not_mem_nil) (by decide) (by decide) kl9_L_22 (by decide +kernel) (fun q9 => ?_)
  refine x_astore_n (L' := []) [] dL_advise_12 rfl (by decide) rfl ?_
  refine x_iconst (v := 1) dL_advise_13 rfl ?_
  exact x_iret dL_advise_14 rfl rfl rfl
theorem W_pass {G : XG} {Y : XY} (hw : WT Y) {a0 q : Nat} {a1 : Int32} {N : XN} (k0 : kc Y a0 = 17) (kq : kc Y q = 3) (kn9 : kn Y q = 1) {r9 : Int32} {N9 : XN} (h : f_X7_pass Y a0 a1 N = some (.inl r9, N9)) : ClW G yL_pass cL_pass 4 (some .int) [(0, 9, 12, 13)] (xR 8 0 0) [.ref a0, .int a1, .ref q] (.inl (some (.int 0))) Y N Y (sl N9 q 0 r9.toInt64) := by
  refine x_entryW (by decide) (Nat.le_of_ble_eq_true rfl) rfl ?_
  refine x_aload_n 2 dL_pass_0 rfl rfl ?_
  refine x_iconst (v := 0) dL_pass_1 rfl ?_
  refine x_aload_n 0 dL_pass_2 rfl rfl ?_
  refine x_iload_n 1 dL_pass_3 rfl rfl ?_
  refine x_cv (ci := 7) (b := a0) (As := [.int a1]) (rest := [.int 0, .ref q]) (d' := 7) (zz := yX7_pass) dL_pass_4 ml_L_50 wi_X7_pass wv_X7_pass wn_X7 wc_X7_pass hp_X7_pass (by decide) (by decide) rfl (Nat.le_of_ble_eq_true rfl) ⟨Nat.zero_le _, Nat.zero_le _⟩ vc_X7 k0 (T_X7_pass (G := G) hw k0 h) ?_
  refine x_i2l dL_pass_7 ?_
  refine x_last (j9 := 0) dL_pass_8 kq (show vp_in 0 (kn Y q) by rw [kn9]; exact vp01) rfl ?_
  refine x_goto (tgt := 15) dL_pass_9 (by decide) ?_
  refine x_iconst (v := 0) dL_pass_15 rfl ?_
  exact x_iret dL_pass_16 rfl rfl rfl
theorem W_pass_x0 {G : XG} {Y : XY} (hw : WT Y) {a0 q : Nat} {a1 : Int32} {N : XN} (k0 : kc Y a0 = 17) (kq : kc Y q = 3) (kn9 : kn Y q = 1) {N9 : XN} (h : f_X7_pass Y a0 a1 N = some (.inr IAE, N9)) : ClW G yL_pass cL_pass 4 (some .int) [(0, 9, 12, 13)] (xR 8 1 6) [.ref a0, .int a1, .ref q] (.inl (some (.int 1))) Y N Y N9 := by
  refine x_entryW (by decide) (Nat.le_of_ble_eq_true rfl) rfl ?_
  refine x_aload_n 2 dL_pass_0 rfl rfl ?_
  refine x_iconst (v := 0) dL_pass_1 rfl ?_
  refine x_aload_n 0 dL_pass_2 rfl rfl ?_
  refine x_iload_n 1 dL_pass_3 rfl rfl ?_
  refine x_cvX (ci := 7) (b := a0) (As := [.int a1]) (rest := [.int 0, .ref q]) (R' := xR 7 1 6) (zz := yX7_pass) (E := IAE) (x := ⟨0, 9, 12, 13⟩) [] [] dL_pass_4 ml_L_50 wi_X7_pass wv_X7_pass wn_X7 wc_X7_pass hp_X7_pass ⟨Nat.le_of_ble_eq_true rfl, Nat.le_of_ble_eq_true rfl⟩ rfl (Nat.le_of_ble_eq_true rfl) ⟨Nat.le_of_ble_eq_true rfl, Nat.le_of_ble_eq_true rfl⟩ vc_X7 k0 (T_X7_passx (G := G) hw k0 h) rfl (fun z hz => absurd hz List.not_mem_nil) (by decide) (by decide) kl9_L_13 (by decide +kernel) (fun q9 => ?_)
  refine x_astore_n (L' := []) [] dL_pass_12 rfl (by decide) rfl ?_
  refine x_iconst (v := 1) dL_pass_13 rfl ?_
  exact x_iret dL_pass_14 rfl rfl rfl
theorem W_raise {G : XG} {Y : XY} (hw : WT Y) {a0 q : Nat} {a1 a2 : Int32} {N : XN} (k0 : kc Y a0 = 17) (kq : kc Y q = 3) (kn9 : kn Y q = 1) {r9 : Int32} {N9 : XN} (h : f_X7_raise Y a0 a1 a2 N = some (.inl r9, N9)) : ClW G yL_raise cL_raise 5 (some .int) [(0, 10, 13, 22), (0, 10, 17, 13), (0, 10, 21, 56)] (xR 8 0 0) [.ref a0, .int a1, .int a2, .ref q] (.inl (some (.int 0))) Y N Y (sl N9 q 0 r9.toInt64) := by
  refine x_entryW (by decide) (Nat.le_of_ble_eq_true rfl) rfl ?_
  refine x_aload_n 3 dL_raise_0 rfl rfl ?_
  refine x_iconst (v := 0) dL_raise_1 rfl ?_
  refine x_aload_n 0 dL_raise_2 rfl rfl ?_
  refine x_iload_n 1 dL_raise_3 rfl rfl ?_
  refine x_iload_n 2 dL_raise_4 rfl rfl ?_
  refine x_cv (ci := 7) (b := a0) (As := [.int a1, .int a2]) (rest := [.int 0, .ref q]) (d' := 7) (zz := yX7_raise) dL_raise_5 ml_L_53 wi_X7_raise wv_X7_raise wn_X7 wc_X7_raise hp_X7_raise (by decide) (by decide) rfl (Nat.le_of_ble_eq_true rfl) ⟨Nat.zero_le _, Nat.zero_le _⟩ vc_X7 k0 (T_X7_raise (G := G) hw k0 h) ?_
  refine x_i2l dL_raise_8 ?_
  refine x_last (j9 := 0) dL_raise_9 kq (show vp_in 0 (kn Y q) by rw [kn9]; exact vp01) rfl ?_
  refine x_goto (tgt := 25) dL_raise_10 (by decide) ?_
  refine x_iconst (v := 0) dL_raise_25 rfl ?_
  exact x_iret dL_raise_26 rfl rfl rfl
theorem W_raise_x0 {G : XG} {Y : XY} (hw : WT Y) {a0 q : Nat} {a1 a2 : Int32} {N : XN} (k0 : kc Y a0 = 17) (kq : kc Y q = 3) (kn9 : kn Y q = 1) {N9 : XN} (h : f_X7_raise Y a0 a1 a2 N = some (.inr IOB, N9)) : ClW G yL_raise cL_raise 5 (some .int) [(0, 10, 13, 22), (0, 10, 17, 13), (0, 10, 21, 56)] (xR 8 1 6) [.ref a0, .int a1, .int a2, .ref q] (.inl (some (.int 1))) Y N Y N9 := by
  refine x_entryW (by decide) (Nat.le_of_ble_eq_true rfl) rfl ?_
  refine x_aload_n 3 dL_raise_0 rfl rfl ?_
  refine x_iconst (v := 0) dL_raise_1 rfl ?_
  refine x_aload_n 0 dL_raise_2 rfl rfl ?_
  refine x_iload_n 1 dL_raise_3 rfl rfl ?_
  refine x_iload_n 2 dL_raise_4 rfl rfl ?_
  refine x_cvX (ci := 7) (b := a0) (As := [.int a1, .int a2]) (rest := [.int 0, .ref q]) (R' := xR 7 1 6) (zz := yX7_raise) (E := IOB) (x := ⟨0, 10, 13, 22⟩) [] [⟨0, 10, 17, 13⟩, ⟨0, 10, 21, 56⟩] dL_raise_5 ml_L_53 wi_X7_raise wv_X7_raise wn_X7 wc_X7_raise hp_X7_raise ⟨Nat.le_of_ble_eq_true rfl, Nat.le_of_ble_eq_true rfl⟩ rfl (Nat.le_of_ble_eq_true rfl) ⟨Nat.le_of_ble_eq_true rfl, Nat.le_of_ble_eq_true rfl⟩ vc_X7 k0 (T_X7_raisex (G := G) hw k0 h) rfl (fun z hz => absurd hz List.not_mem_nil) (by decide) (by decide) kl9_L_22 (by decide +kernel) (fun q9 => ?_)
  refine x_astore (L' := []) [] dL_raise_13 (by decide) rfl ?_
  refine x_iconst (v := 1) dL_raise_15 rfl ?_
  exact x_iret dL_raise_16 rfl rfl rfl
theorem W_raise_x1 {G : XG} {Y : XY} (hw : WT Y) {a0 q : Nat} {a1 a2 : Int32} {N : XN} (k0 : kc Y a0 = 17) (kq : kc Y q = 3) (kn9 : kn Y q = 1) {N9 : XN} (h : f_X7_raise Y a0 a1 a2 N = some (.inr IAE, N9)) : ClW G yL_raise cL_raise 5 (some .int) [(0, 10, 13, 22), (0, 10, 17, 13), (0, 10, 21, 56)] (xR 8 1 6) [.ref a0, .int a1, .int a2, .ref q] (.inl (some (.int 2))) Y N Y N9 := by
  refine x_entryW (by decide) (Nat.le_of_ble_eq_true rfl) rfl ?_
  refine x_aload_n 3 dL_raise_0 rfl rfl ?_
  refine x_iconst (v := 0) dL_raise_1 rfl ?_
  refine x_aload_n 0 dL_raise_2 rfl rfl ?_
  refine x_iload_n 1 dL_raise_3 rfl rfl ?_
  refine x_iload_n 2 dL_raise_4 rfl rfl ?_
  refine x_cvX (ci := 7) (b := a0) (As := [.int a1, .int a2]) (rest := [.int 0, .ref q]) (R' := xR 7 1 6) (zz := yX7_raise) (E := IAE) (x := ⟨0, 10, 17, 13⟩) [⟨0, 10, 13, 22⟩] [⟨0, 10, 21, 56⟩] dL_raise_5 ml_L_53 wi_X7_raise wv_X7_raise wn_X7 wc_X7_raise hp_X7_raise ⟨Nat.le_of_ble_eq_true rfl, Nat.le_of_ble_eq_true rfl⟩ rfl (Nat.le_of_ble_eq_true rfl) ⟨Nat.le_of_ble_eq_true rfl, Nat.le_of_ble_eq_true rfl⟩ vc_X7 k0 (T_X7_raisex (G := G) hw k0 h) rfl (fun z hz => by
    simp only [List.mem_cons, List.not_mem_nil, or_false] at hz
    rcases hz with rfl
    · exact Or.inr ⟨by decide, _, kl9_L_22, by decide +kernel⟩) (by decide) (by decide) kl9_L_13 (by decide +kernel) (fun q9 => ?_)
  refine x_astore (L' := []) [] dL_raise_17 (by decide) rfl ?_
  refine x_iconst (v := 2) dL_raise_19 rfl ?_
  exact x_iret dL_raise_20 rfl rfl rfl
theorem W_raise_x2 {G : XG} {Y : XY} (hw : WT Y) {a0 q : Nat} {a1 a2 : Int32} {N : XN} (k0 : kc Y a0 = 17) (kq : kc Y q = 3) (kn9 : kn Y q = 1) {N9 : XN} (h : f_X7_raise Y a0 a1 a2 N = some (.inr ISE, N9)) : ClW G yL_raise cL_raise 5 (some .int) [(0, 10, 13, 22), (0, 10, 17, 13), (0, 10, 21, 56)] (xR 8 1 6) [.ref a0, .int a1, .int a2, .ref q] (.inl (some (.int 3))) Y N Y N9 := by
  refine x_entryW (by decide) (Nat.le_of_ble_eq_true rfl) rfl ?_
  refine x_aload_n 3 dL_raise_0 rfl rfl ?_
  refine x_iconst (v := 0) dL_raise_1 rfl ?_
  refine x_aload_n 0 dL_raise_2 rfl rfl ?_
  refine x_iload_n 1 dL_raise_3 rfl rfl ?_
  refine x_iload_n 2 dL_raise_4 rfl rfl ?_
  refine x_cvX (ci := 7) (b := a0) (As := [.int a1, .int a2]) (rest := [.int 0, .ref q]) (R' := xR 7 1 6) (zz := yX7_raise) (E := ISE) (x := ⟨0, 10, 21, 56⟩) [⟨0, 10, 13, 22⟩, ⟨0, 10, 17, 13⟩] [] dL_raise_5 ml_L_53 wi_X7_raise wv_X7_raise wn_X7 wc_X7_raise hp_X7_raise ⟨Nat.le_of_ble_eq_true rfl, Nat.le_of_ble_eq_true rfl⟩ rfl (Nat.le_of_ble_eq_true rfl) ⟨Nat.le_of_ble_eq_true rfl, Nat.le_of_ble_eq_true rfl⟩ vc_X7 k0 (T_X7_raisex (G := G) hw k0 h) rfl (fun z hz => by
    simp only [List.mem_cons, List.not_mem_nil, or_false] at hz
    rcases hz with rfl | rfl
    · exact Or.inr ⟨by decide, _, kl9_L_22, by decide +kernel⟩
    · exact Or.inr ⟨by decide, _, kl9_L_13, by decide +kernel⟩) (by decide) (by decide) kl9_L_56 (by decide +kernel) (fun q9 => ?_)
  refine x_astore (L' := []) [] dL_raise_21 (by decide) rfl ?_
  refine x_iconst (v := 3) dL_raise_23 rfl ?_
  exact x_iret dL_raise_24 rfl rfl rfl
theorem W_lease {G : XG} {Y : XY} (hw : WT Y) {a0 q : Nat} {a1 a2 : Int32} {N : XN} (k0 : kc Y a0 = 17) (kq : kc Y q = 3) (kn9 : kn Y q = 1) {r9 : Int32} {N9 : XN} (h : f_X7_lease Y a0 a1 a2 N = some (.inl r9, N9)) : ClW G yL_lease cL_lease 5 (some .int) [(0, 10, 13, 22)] (xR 8 0 0) [.ref a0, .int a1, .int a2, .ref q] (.inl (some (.int 0))) Y N Y (sl N9 q 0 r9.toInt64) := by
  refine x_entryW (by decide) (Nat.le_of_ble_eq_true rfl) rfl ?_
  refine x_aload_n 3 dL_lease_0 rfl rfl ?_
  refine x_iconst (v := 0) dL_lease_1 rfl ?_
  refine x_aload_n 0 dL_lease_2 rfl rfl ?_
  refine x_iload_n 1 dL_lease_3 rfl rfl ?_
  refine x_iload_n 2 dL_lease_4 rfl rfl ?_
  refine x_cv (ci := 7) (b := a0) (As := [.int a1, .int a2]) (rest := [.int 0, .ref q]) (d' := 7) (zz := yX7_lease) dL_lease_5 ml_L_58 wi_X7_lease wv_X7_lease wn_X7 wc_X7_lease hp_X7_lease (by decide) (by decide) rfl (Nat.le_of_ble_eq_true rfl) ⟨Nat.zero_le _, Nat.zero_le _⟩ vc_X7 k0 (T_X7_lease (G := G) hw k0 h) ?_
  refine x_i2l dL_lease_8 ?_
  refine x_last (j9 := 0) dL_lease_9 kq (show vp_in 0 (kn Y q) by rw [kn9]; exact vp01) rfl ?_
  refine x_goto (tgt := 17) dL_lease_10 (by decide) ?_
  refine x_iconst (v := 0) dL_lease_17 rfl ?_
  exact x_iret dL_lease_18 rfl rfl rfl
theorem W_lease_x0 {G : XG} {Y : XY} (hw : WT Y) {a0 q : Nat} {a1 a2 : Int32} {N : XN} (k0 : kc Y a0 = 17) (kq : kc Y q = 3) (kn9 : kn Y q = 1) {N9 : XN} (h : f_X7_lease Y a0 a1 a2 N = some (.inr IOB, N9)) : ClW G yL_lease cL_lease 5 (some .int) [(0, 10, 13, 22)] (xR 8 1 6) [.ref a0, .int a1, .int a2, .ref q] (.inl (some (.int 1))) Y N Y N9 := by
  refine x_entryW (by decide) (Nat.le_of_ble_eq_true rfl) rfl ?_
  refine x_aload_n 3 dL_lease_0 rfl rfl ?_
  refine x_iconst (v := 0) dL_lease_1 rfl ?_
  refine x_aload_n 0 dL_lease_2 rfl rfl ?_
  refine x_iload_n 1 dL_lease_3 rfl rfl ?_
  refine x_iload_n 2 dL_lease_4 rfl rfl ?_
  refine x_cvX (ci := 7) (b := a0) (As := [.int a1, .int a2]) (rest := [.int 0, .ref q]) (R' := xR 7 1 6) (zz := yX7_lease) (E := IOB) (x := ⟨0, 10, 13, 22⟩) [] [] dL_lease_5 ml_L_58 wi_X7_lease wv_X7_lease wn_X7 wc_X7_lease hp_X7_lease ⟨Nat.le_of_ble_eq_true rfl, Nat.le_of_ble_eq_true rfl⟩ rfl (Nat.le_of_ble_eq_true rfl) ⟨Nat.le_of_ble_eq_true rfl, Nat.le_of_ble_eq_true rfl⟩ vc_X7 k0 (T_X7_leasex (G := G) hw k0 h) rfl (fun z hz => absurd hz List.not_mem_nil) (by decide) (by decide) kl9_L_22 (by decide +kernel) (fun q9 => ?_)
  refine x_astore (L' := []) [] dL_lease_13 (by decide) rfl ?_
  refine x_iconst (v := 1) dL_lease_15 rfl ?_
  exact x_iret dL_lease_16 rfl rfl rfl
theorem W_release {G : XG} {Y : XY} (hw : WT Y) {a0 q : Nat} {a1 a2 : Int32} {N : XN} (k0 : kc Y a0 = 17) (kq : kc Y q = 3) (kn9 : kn Y q = 1) {r9 : Int32} {N9 : XN} (h : f_X7_release Y a0 a1 a2 N = some (.inl r9, N9)) : ClW G yL_release cL_release 5 (some .int) [(0, 10, 13, 22)] (xR 8 0 0) [.ref a0, .int a1, .int a2, .ref q] (.inl (some (.int 0))) Y N Y (sl N9 q 0 r9.toInt64) := by
  refine x_entryW (by decide) (Nat.le_of_ble_eq_true rfl) rfl ?_
  refine x_aload_n 3 dL_release_0 rfl rfl ?_
  refine x_iconst (v := 0) dL_release_1 rfl ?_
  refine x_aload_n 0 dL_release_2 rfl rfl ?_
  refine x_iload_n 1 dL_release_3 rfl rfl ?_
  refine x_iload_n 2 dL_release_4 rfl rfl ?_
  refine x_cv (ci := 7) (b := a0) (As := [.int a1, .int a2]) (rest := [.int 0, .ref q]) (d' := 7) (zz := yX7_release) dL_release_5 ml_L_61 wi_X7_release wv_X7_release wn_X7 wc_X7_release hp_X7_release (by decide) (by decide) rfl (Nat.le_of_ble_eq_true rfl) ⟨Nat.zero_le _, Nat.zero_le _⟩ vc_X7 k0 (T_X7_release (G := G) hw k0 h) ?_
  refine x_i2l dL_release_8 ?_
  refine x_last (j9 := 0) dL_release_9 kq (show vp_in 0 (kn Y q) by rw [kn9]; exact vp01) rfl ?_
  refine x_goto (tgt := 17) dL_release_10 (by decide) ?_
  refine x_iconst (v := 0) dL_release_17 rfl ?_
  exact x_iret dL_release_18 rfl rfl rfl
theorem W_release_x0 {G : XG} {Y : XY} (hw : WT Y) {a0 q : Nat} {a1 a2 : Int32} {N : XN} (k0 : kc Y a0 = 17) (kq : kc Y q = 3) (kn9 : kn Y q = 1) {N9 : XN} (h : f_X7_release Y a0 a1 a2 N = some (.inr IOB, N9)) : ClW G yL_release cL_release 5 (some .int) [(0, 10, 13, 22)] (xR 8 1 6) [.ref a0, .int a1, .int a2, .ref q] (.inl (some (.int 1))) Y N Y N9 := by
  refine x_entryW (by decide) (Nat.le_of_ble_eq_true rfl) rfl ?_
  refine x_aload_n 3 dL_release_0 rfl rfl ?_
  refine x_iconst (v := 0) dL_release_1 rfl ?_
  refine x_aload_n 0 dL_release_2 rfl rfl ?_
  refine x_iload_n 1 dL_release_3 rfl rfl ?_
  refine x_iload_n 2 dL_release_4 rfl rfl ?_
  refine x_cvX (ci := 7) (b := a0) (As := [.int a1, .int a2]) (rest := [.int 0, .ref q]) (R' := xR 7 1 6) (zz := yX7_release) (E := IOB) (x := ⟨0, 10, 13, 22⟩) [] [] dL_release_5 ml_L_61 wi_X7_release wv_X7_release wn_X7 wc_X7_release hp_X7_release ⟨Nat.le_of_ble_eq_true rfl, Nat.le_of_ble_eq_true rfl⟩ rfl (Nat.le_of_ble_eq_true rfl) ⟨Nat.le_of_ble_eq_true rfl, Nat.le_of_ble_eq_true rfl⟩ vc_X7 k0 (T_X7_releasex (G := G) hw k0 h) rfl (fun z hz => absurd hz List.not_mem_nil) (by decide) (by decide) kl9_L_22 (by decide +kernel) (fun q9 => ?_)
  refine x_astore (L' := []) [] dL_release_13 (by decide) rfl ?_
  refine x_iconst (v := 1) dL_release_15 rfl ?_
  exact x_iret dL_release_16 rfl rfl rfl
theorem W_fund {G : XG} {Y : XY} (hw : WT Y) {a0 q : Nat} {a1 a2 : Int32} {N : XN} (k0 : kc Y a0 = 17) (kq : kc Y q = 3) (kn9 : kn Y q = 1) {r9 : Int32} {N9 : XN} (h : f_X7_fund Y a0 a1 a2 N = some (.inl r9, N9)) : ClW G yL_fund cL_fund 5 (some .int) [(0, 10, 13, 22), (0, 10, 17, 13)] (xR 8 0 0) [.ref a0, .int a1, .int a2, .ref q] (.inl (some (.int 0))) Y N Y (sl N9 q 0 r9.toInt64) := by
  refine x_entryW (by decide) (Nat.le_of_ble_eq_true rfl) rfl ?_
  refine x_aload_n 3 dL_fund_0 rfl rfl ?_
  refine x_iconst (v := 0) dL_fund_1 rfl ?_
  refine x_aload_n 0 dL_fund_2 rfl rfl ?_
  refine x_iload_n 1 dL_fund_3 rfl rfl ?_
  refine x_iload_n 2 dL_fund_4 rfl rfl ?_
  refine x_cv (ci := 7) (b := a0) (As := [.int a1, .int a2]) (rest := [.int 0, .ref q]) (d' := 7) (zz := yX7_fund) dL_fund_5 ml_L_64 wi_X7_fund wv_X7_fund wn_X7 wc_X7_fund hp_X7_fund (by decide) (by decide) rfl (Nat.le_of_ble_eq_true rfl) ⟨Nat.zero_le _, Nat.zero_le _⟩ vc_X7 k0 (T_X7_fund (G := G) hw k0 h) ?_
  refine x_i2l dL_fund_8 ?_
  refine x_last (j9 := 0) dL_fund_9 kq (show vp_in 0 (kn Y q) by rw [kn9]; exact vp01) rfl ?_
  refine x_goto (tgt := 21) dL_fund_10 (by decide) ?_
  refine x_iconst (v := 0) dL_fund_21 rfl ?_
  exact x_iret dL_fund_22 rfl rfl rfl
theorem W_fund_x0 {G : XG} {Y : XY} (hw : WT Y) {a0 q : Nat} {a1 a2 : Int32} {N : XN} (k0 : kc Y a0 = 17) (kq : kc Y q = 3) (kn9 : kn Y q = 1) {N9 : XN} (h : f_X7_fund Y a0 a1 a2 N = some (.inr IOB, N9)) : ClW G yL_fund cL_fund 5 (some .int) [(0, 10, 13, 22), (0, 10, 17, 13)] (xR 8 1 6) [.ref a0, .int a1, .int a2, .ref q] (.inl (some (.int 1))) Y N Y N9 := by
  refine x_entryW (by decide) (Nat.le_of_ble_eq_true rfl) rfl ?_
  refine x_aload_n 3 dL_fund_0 rfl rfl ?_
  refine x_iconst (v := 0) dL_fund_1 rfl ?_
  refine x_aload_n 0 dL_fund_2 rfl rfl ?_
  refine x_iload_n 1 dL_fund_3 rfl rfl ?_
  refine x_iload_n 2 dL_fund_4 rfl rfl ?_
  refine x_cvX (ci := 7) (b := a0) (As := [.int a1, .int a2]) (rest := [.int 0, .ref q]) (R' := xR 7 1 6) (zz := yX7_fund) (E := IOB) (x := ⟨0, 10, 13, 22⟩) [] [⟨0, 10, 17, 13⟩] dL_fund_5 ml_L_64 wi_X7_fund wv_X7_fund wn_X7 wc_X7_fund hp_X7_fund ⟨Nat.le_of_ble_eq_true rfl, Nat.le_of_ble_eq_true rfl⟩ rfl (Nat.le_of_ble_eq_true rfl) ⟨Nat.le_of_ble_eq_true rfl, Nat.le_of_ble_eq_true rfl⟩ vc_X7 k0 (T_X7_fundx (G := G) hw k0 h) rfl (fun z hz => absurd hz List.not_mem_nil) (by decide) (by decide) kl9_L_22 (by decide +kernel) (fun q9 => ?_)
  refine x_astore (L' := []) [] dL_fund_13 (by decide) rfl ?_
  refine x_iconst (v := 1) dL_fund_15 rfl ?_
  exact x_iret dL_fund_16 rfl rfl rfl
theorem W_fund_x1 {G : XG} {Y : XY} (hw : WT Y) {a0 q : Nat} {a1 a2 : Int32} {N : XN} (k0 : kc Y a0 = 17) (kq : kc Y q = 3) (kn9 : kn Y q = 1) {N9 : XN} (h : f_X7_fund Y a0 a1 a2 N = some (.inr IAE, N9)) : ClW G yL_fund cL_fund 5 (some .int) [(0, 10, 13, 22), (0, 10, 17, 13)] (xR 8 1 6) [.ref a0, .int a1, .int a2, .ref q] (.inl (some (.int 2))) Y N Y N9 := by
  refine x_entryW (by decide) (Nat.le_of_ble_eq_true rfl) rfl ?_
  refine x_aload_n 3 dL_fund_0 rfl rfl ?_
  refine x_iconst (v := 0) dL_fund_1 rfl ?_
  refine x_aload_n 0 dL_fund_2 rfl rfl ?_
  refine x_iload_n 1 dL_fund_3 rfl rfl ?_
  refine x_iload_n 2 dL_fund_4 rfl rfl ?_
  refine x_cvX (ci := 7) (b := a0) (As := [.int a1, .int a2]) (rest := [.int 0, .ref q]) (R' := xR 7 1 6) (zz := yX7_fund) (E := IAE) (x := ⟨0, 10, 17, 13⟩) [⟨0, 10, 13, 22⟩] [] dL_fund_5 ml_L_64 wi_X7_fund wv_X7_fund wn_X7 wc_X7_fund hp_X7_fund ⟨Nat.le_of_ble_eq_true rfl, Nat.le_of_ble_eq_true rfl⟩ rfl (Nat.le_of_ble_eq_true rfl) ⟨Nat.le_of_ble_eq_true rfl, Nat.le_of_ble_eq_true rfl⟩ vc_X7 k0 (T_X7_fundx (G := G) hw k0 h) rfl (fun z hz => by
    simp only [List.mem_cons, List.not_mem_nil, or_false] at hz
    rcases hz with rfl
    · exact Or.inr ⟨by decide, _, kl9_L_22, by decide +kernel⟩) (by decide) (by decide) kl9_L_13 (by decide +kernel) (fun q9 => ?_)
  refine x_astore (L' := []) [] dL_fund_17 (by decide) rfl ?_
  refine x_iconst (v := 2) dL_fund_19 rfl ?_
  exact x_iret dL_fund_20 rfl rfl rfl
