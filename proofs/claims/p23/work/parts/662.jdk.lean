set_option maxHeartbeats 4000000 in
set_option maxRecDepth 100000 in
theorem T_J5_append_cf1ce {G : XG} {Y : XY} {q : Nat} {a0 : Nat} {a1 : Nat} {N : XN} {rz : Nat} {Yz : XY} {qz : Nat} {Nz : XN} (h : f_J5_append_cf1ce Y q a0 a1 N = some (rz, Yz, qz, Nz)) : Cn G yJ5_append_cf1ce cJ5_append_cf1ce 3 (some (.object "java/lang/AbstractStringBuilder")) (xR 5 1 400) [.ref a0, .ref a1] (some (.ref rz)) Y N Yz Nz := by
  refine x_entryN (by decide) (Nat.le_of_ble_eq_true rfl) rfl fun tb => ?_
  rw [f_J5_append_cf1ce] at h
  refine x_aload_n 1 dJ5_append_cf1ce_0 rfl rfl ?_
  refine x_ifnn_r (tgt := 9) dJ5_append_cf1ce_1 (by decide) ?_
  refine x_aload_n 1 dJ5_append_cf1ce_9 rfl rfl ?_
  obtain ⟨c1, h⟩ := x_ckk h
  obtain ⟨r2, N4, e3, h⟩ := x_bd2 h
  refine x_nVS (b := a1) (As := []) (R' := xR 2 0 0) (zz := yJ0_length_8abf5) dJ5_append_cf1ce_10 ml_J5_32 wi_J0_length_8abf5 wv_J0_length_8abf5 wn_J0 wc_J0_length_8abf5 hp_J0_length_8abf5 ⟨Nat.le_of_ble_eq_true rfl, Nat.le_of_ble_eq_true rfl⟩ rfl (Nat.le_of_ble_eq_true rfl) ⟨Nat.le_of_ble_eq_true rfl, Nat.le_of_ble_eq_true rfl⟩ rfl c1 (T_J0_length_8abf5 (G := G) e3) ?_
  refine x_istore_n (L' := [(0, .ref a0), (1, .ref a1), (2, .int r2)]) [1, 2, 0] dJ5_append_cf1ce_13 rfl (by decide) rfl ?_
  refine x_aload_n 0 dJ5_append_cf1ce_14 rfl rfl ?_
  refine x_aload_n 0 dJ5_append_cf1ce_15 rfl rfl ?_
  obtain ⟨c5, h⟩ := x_ckk h
  refine x_geti dJ5_append_cf1ce_16 vc_J4 xin12 fb_J4_3 fl_J5_79 xr_J4_3 c5 ?_
  refine x_iload_n 2 dJ5_append_cf1ce_19 rfl rfl ?_
  refine x_iadd dJ5_append_cf1ce_20 ?_
  obtain ⟨Y7, q8, N9, e6, h⟩ := x_bd3 h
  refine x_nU (b := a0) (As := [.int ((gi N4 a0 3) + r2)]) (ci := 12) (R' := xR 4 1 400) (zz := yJ5_ensureCapacityInternal_d00df) (xx := yx_J5_100) dJ5_append_cf1ce_21 mu_J5_100 su_J5_100 du_J5_100 dc_J5_100 se_J5_100 wi_J5_ensureCapacityInternal_d00df wn_J5 wc_J5_ensureCapacityInternal_d00df hu_J5_100 ⟨Nat.le_of_ble_eq_true rfl, Nat.le_of_ble_eq_true rfl⟩ rfl (Nat.le_of_ble_eq_true rfl) ⟨Nat.le_of_ble_eq_true rfl, Nat.le_of_ble_eq_true rfl⟩ vc_J4 c5 (T_J5_ensureCapacityInternal_d00df (G := G) e6) ?_
  refine x_aload_n 0 dJ5_append_cf1ce_24 rfl rfl ?_
  refine x_aload_n 0 dJ5_append_cf1ce_25 rfl rfl ?_
  obtain ⟨c10, h⟩ := x_ckk h
  refine x_geti dJ5_append_cf1ce_26 vc_J4 xin12 fb_J4_3 fl_J5_79 xr_J4_3 c10 ?_
  refine x_aload_n 1 dJ5_append_cf1ce_29 rfl rfl ?_
  obtain ⟨N12, e11, h⟩ := x_bd1 h
  refine x_nU (b := a0) (As := [.int (gi N9 a0 3), .ref a1]) (ci := 12) (R' := xR 3 0 0) (zz := yJ5_putStringAt_47b60) (xx := yx_J5_208) dJ5_append_cf1ce_30 mu_J5_208 su_J5_208 du_J5_208 dc_J5_208 se_J5_208 wi_J5_putStringAt_47b60 wn_J5 wc_J5_putStringAt_47b60 hu_J5_208 ⟨Nat.le_of_ble_eq_true rfl, Nat.le_of_ble_eq_true rfl⟩ rfl (Nat.le_of_ble_eq_true rfl) ⟨Nat.le_of_ble_eq_true rfl, Nat.le_of_ble_eq_true rfl⟩ vc_J4 c10 (T_J5_putStringAt_47b60 (G := G) e11) ?_
  refine x_aload_n 0 dJ5_append_cf1ce_33 rfl rfl ?_
  refine x_dup dJ5_append_cf1ce_34 rfl ?_
  refine x_geti dJ5_append_cf1ce_35 vc_J4 xin12 fb_J4_3 fl_J5_79 xr_J4_3 c10 ?_
  refine x_iload_n 2 dJ5_append_cf1ce_38 rfl rfl ?_
  refine x_iadd dJ5_append_cf1ce_39 ?_
  refine x_puti dJ5_append_cf1ce_40 vc_J4 xin12 tyJ4_ok nmJ4 fb_J4_3 fl_J5_79 ff_J4_3 xr_J4_3 (nf_J4_3 _) (ft_J4_3 _) c10 ?_
  obtain ⟨N13, eN13, h⟩ := x_lt h
  refine x_nmM eN13 ?_
  refine x_aload_n 0 dJ5_append_cf1ce_43 rfl rfl ?_
  refine x_wide (k' := 1) (n' := 400) ⟨Nat.le_of_ble_eq_true rfl, Nat.le_of_ble_eq_true rfl⟩ ?_
  obtain ⟨rfl, h8⟩ := Prod.mk.inj (x_so h)
  obtain ⟨rfl, h7⟩ := Prod.mk.inj h8
  obtain ⟨rfl, rfl⟩ := Prod.mk.inj h7
  exact x_naret dJ5_append_cf1ce_44 rfl (Or.inl ⟨_, rfl⟩) rfl rfl
set_option maxHeartbeats 4000000 in
set_option maxRecDepth 100000 in
theorem T_J5_append_c97b9 {G : XG} {Y : XY} {q : Nat} {a0 : Nat} {a1 : Int32} {N : XN} {rz : Nat} {Yz : XY} {qz : Nat} {Nz : XN} (h : f_J5_append_c97b9 (xS G) (xSv G) Y q a0 a1 N = some (rz, Yz, qz, Nz)) : Cn G yJ5_append_c97b9 cJ5_append_c97b9 4 (some (.object "java/lang/AbstractStringBuilder")) (xR 5 1 400) [.ref a0, .int a1] (some (.ref rz)) Y N Yz Nz := by
  refine x_entryN (by decide) (Nat.le_of_ble_eq_true rfl) rfl fun tb => ?_
  rw [f_J5_append_c97b9] at h
  refine x_aload_n 0 dJ5_append_c97b9_0 rfl rfl ?_
  obtain ⟨c1, h⟩ := x_ckk h
  refine x_geti dJ5_append_c97b9_1 vc_J4 xin12 fb_J4_3 fl_J5_79 xr_J4_3 c1 ?_
  refine x_istore_n (L' := [(0, .ref a0), (1, .int a1), (2, .int (gi N a0 3))]) [1, 2, 0] dJ5_append_c97b9_4 rfl (by decide) rfl ?_
  refine x_iload_n 2 dJ5_append_c97b9_5 rfl rfl ?_
  refine x_iload_n 1 dJ5_append_c97b9_6 rfl rfl ?_
  obtain ⟨r2, N4, e3, h⟩ := x_bd2 h
  refine x_nS (As := [.int a1]) (R' := xR 1 0 0) (zz := yJ6_stringSize_0f7a4) dJ5_append_c97b9_7 ml_J5_245 wt_J6_stringSize_0f7a4 wn_J6 wc_J6_stringSize_0f7a4 hp_J6_stringSize_0f7a4 ⟨Nat.le_of_ble_eq_true rfl, Nat.le_of_ble_eq_true rfl⟩ rfl (Nat.le_of_ble_eq_true rfl) ⟨Nat.le_of_ble_eq_true rfl, Nat.le_of_ble_eq_true rfl⟩ (T_J6_stringSize_0f7a4 (G := G) e3) ?_
  refine x_iadd dJ5_append_c97b9_10 ?_
  refine x_istore_n (L' := [(0, .ref a0), (1, .int a1), (2, .int (gi N a0 3)), (3, .int ((gi N a0 3) + r2))]) [1, 2, 3, 0] dJ5_append_c97b9_11 rfl (by decide) rfl ?_
  refine x_aload_n 0 dJ5_append_c97b9_12 rfl rfl ?_
  refine x_iload_n 3 dJ5_append_c97b9_13 rfl rfl ?_
  obtain ⟨Y6, q7, N8, e5, h⟩ := x_bd3 h
  refine x_nU (b := a0) (As := [.int ((gi N a0 3) + r2)]) (ci := 12) (R' := xR 4 1 400) (zz := yJ5_ensureCapacityInternal_d00df) (xx := yx_J5_100) dJ5_append_c97b9_14 mu_J5_100 su_J5_100 du_J5_100 dc_J5_100 se_J5_100 wi_J5_ensureCapacityInternal_d00df wn_J5 wc_J5_ensureCapacityInternal_d00df hu_J5_100 ⟨Nat.le_of_ble_eq_true rfl, Nat.le_of_ble_eq_true rfl⟩ rfl (Nat.le_of_ble_eq_true rfl) ⟨Nat.le_of_ble_eq_true rfl, Nat.le_of_ble_eq_true rfl⟩ vc_J4 c1 (T_J5_ensureCapacityInternal_d00df (G := G) e5) ?_
  refine x_aload_n 0 dJ5_append_c97b9_17 rfl rfl ?_
  obtain ⟨c9, h⟩ := x_ckk h
  obtain ⟨r10, N12, e11, h⟩ := x_bd2 h
  refine x_nU (b := a0) (As := []) (ci := 12) (R' := xR 1 0 0) (zz := yJ5_isLatin1_aae02) (xx := yx_J5_83) dJ5_append_c97b9_18 mu_J5_83 su_J5_83 du_J5_83 dc_J5_83 se_J5_83 wi_J5_isLatin1_aae02 wn_J5 wc_J5_isLatin1_aae02 hu_J5_83 ⟨Nat.le_of_ble_eq_true rfl, Nat.le_of_ble_eq_true rfl⟩ rfl (Nat.le_of_ble_eq_true rfl) ⟨Nat.le_of_ble_eq_true rfl, Nat.le_of_ble_eq_true rfl⟩ vc_J4 c9 (T_J5_isLatin1_aae02 (G := G) e11) ?_
  rcases x_if h with ⟨c13, h⟩ | ⟨c13, h⟩
  · refine x_if_eq_t (tgt := 37) dJ5_append_c97b9_21 (by decide) c13 ?_
    refine x_iload_n 1 dJ5_append_c97b9_37 rfl rfl ?_
    refine x_iload_n 2 dJ5_append_c97b9_38 rfl rfl ?_
    refine x_iload_n 3 dJ5_append_c97b9_39 rfl rfl ?_
    refine x_aload_n 0 dJ5_append_c97b9_40 rfl rfl ?_
    obtain ⟨c15, h⟩ := x_ckk h
    obtain ⟨p14, lp14, h⟩ := x_lt h
    have ep14 : gr Y6 a0 0 = some p14 := by rw [lp14]; exact c15
    refine x_getr dJ5_append_c97b9_41 vc_J4 xin12 fb_J4_0 fl_J5_15 xr_J4_0 c9 ep14 ?_
    cases h
  · refine x_if_eq_f (tgt := 37) dJ5_append_c97b9_21 (by decide) c13 ?_
    refine x_iload_n 1 dJ5_append_c97b9_24 rfl rfl ?_
    refine x_iload_n 3 dJ5_append_c97b9_25 rfl rfl ?_
    refine x_aload_n 0 dJ5_append_c97b9_26 rfl rfl ?_
    obtain ⟨c17, h⟩ := x_ckk h
    obtain ⟨p16, lp16, h⟩ := x_lt h
    have ep16 : gr Y6 a0 0 = some p16 := by rw [lp16]; exact c17
    refine x_getr dJ5_append_c97b9_27 vc_J4 xin12 fb_J4_0 fl_J5_15 xr_J4_0 c9 ep16 ?_
    obtain ⟨r18, N20, e19, h⟩ := x_bd2 h
    refine x_nS (As := [.int a1, .int ((gi N a0 3) + r2), .ref p16]) (R' := xR 1 0 0) (zz := yJ6_getChars_ba4f3) dJ5_append_c97b9_30 ml_J5_248 wt_J6_getChars_ba4f3 wn_J6 wc_J6_getChars_ba4f3 hp_J6_getChars_ba4f3 ⟨Nat.le_of_ble_eq_true rfl, Nat.le_of_ble_eq_true rfl⟩ rfl (Nat.le_of_ble_eq_true rfl) ⟨Nat.le_of_ble_eq_true rfl, Nat.le_of_ble_eq_true rfl⟩ (T_J6_getChars_ba4f3 (G := G) e19) ?_
    refine x_pop dJ5_append_c97b9_33 rfl ?_
    refine x_goto (tgt := 48) dJ5_append_c97b9_34 (by decide) ?_
    refine x_aload_n 0 dJ5_append_c97b9_48 rfl rfl ?_
    refine x_iload_n 3 dJ5_append_c97b9_49 rfl rfl ?_
    refine x_puti dJ5_append_c97b9_50 vc_J4 xin12 tyJ4_ok nmJ4 fb_J4_3 fl_J5_79 ff_J4_3 xr_J4_3 (nf_J4_3 _) (ft_J4_3 _) c9 ?_
    obtain ⟨N21, eN21, h⟩ := x_lt h
    refine x_nmM eN21 ?_
    refine x_aload_n 0 dJ5_append_c97b9_53 rfl rfl ?_
    refine x_wide (k' := 1) (n' := 400) ⟨Nat.le_of_ble_eq_true rfl, Nat.le_of_ble_eq_true rfl⟩ ?_
    obtain ⟨rfl, h8⟩ := Prod.mk.inj (x_so h)
    obtain ⟨rfl, h7⟩ := Prod.mk.inj h8
    obtain ⟨rfl, rfl⟩ := Prod.mk.inj h7
    exact x_naret dJ5_append_c97b9_54 rfl (Or.inl ⟨_, rfl⟩) rfl rfl
set_option maxHeartbeats 4000000 in
set_option maxRecDepth 100000 in
theorem T_J5_getValue_6d5f1 {G : XG} {Y : XY} {a0 : Nat} {N : XN} {rz : Nat} {Nz : XN} (h : f_J5_getValue_6d5f1 Y a0 N = some (rz, Nz)) : Cn G yJ5_getValue_6d5f1 cJ5_getValue_6d5f1 1 (some (.array .byte)) (xR 1 0 0) [.ref a0] (some (.ref rz)) Y N Y Nz := by
  refine x_entryN (by decide) (Nat.le_of_ble_eq_true rfl) rfl fun tb => ?_
  rw [f_J5_getValue_6d5f1] at h
  refine x_aload_n 0 dJ5_getValue_6d5f1_0 rfl rfl ?_
  obtain ⟨c1, h⟩ := x_ckk h
  obtain ⟨c3, h⟩ := x_ckk h
  obtain ⟨p2, lp2, h⟩ := x_lt h
  have ep2 : gr Y a0 0 = some p2 := by rw [lp2]; exact c3
  refine x_getr dJ5_getValue_6d5f1_1 vc_J4 xin12 fb_J4_0 fl_J5_15 xr_J4_0 c1 ep2 ?_
  obtain ⟨rfl, rfl⟩ := Prod.mk.inj (x_so h)
  exact x_naret dJ5_getValue_6d5f1_4 rfl (Or.inr ⟨_, rfl⟩) rfl rfl
set_option maxHeartbeats 4000000 in
set_option maxRecDepth 100000 in
theorem T_J5_length_8abf5 {G : XG} {Y : XY} {a0 : Nat} {N : XN} {rz : Int32} {Nz : XN} (h : f_J5_length_8abf5 Y a0 N = some (rz, Nz)) : Cn G yJ5_length_8abf5 cJ5_length_8abf5 1 (some .int) (xR 1 0 0) [.ref a0] (some (.int rz)) Y N Y Nz := by
  refine x_entryN (by decide) (Nat.le_of_ble_eq_true rfl) rfl fun tb => ?_
  rw [f_J5_length_8abf5] at h
  refine x_aload_n 0 dJ5_length_8abf5_0 rfl rfl ?_
  obtain ⟨c1, h⟩ := x_ckk h
  refine x_geti dJ5_length_8abf5_1 vc_J4 xin12 fb_J4_3 fl_J5_79 xr_J4_3 c1 ?_
  obtain ⟨rfl, rfl⟩ := Prod.mk.inj (x_so h)
  exact x_niret dJ5_length_8abf5_4 rfl rfl rfl
set_option maxHeartbeats 4000000 in
set_option maxRecDepth 100000 in
theorem T_J4_length_8abf5 {G : XG} {Y : XY} {a0 : Nat} {N : XN} {rz : Int32} {Nz : XN} (h : f_J4_length_8abf5 Y a0 N = some (rz, Nz)) : Cn G yJ4_length_8abf5 cJ4_length_8abf5 1 (some .int) (xR 2 0 0) [.ref a0] (some (.int rz)) Y N Y Nz := by
  refine x_entryN (by decide) (Nat.le_of_ble_eq_true rfl) rfl fun tb => ?_
  rw [f_J4_length_8abf5] at h
  refine x_aload_n 0 dJ4_length_8abf5_0 rfl rfl ?_
  obtain ⟨c1, h⟩ := x_ckk h
  obtain ⟨r2, N4, e3, h⟩ := x_bd2 h
  refine x_nSU (b := a0) (As := []) (ci := 12) (R' := xR 1 0 0) (zz := yJ5_length_8abf5) dJ4_length_8abf5_1 gsu_J4_343 hp_J5_length_8abf5 (by decide) ⟨Nat.le_of_ble_eq_true rfl, Nat.le_of_ble_eq_true rfl⟩ rfl (Nat.le_of_ble_eq_true rfl) ⟨Nat.le_refl _, Nat.le_refl _⟩ vc_J4 c1 (T_J5_length_8abf5 (G := G) e3) ?_
  obtain ⟨rfl, rfl⟩ := Prod.mk.inj (x_so h)
  exact x_niret dJ4_length_8abf5_4 rfl rfl rfl
set_option maxHeartbeats 4000000 in
set_option maxRecDepth 100000 in
theorem T_J0_init_db425_79 {G : XG} {tb : List ExceptionTableEntry} {Yz : XY} {qz : Nat} {Nz : XN} (Y : XY) (q : Nat) (p_0 : Nat) (p_3 : Nat) (v_4 : Int32) (k : Nat) (n : Nat) (N : XN) (h : f_J0_init_db425_79 Y q p_0 p_3 v_4 k n N = some (Yz, qz, Nz)) : ExZ G yJ0_init_db425 cJ0_init_db425 5 none tb (xR 4 1 400) (xZn G (xR 4 1 400) none Yz Nz) k n 79 [(0, .ref p_0), (3, .ref p_3), (4, .int v_4)] [] Y N := by
  rw [f_J0_init_db425_79] at h
  refine x_aload_n 0 dJ0_init_db425_79 rfl rfl ?_
  refine x_iconst (v := 1) dJ0_init_db425_80 rfl ?_
  obtain ⟨c1, h⟩ := x_ckk h
  refine x_putFi dJ0_init_db425_81 vc_J0 xin11 tyJ0_ok nmJ0 fb_J0_1 fl_J0_15 ff_J0_1 rfl rfl xr_J0_1 rfl rfl c1 ?_
  obtain ⟨N2, eN2, h⟩ := x_lt h
  refine x_nmM eN2 ?_
  refine x_aload_n 0 dJ0_init_db425_84 rfl rfl ?_
  refine x_aload_n 1 dJ0_init_db425_85 rfl rfl ?_
  refine x_iconst (v := 0) dJ0_init_db425_86 rfl ?_
  refine x_iload 2 dJ0_init_db425_87 rfl ?_
  refine x_iconst (v := 1) dJ0_init_db425_89 rfl ?_
  refine x_ishl dJ0_init_db425_90 ?_
  obtain ⟨c3, h⟩ := x_ckk h
  obtain ⟨r4, Y6, q7, N8, e5, h⟩ := x_bd4 h
  refine x_nS (As := [.ref p_3, .int 0, .int (v_4 <<< (1 &&& 31))]) (R' := xR 3 1 400) (zz := yJ7_copyOfRange_39247) dJ0_init_db425_91 ml_J0_54 wt_J7_copyOfRange_39247 wn_J7 wc_J7_copyOfRange_39247 hp_J7_copyOfRange_39247 ⟨Nat.le_of_ble_eq_true rfl, Nat.le_of_ble_eq_true rfl⟩ rfl (Nat.le_of_ble_eq_true rfl) c3 (T_J7_copyOfRange_39247 (G := G) e5) ?_
  obtain ⟨c9, h⟩ := x_ckk h
  refine x_putF dJ0_init_db425_94 vc_J0 xin11 tyJ0_ok nmJ0 fb_J0_0 fl_J0_9 ff_J0_0 rfl rfl xr_J0_0 rfl rfl c9 ?_
  obtain ⟨Y10, eY10, h⟩ := x_lt h
  refine x_nmY eY10 ?_
  refine x_wide (k' := 1) (n' := 400) c3 ?_
  obtain ⟨rfl, h8⟩ := Prod.mk.inj (x_so h)
  obtain ⟨rfl, rfl⟩ := Prod.mk.inj h8
  exact x_nvret dJ0_init_db425_97 rfl rfl rfl
set_option maxHeartbeats 4000000 in
set_option maxRecDepth 100000 in
theorem T_J0_init_db425 {G : XG} {Y : XY} {q : Nat} {a0 : Nat} {a1 : Nat} {N : XN} {Yz : XY} {qz : Nat} {Nz : XN} (h : f_J0_init_db425 Y q a0 a1 N = some (Yz, qz, Nz)) : Cn G yJ0_init_db425 cJ0_init_db425 5 none (xR 4 1 400) [.ref a0, .ref a1, .null] none Y N Yz Nz := by
  refine x_entryN (by decide) (Nat.le_of_ble_eq_true rfl) rfl fun tb => ?_
  rw [f_J0_init_db425] at h
  refine x_sub (L' := [(0, .ref a0), (1, .ref a1)]) [0, 1] rfl ?_
  refine x_aload_n 0 dJ0_init_db425_0 rfl rfl ?_
  refine x_super dJ0_init_db425_1 oi_J0_1 oi_i oi_c (by decide) (Nat.le_of_ble_eq_true rfl) (Nat.le_of_ble_eq_true rfl) ?_
  refine x_aload_n 1 dJ0_init_db425_4 rfl rfl ?_
  obtain ⟨c1, h⟩ := x_ckk h
  obtain ⟨r2, N4, e3, h⟩ := x_bd2 h
  refine x_nU (b := a1) (As := []) (ci := 12) (R' := xR 1 0 0) (zz := yJ5_getValue_6d5f1) (xx := yx_J0_552) dJ0_init_db425_5 mu_J0_552 su_J0_552 du_J0_552 dc_J0_552 se_J0_552 wi_J5_getValue_6d5f1 wn_J5 wc_J5_getValue_6d5f1 hu_J0_552 ⟨Nat.le_of_ble_eq_true rfl, Nat.le_of_ble_eq_true rfl⟩ rfl (Nat.le_of_ble_eq_true rfl) ⟨Nat.le_of_ble_eq_true rfl, Nat.le_of_ble_eq_true rfl⟩ vc_J4 c1 (T_J5_getValue_6d5f1 (G := G) e3) ?_
  refine x_astore_n (L' := [(0, .ref a0), (1, .ref a1), (3, .ref r2)]) [1, 2, 0] dJ0_init_db425_8 rfl (by decide) rfl ?_
  refine x_aload_n 1 dJ0_init_db425_9 rfl rfl ?_
  obtain ⟨r5, N7, e6, h⟩ := x_bd2 h
  refine x_nU (b := a1) (As := []) (ci := 12) (R' := xR 2 0 0) (zz := yJ4_length_8abf5) (xx := yx_J0_549) dJ0_init_db425_10 mu_J0_549 su_J0_549 du_J0_549 dc_J0_549 se_J0_549 wi_J4_length_8abf5 wn_J4 wc_J4_length_8abf5 hu_J0_549 ⟨Nat.le_of_ble_eq_true rfl, Nat.le_of_ble_eq_true rfl⟩ rfl (Nat.le_of_ble_eq_true rfl) ⟨Nat.le_of_ble_eq_true rfl, Nat.le_of_ble_eq_true rfl⟩ vc_J4 c1 (T_J4_length_8abf5 (G := G) e6) ?_
  refine x_istore (L' := [(0, .ref a0), (1, .ref a1), (3, .ref r2), (4, .int r5)]) [1, 2, 3, 0] dJ0_init_db425_13 (by decide) rfl ?_
  refine x_aload_n 1 dJ0_init_db425_15 rfl rfl ?_
  obtain ⟨r8, N10, e9, h⟩ := x_bd2 h
  refine x_nU (b := a1) (As := []) (ci := 12) (R' := xR 1 0 0) (zz := yJ5_isLatin1_aae02) (xx := yx_J0_1047) dJ0_init_db425_16 mu_J0_1047 su_J0_1047 du_J0_1047 dc_J0_1047 se_J0_1047 wi_J5_isLatin1_aae02 wn_J5 wc_J5_isLatin1_aae02 hu_J0_1047 ⟨Nat.le_of_ble_eq_true rfl, Nat.le_of_ble_eq_true rfl⟩ rfl (Nat.le_of_ble_eq_true rfl) ⟨Nat.le_of_ble_eq_true rfl, Nat.le_of_ble_eq_true rfl⟩ vc_J4 c1 (T_J5_isLatin1_aae02 (G := G) e9) ?_
  rcases x_if h with ⟨c11, h⟩ | ⟨c11, h⟩
  · refine x_if_eq_t (tgt := 41) dJ0_init_db425_19 (by decide) c11 ?_
    refine x_getsC dJ0_init_db425_41 fs_J0_38 ?_
    refine x_if_eq_f (tgt := 79) dJ0_init_db425_44 (by decide) (by decide) ?_
    refine x_aload_n 1 dJ0_init_db425_47 rfl rfl ?_
    refine x_geti dJ0_init_db425_48 vc_J4 xin12 fb_J4_2 fl_J0_1048 xr_J4_2 c1 ?_
    rcases x_if h with ⟨c12, h⟩ | ⟨c12, h⟩
    · refine x_if_eq_t (tgt := 79) dJ0_init_db425_51 (by decide) c12 ?_
      refine x_sub (L' := [(0, .ref a0), (3, .ref r2), (4, .int r5)]) [0, 2, 3] rfl ?_
      exact T_J0_init_db425_79 (G := G) Y q a0 r2 r5 0 0 N10 h
    · refine x_if_eq_f (tgt := 79) dJ0_init_db425_51 (by decide) c12 ?_
      refine x_aload_n 0 dJ0_init_db425_54 rfl rfl ?_
      refine x_aload_n 2 dJ0_init_db425_55 rfl rfl ?_
      refine x_iconst (v := 0) dJ0_init_db425_56 rfl ?_
      refine x_iload 3 dJ0_init_db425_57 rfl ?_
      cases h
  · refine x_if_eq_f (tgt := 41) dJ0_init_db425_19 (by decide) c11 ?_
    refine x_aload_n 0 dJ0_init_db425_22 rfl rfl ?_
    refine x_iconst (v := 0) dJ0_init_db425_23 rfl ?_
    obtain ⟨c13, h⟩ := x_ckk h
    refine x_putFi dJ0_init_db425_24 vc_J0 xin11 tyJ0_ok nmJ0 fb_J0_1 fl_J0_15 ff_J0_1 rfl rfl xr_J0_1 rfl rfl c13 ?_
    obtain ⟨N14, eN14, h⟩ := x_lt h
    refine x_nmM eN14 ?_
    refine x_aload_n 0 dJ0_init_db425_27 rfl rfl ?_
    refine x_aload_n 2 dJ0_init_db425_28 rfl rfl ?_
    refine x_iconst (v := 0) dJ0_init_db425_29 rfl ?_
    refine x_iload 3 dJ0_init_db425_30 rfl ?_
    obtain ⟨r15, Y17, q18, N19, e16, h⟩ := x_bd4 h
    refine x_nS (As := [.ref r2, .int 0, .int r5]) (R' := xR 3 1 400) (zz := yJ7_copyOfRange_39247) dJ0_init_db425_32 ml_J0_54 wt_J7_copyOfRange_39247 wn_J7 wc_J7_copyOfRange_39247 hp_J7_copyOfRange_39247 ⟨Nat.le_of_ble_eq_true rfl, Nat.le_of_ble_eq_true rfl⟩ rfl (Nat.le_of_ble_eq_true rfl) ⟨Nat.le_of_ble_eq_true rfl, Nat.le_of_ble_eq_true rfl⟩ (T_J7_copyOfRange_39247 (G := G) e16) ?_
    obtain ⟨c20, h⟩ := x_ckk h
    refine x_putF dJ0_init_db425_35 vc_J0 xin11 tyJ0_ok nmJ0 fb_J0_0 fl_J0_9 ff_J0_0 rfl rfl xr_J0_0 rfl rfl c20 ?_
    obtain ⟨Y21, eY21, h⟩ := x_lt h
    refine x_nmY eY21 ?_
    refine x_goto (tgt := 97) dJ0_init_db425_38 (by decide) ?_
    refine x_wide (k' := 1) (n' := 400) ⟨Nat.le_of_ble_eq_true rfl, Nat.le_of_ble_eq_true rfl⟩ ?_
    obtain ⟨rfl, h8⟩ := Prod.mk.inj (x_so h)
    obtain ⟨rfl, rfl⟩ := Prod.mk.inj h8
    exact x_nvret dJ0_init_db425_97 rfl rfl rfl
set_option maxHeartbeats 4000000 in
set_option maxRecDepth 100000 in
theorem T_J0_init_81219 {G : XG} {Y : XY} {q : Nat} {a0 : Nat} {a1 : Nat} {N : XN} {Yz : XY} {qz : Nat} {Nz : XN} (h : f_J0_init_81219 Y q a0 a1 N = some (Yz, qz, Nz)) : Cn G yJ0_init_81219 cJ0_init_81219 2 none (xR 5 1 400) [.ref a0, .ref a1] none Y N Yz Nz := by
  refine x_entryN (by decide) (Nat.le_of_ble_eq_true rfl) rfl fun tb => ?_
  rw [f_J0_init_81219] at h
  refine x_aload_n 0 dJ0_init_81219_0 rfl rfl ?_
  refine x_aload_n 1 dJ0_init_81219_1 rfl rfl ?_
  refine x_null dJ0_init_81219_2 ?_
  obtain ⟨Y2, q3, N4, e1, h⟩ := x_bd3 h
  refine x_init (b := a0) (As := [.ref a1, .null]) (R' := xR 4 1 400) (zz := yJ0_init_db425) dJ0_init_81219_3 ml_J0_489 wi_J0_init_db425 wn_J0 wc_J0_init_db425 rfl hp_J0_init_db425 ⟨Nat.le_of_ble_eq_true rfl, Nat.le_of_ble_eq_true rfl⟩ rfl (Nat.le_of_ble_eq_true rfl) ⟨Nat.le_of_ble_eq_true rfl, Nat.le_of_ble_eq_true rfl⟩ (T_J0_init_db425 (G := G) e1) ?_
  refine x_wide (k' := 1) (n' := 400) ⟨Nat.le_of_ble_eq_true rfl, Nat.le_of_ble_eq_true rfl⟩ ?_
  obtain ⟨rfl, h8⟩ := Prod.mk.inj (x_so h)
  obtain ⟨rfl, rfl⟩ := Prod.mk.inj h8
  exact x_nvret dJ0_init_81219_6 rfl rfl rfl
set_option maxHeartbeats 4000000 in
set_option maxRecDepth 100000 in
theorem T_J4_init_da8c8 {G : XG} {Y : XY} {q : Nat} {a0 : Nat} {N : XN} {Yz : XY} {qz : Nat} {Nz : XN} (h : f_J4_init_da8c8 Y q a0 N = some (Yz, qz, Nz)) : Cn G yJ4_init_da8c8 cJ4_init_da8c8 1 none (xR 2 1 16) [.ref a0] none Y N Yz Nz := by
  refine x_entryN (by decide) (Nat.le_of_ble_eq_true rfl) rfl fun tb => ?_
  rw [f_J4_init_da8c8] at h
  refine x_aload_n 0 dJ4_init_da8c8_0 rfl rfl ?_
  refine x_bipush (v := 16) dJ4_init_da8c8_1 rfl ?_
  obtain ⟨Y2, q3, N4, e1, h⟩ := x_bd3 h
  refine x_init (b := a0) (As := [.int 16]) (R' := xR 1 1 16) (zz := yJ5_init_d00df) dJ4_init_da8c8_3 ml_J4_1 wi_J5_init_d00df wn_J5 wc_J5_init_d00df rfl hp_J5_init_d00df ⟨Nat.le_of_ble_eq_true rfl, Nat.le_of_ble_eq_true rfl⟩ rfl (Nat.le_of_ble_eq_true rfl) ⟨Nat.le_of_ble_eq_true rfl, Nat.le_of_ble_eq_true rfl⟩ (T_J5_init_d00df (G := G) e1) ?_
  refine x_wide (k' := 1) (n' := 16) ⟨Nat.le_of_ble_eq_true rfl, Nat.le_of_ble_eq_true rfl⟩ ?_
  obtain ⟨rfl, h8⟩ := Prod.mk.inj (x_so h)
  obtain ⟨rfl, rfl⟩ := Prod.mk.inj h8
  exact x_nvret dJ4_init_da8c8_6 rfl rfl rfl
set_option maxHeartbeats 4000000 in
set_option maxRecDepth 100000 in
theorem T_J4_append_15ec4 {G : XG} {Y : XY} {q : Nat} {a0 : Nat} {a1 : Nat} {N : XN} {rz : Nat} {Yz : XY} {qz : Nat} {Nz : XN} (h : f_J4_append_15ec4 Y q a0 a1 N = some (rz, Yz, qz, Nz)) : Cn G yJ4_append_15ec4 cJ4_append_15ec4 2 (some (.object "java/lang/StringBuilder")) (xR 6 1 400) [.ref a0, .ref a1] (some (.ref rz)) Y N Yz Nz := by
  refine x_entryN (by decide) (Nat.le_of_ble_eq_true rfl) rfl fun tb => ?_
  rw [f_J4_append_15ec4] at h
  refine x_aload_n 0 dJ4_append_15ec4_0 rfl rfl ?_
  refine x_aload_n 1 dJ4_append_15ec4_1 rfl rfl ?_
  obtain ⟨c1, h⟩ := x_ckk h
  obtain ⟨r2, Y4, q5, N6, e3, h⟩ := x_bd4 h
  refine x_nSU (b := a0) (As := [.ref a1]) (ci := 12) (R' := xR 5 1 400) (zz := yJ5_append_cf1ce) dJ4_append_15ec4_2 gsu_J4_29 hp_J5_append_cf1ce (by decide) ⟨Nat.le_of_ble_eq_true rfl, Nat.le_of_ble_eq_true rfl⟩ rfl (Nat.le_of_ble_eq_true rfl) ⟨Nat.le_of_ble_eq_true rfl, Nat.le_of_ble_eq_true rfl⟩ vc_J4 c1 (T_J5_append_cf1ce (G := G) e3) ?_
  refine x_pop dJ4_append_15ec4_5 rfl ?_
  refine x_aload_n 0 dJ4_append_15ec4_6 rfl rfl ?_
  refine x_wide (k' := 1) (n' := 400) ⟨Nat.le_of_ble_eq_true rfl, Nat.le_of_ble_eq_true rfl⟩ ?_
  obtain ⟨rfl, h8⟩ := Prod.mk.inj (x_so h)
  obtain ⟨rfl, h7⟩ := Prod.mk.inj h8
  obtain ⟨rfl, rfl⟩ := Prod.mk.inj h7
  exact x_naret dJ4_append_15ec4_7 rfl (Or.inl ⟨_, rfl⟩) rfl rfl
set_option maxHeartbeats 4000000 in
set_option maxRecDepth 100000 in
theorem T_J4_append_bf812 {G : XG} {Y : XY} {q : Nat} {a0 : Nat} {a1 : Int32} {N : XN} {rz : Nat} {Yz : XY} {qz : Nat} {Nz : XN} (h : f_J4_append_bf812 (xS G) (xSv G) Y q a0 a1 N = some (rz, Yz, qz, Nz)) : Cn G yJ4_append_bf812 cJ4_append_bf812 2 (some (.object "java/lang/StringBuilder")) (xR 6 1 400) [.ref a0, .int a1] (some (.ref rz)) Y N Yz Nz := by
  refine x_entryN (by decide) (Nat.le_of_ble_eq_true rfl) rfl fun tb => ?_
  rw [f_J4_append_bf812] at h
  refine x_aload_n 0 dJ4_append_bf812_0 rfl rfl ?_
  refine x_iload_n 1 dJ4_append_bf812_1 rfl rfl ?_
  obtain ⟨c1, h⟩ := x_ckk h
  obtain ⟨r2, Y4, q5, N6, e3, h⟩ := x_bd4 h
  refine x_nSU (b := a0) (As := [.int a1]) (ci := 12) (R' := xR 5 1 400) (zz := yJ5_append_c97b9) dJ4_append_bf812_2 gsu_J4_53 hp_J5_append_c97b9 (by decide) ⟨Nat.le_of_ble_eq_true rfl, Nat.le_of_ble_eq_true rfl⟩ rfl (Nat.le_of_ble_eq_true rfl) ⟨Nat.le_of_ble_eq_true rfl, Nat.le_of_ble_eq_true rfl⟩ vc_J4 c1 (T_J5_append_c97b9 (G := G) e3) ?_
  refine x_pop dJ4_append_bf812_5 rfl ?_
  refine x_aload_n 0 dJ4_append_bf812_6 rfl rfl ?_
  refine x_wide (k' := 1) (n' := 400) ⟨Nat.le_of_ble_eq_true rfl, Nat.le_of_ble_eq_true rfl⟩ ?_
  obtain ⟨rfl, h8⟩ := Prod.mk.inj (x_so h)
  obtain ⟨rfl, h7⟩ := Prod.mk.inj h8
  obtain ⟨rfl, rfl⟩ := Prod.mk.inj h7
  exact x_naret dJ4_append_bf812_7 rfl (Or.inl ⟨_, rfl⟩) rfl rfl
set_option maxHeartbeats 4000000 in
set_option maxRecDepth 100000 in
theorem T_J4_toString_0e30d {G : XG} {Y : XY} {q : Nat} {a0 : Nat} {N : XN} {rz : Nat} {Yz : XY} {qz : Nat} {Nz : XN} (h : f_J4_toString_0e30d Y q a0 N = some (rz, Yz, qz, Nz)) : Cn G yJ4_toString_0e30d cJ4_toString_0e30d 1 (some (.object "java/lang/String")) (xR 6 2 404) [.ref a0] (some (.ref rz)) Y N Yz Nz := by
  refine x_entryN (by decide) (Nat.le_of_ble_eq_true rfl) rfl fun tb => ?_
  rw [f_J4_toString_0e30d] at h
  obtain ⟨c1, h⟩ := x_ckk h
  refine x_newO (q := q) (ci := 11) dJ4_toString_0e30d_0 vc_J0 xin11 tyJ0_ok kl9_J4_18 it9_J0 wn_J0 (fun j hj => match j, hj with | 0, _ => rfl | 1, _ => rfl | 2, _ => rfl | 3, _ => rfl | z + 4, h => absurd h (by omega)) c1.1 ⟨Nat.le_of_ble_eq_true rfl, Nat.le_of_ble_eq_true rfl⟩ ?_
  obtain ⟨Y2, eY2, h⟩ := x_lt h
  refine x_nmY eY2 ?_
  obtain ⟨N3, eN3, h⟩ := x_lt h
  refine x_nmM eN3 ?_
  have k4 : kc Y2 q = 21 := by rw [eY2]; exact kcq rfl
  refine x_dup dJ4_toString_0e30d_3 rfl ?_
  refine x_aload_n 0 dJ4_toString_0e30d_4 rfl rfl ?_
  obtain ⟨Y6, q7, N8, e5, h⟩ := x_bd3 h
  refine x_init (b := q) (As := [.ref a0]) (R' := xR 5 1 400) (zz := yJ0_init_81219) dJ4_toString_0e30d_5 ml_J4_137 wi_J0_init_81219 wn_J0 wc_J0_init_81219 rfl hp_J0_init_81219 ⟨Nat.le_of_ble_eq_true rfl, Nat.le_of_ble_eq_true rfl⟩ rfl (Nat.le_of_ble_eq_true rfl) ⟨Nat.le_of_ble_eq_true rfl, Nat.le_of_ble_eq_true rfl⟩ (T_J0_init_81219 (G := G) e5) ?_
  refine x_wide (k' := 2) (n' := 404) ⟨Nat.le_of_ble_eq_true rfl, Nat.le_of_ble_eq_true rfl⟩ ?_
  obtain ⟨rfl, h8⟩ := Prod.mk.inj (x_so h)
  obtain ⟨rfl, h7⟩ := Prod.mk.inj h8
  obtain ⟨rfl, rfl⟩ := Prod.mk.inj h7
  exact x_naret dJ4_toString_0e30d_8 rfl (Or.inl ⟨_, rfl⟩) rfl rfl
