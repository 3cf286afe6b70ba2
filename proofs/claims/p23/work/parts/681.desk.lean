set_option maxHeartbeats 4000000 in
set_option maxRecDepth 100000 in
theorem T_X8_init {G : XG} {Y : XY} {q : Nat} {a0 : Nat} {N : XN} {Yz : XY} {qz : Nat} {Nz : XN} (h : f_X8_init Y q a0 N = some (Yz, qz, Nz)) : Cn G yX8_init cX8_init 1 none (xR 1 5 5) [.ref a0] none Y N Yz Nz := by
  refine x_entryN (by decide) (Nat.le_of_ble_eq_true rfl) rfl fun tb => ?_
  rw [f_X8_init] at h
  refine x_aload_n 0 dX8_init_0 rfl rfl ?_
  refine x_super dX8_init_1 oi_X8_1 oi_i oi_c (by decide) (Nat.le_of_ble_eq_true rfl) (Nat.le_of_ble_eq_true rfl) ?_
  refine x_aload_n 0 dX8_init_4 rfl rfl ?_
  refine x_iconst (v := 5) dX8_init_5 rfl ?_
  obtain ⟨c1, h⟩ := x_ckk h
  refine x_newP (q := q) (M := 5) (kd := 1) dX8_init_6 rfl ac9_int (by decide) rfl (by decide) (Or.inl ⟨rfl, rfl, rfl⟩) c1.1 ⟨Nat.le_of_ble_eq_true rfl, Nat.le_of_ble_eq_true rfl⟩ ?_
  obtain ⟨Y2, eY2, h⟩ := x_lt h
  refine x_nmY eY2 ?_
  obtain ⟨N3, eN3, h⟩ := x_lt h
  refine x_nmM eN3 ?_
  have k4 : kc Y2 q = 1 := by rw [eY2]; exact kcq rfl
  refine x_dup dX8_init_8 rfl ?_
  refine x_iconst (v := 0) dX8_init_9 rfl ?_
  refine x_iconst (v := 5) dX8_init_10 rfl ?_
  obtain ⟨c5, h⟩ := x_ckk h
  refine x_iast dX8_init_11 k4 (xb_in c5) xj_0 ?_
  obtain ⟨N6, eN6, h⟩ := x_lt h
  refine x_nmM eN6 ?_
  refine x_dup dX8_init_12 rfl ?_
  refine x_iconst (v := 1) dX8_init_13 rfl ?_
  refine x_bipush (v := 10) dX8_init_14 rfl ?_
  obtain ⟨c7, h⟩ := x_ckk h
  refine x_iast dX8_init_16 k4 (xb_in c7) xj_1 ?_
  obtain ⟨N8, eN8, h⟩ := x_lt h
  refine x_nmM eN8 ?_
  refine x_dup dX8_init_17 rfl ?_
  refine x_iconst (v := 2) dX8_init_18 rfl ?_
  refine x_bipush (v := 10) dX8_init_19 rfl ?_
  obtain ⟨c9, h⟩ := x_ckk h
  refine x_iast dX8_init_21 k4 (xb_in c9) xj_2 ?_
  obtain ⟨N10, eN10, h⟩ := x_lt h
  refine x_nmM eN10 ?_
  refine x_dup dX8_init_22 rfl ?_
  refine x_iconst (v := 3) dX8_init_23 rfl ?_
  refine x_bipush (v := 10) dX8_init_24 rfl ?_
  obtain ⟨c11, h⟩ := x_ckk h
  refine x_iast dX8_init_26 k4 (xb_in c11) xj_3 ?_
  obtain ⟨N12, eN12, h⟩ := x_lt h
  refine x_nmM eN12 ?_
  refine x_dup dX8_init_27 rfl ?_
  refine x_iconst (v := 4) dX8_init_28 rfl ?_
  refine x_iconst (v := 1) dX8_init_29 rfl ?_
  obtain ⟨c13, h⟩ := x_ckk h
  refine x_iast dX8_init_30 k4 (xb_in c13) xj_4 ?_
  obtain ⟨N14, eN14, h⟩ := x_lt h
  refine x_nmM eN14 ?_
  obtain ⟨c15, h⟩ := x_ckk h
  refine x_putr dX8_init_31 vc_X8 xin8 tyX8_ok nmX8 fb_X8_2 fl_X8_7 ff_X8_2 xr_X8_2 rfl rfl c15 ?_
  obtain ⟨Y16, eY16, h⟩ := x_lt h
  refine x_nmY eY16 ?_
  refine x_aload_n 0 dX8_init_34 rfl rfl ?_
  refine x_iconst (v := 0) dX8_init_35 rfl ?_
  obtain ⟨c17, h⟩ := x_ckk h
  refine x_newA (q := q + 1) (M := 0) dX8_init_36 kl9_X8_13 (by decide) rfl (by decide) c17.1 ⟨Nat.le_of_ble_eq_true rfl, Nat.le_of_ble_eq_true rfl⟩ ?_
  obtain ⟨Y18, eY18, h⟩ := x_lt h
  refine x_nmY eY18 ?_
  obtain ⟨N19, eN19, h⟩ := x_lt h
  refine x_nmM eN19 ?_
  have k20 : kc Y18 (q + 1) = 8 := by rw [eY18]; exact kcq rfl
  have k21 : kc Y16 a0 = 18 := by rw [eY16]; exact c15
  have k22 : kc Y18 a0 = 18 := by rw [eY18]; exact kc_yK c17.1 c17.2 (by decide) (by decide) k21
  refine x_putr dX8_init_39 vc_X8 xin8 tyX8_ok nmX8 fb_X8_3 fl_X8_14 ff_X8_3 xr_X8_3 rfl rfl k22 ?_
  obtain ⟨Y23, eY23, h⟩ := x_lt h
  refine x_nmY eY23 ?_
  refine x_aload_n 0 dX8_init_42 rfl rfl ?_
  refine x_iconst (v := 0) dX8_init_43 rfl ?_
  obtain ⟨c24, h⟩ := x_ckk h
  refine x_newA (q := q + 2) (M := 0) dX8_init_44 kl9_X8_13 (by decide) rfl (by decide) c24.1 ⟨Nat.le_of_ble_eq_true rfl, Nat.le_of_ble_eq_true rfl⟩ ?_
  obtain ⟨Y25, eY25, h⟩ := x_lt h
  refine x_nmY eY25 ?_
  obtain ⟨N26, eN26, h⟩ := x_lt h
  refine x_nmM eN26 ?_
  have k27 : kc Y25 (q + 2) = 8 := by rw [eY25]; exact kcq rfl
  have k28 : kc Y23 a0 = 18 := by rw [eY23]; exact k22
  have k29 : kc Y25 a0 = 18 := by rw [eY25]; exact kc_yK c24.1 c24.2 (by decide) (by decide) k28
  refine x_putr dX8_init_47 vc_X8 xin8 tyX8_ok nmX8 fb_X8_4 fl_X8_18 ff_X8_4 xr_X8_4 rfl rfl k29 ?_
  obtain ⟨Y30, eY30, h⟩ := x_lt h
  refine x_nmY eY30 ?_
  refine x_aload_n 0 dX8_init_50 rfl rfl ?_
  refine x_iconst (v := 0) dX8_init_51 rfl ?_
  obtain ⟨c31, h⟩ := x_ckk h
  refine x_newA (q := q + 3) (M := 0) dX8_init_52 kl9_X8_13 (by decide) rfl (by decide) c31.1 ⟨Nat.le_of_ble_eq_true rfl, Nat.le_of_ble_eq_true rfl⟩ ?_
  obtain ⟨Y32, eY32, h⟩ := x_lt h
  refine x_nmY eY32 ?_
  obtain ⟨N33, eN33, h⟩ := x_lt h
  refine x_nmM eN33 ?_
  have k34 : kc Y32 (q + 3) = 8 := by rw [eY32]; exact kcq rfl
  have k35 : kc Y30 a0 = 18 := by rw [eY30]; exact k29
  have k36 : kc Y32 a0 = 18 := by rw [eY32]; exact kc_yK c31.1 c31.2 (by decide) (by decide) k35
  refine x_putr dX8_init_55 vc_X8 xin8 tyX8_ok nmX8 fb_X8_5 fl_X8_21 ff_X8_5 xr_X8_5 rfl rfl k36 ?_
  obtain ⟨Y37, eY37, h⟩ := x_lt h
  refine x_nmY eY37 ?_
  refine x_aload_n 0 dX8_init_58 rfl rfl ?_
  refine x_iconst (v := 0) dX8_init_59 rfl ?_
  obtain ⟨c38, h⟩ := x_ckk h
  refine x_newA (q := q + 4) (M := 0) dX8_init_60 kl9_X8_13 (by decide) rfl (by decide) c38.1 ⟨Nat.le_of_ble_eq_true rfl, Nat.le_of_ble_eq_true rfl⟩ ?_
  obtain ⟨Y39, eY39, h⟩ := x_lt h
  refine x_nmY eY39 ?_
  obtain ⟨N40, eN40, h⟩ := x_lt h
  refine x_nmM eN40 ?_
  have k41 : kc Y39 (q + 4) = 8 := by rw [eY39]; exact kcq rfl
  have k42 : kc Y37 a0 = 18 := by rw [eY37]; exact k36
  have k43 : kc Y39 a0 = 18 := by rw [eY39]; exact kc_yK c38.1 c38.2 (by decide) (by decide) k42
  refine x_putr dX8_init_63 vc_X8 xin8 tyX8_ok nmX8 fb_X8_6 fl_X8_24 ff_X8_6 xr_X8_6 rfl rfl k43 ?_
  obtain ⟨Y44, eY44, h⟩ := x_lt h
  refine x_nmY eY44 ?_
  refine x_wide (k' := 5) (n' := 5) ⟨Nat.le_of_ble_eq_true rfl, Nat.le_of_ble_eq_true rfl⟩ ?_
  obtain ⟨rfl, h8⟩ := Prod.mk.inj (x_so h)
  obtain ⟨rfl, rfl⟩ := Prod.mk.inj h8
  exact x_nvret dX8_init_66 rfl rfl rfl
set_option maxHeartbeats 4000000 in
set_option maxRecDepth 100000 in
theorem T_X8_copy {G : XG} {Y : XY} {q : Nat} {a0 : Nat} {N : XN} {rz : Nat} {Yz : XY} {qz : Nat} {Nz : XN} (h : f_X8_copy Y q a0 N = some (rz, Yz, qz, Nz)) : Cn G yX8_copy cX8_copy 2 (some (.object "LineLeasesLaw$Desk")) (xR 2 266 2317) [.ref a0] (some (.ref rz)) Y N Yz Nz := by
  refine x_entryN (by decide) (Nat.le_of_ble_eq_true rfl) rfl fun tb => ?_
  rw [f_X8_copy] at h
  obtain ⟨c1, h⟩ := x_ckk h
  refine x_newO (q := q) (ci := 8) dX8_copy_0 vc_X8 xin8 tyX8_ok kl9_X8_8 it9_X8 wn_X8 (fun j hj => match j, hj with | 0, _ => rfl | 1, _ => rfl | 2, _ => rfl | 3, _ => rfl | 4, _ => rfl | 5, _ => rfl | 6, _ => rfl | 7, _ => rfl | z + 8, h => absurd h (by omega)) c1.1 ⟨Nat.le_of_ble_eq_true rfl, Nat.le_of_ble_eq_true rfl⟩ ?_
  obtain ⟨Y2, eY2, h⟩ := x_lt h
  refine x_nmY eY2 ?_
  obtain ⟨N3, eN3, h⟩ := x_lt h
  refine x_nmM eN3 ?_
  have k4 : kc Y2 q = 18 := by rw [eY2]; exact kcq rfl
  refine x_dup dX8_copy_3 rfl ?_
  obtain ⟨Y6, q7, N8, e5, h⟩ := x_bd3 h
  refine x_init (b := q) (As := []) (R' := xR 1 5 5) (zz := yX8_init) dX8_copy_4 ml_X8_27 wi_X8_init wn_X8 wc_X8_init rfl hp_X8_init ⟨Nat.le_of_ble_eq_true rfl, Nat.le_of_ble_eq_true rfl⟩ rfl (Nat.le_of_ble_eq_true rfl) ⟨Nat.le_of_ble_eq_true rfl, Nat.le_of_ble_eq_true rfl⟩ (T_X8_init (G := G) e5) ?_
  refine x_astore_n (L' := [(0, .ref a0), (1, .ref q)]) [1, 0] dX8_copy_7 rfl (by decide) rfl ?_
  refine x_aload_n 1 dX8_copy_8 rfl rfl ?_
  refine x_aload_n 0 dX8_copy_9 rfl rfl ?_
  obtain ⟨c9, h⟩ := x_ckk h
  refine x_geti dX8_copy_10 vc_X8 xin8 fb_X8_0 fl_X8_28 xr_X8_0 c9 ?_
  obtain ⟨c10, h⟩ := x_ckk h
  refine x_puti dX8_copy_13 vc_X8 xin8 tyX8_ok nmX8 fb_X8_0 fl_X8_28 ff_X8_0 xr_X8_0 (nf_X8_0 _) (ft_X8_0 _) c10 ?_
  obtain ⟨N11, eN11, h⟩ := x_lt h
  refine x_nmM eN11 ?_
  refine x_aload_n 1 dX8_copy_16 rfl rfl ?_
  refine x_aload_n 0 dX8_copy_17 rfl rfl ?_
  refine x_geti dX8_copy_18 vc_X8 xin8 fb_X8_1 fl_X8_32 xr_X8_1 c9 ?_
  refine x_puti dX8_copy_21 vc_X8 xin8 tyX8_ok nmX8 fb_X8_1 fl_X8_32 ff_X8_1 xr_X8_1 (nf_X8_1 _) (ft_X8_1 _) c10 ?_
  obtain ⟨N12, eN12, h⟩ := x_lt h
  refine x_nmM eN12 ?_
  refine x_aload_n 1 dX8_copy_24 rfl rfl ?_
  refine x_aload_n 0 dX8_copy_25 rfl rfl ?_
  refine x_getq dX8_copy_26 vc_X8 xin8 fb_X8_2 fl_X8_7 xr_X8_2 c9 ?_
  refine x_putq (o := gr Y6 a0 2) dX8_copy_29 vc_X8 xin8 tyX8_ok nmX8 fb_X8_2 fl_X8_7 ff_X8_2 xr_X8_2 (by cases (gr Y6 a0 2) <;> rfl) (by cases (gr Y6 a0 2) <;> rfl) c10 ?_
  obtain ⟨Y13, eY13, h⟩ := x_lt h
  refine x_nmY eY13 ?_
  refine x_aload_n 1 dX8_copy_32 rfl rfl ?_
  refine x_aload_n 0 dX8_copy_33 rfl rfl ?_
  have k14 : kc Y13 a0 = 18 := by rw [eY13]; exact c9
  obtain ⟨c16, h⟩ := x_ckk h
  obtain ⟨p15, lp15, h⟩ := x_lt h
  have ep15 : gr Y13 a0 3 = some p15 := by rw [lp15]; exact c16
  refine x_getr dX8_copy_34 vc_X8 xin8 fb_X8_3 fl_X8_14 xr_X8_3 k14 ep15 ?_
  obtain ⟨r17, Y19, q20, N21, e18, h⟩ := x_bd4 h
  refine x_nSN (As := [.ref p15]) (R' := xR 1 65 576) (zz := yL_copied) dX8_copy_37 (by decide) wt_L_copied wn_L wc_L_copied hp_L_copied ⟨Nat.le_of_ble_eq_true rfl, Nat.le_of_ble_eq_true rfl⟩ rfl (Nat.le_of_ble_eq_true rfl) ⟨Nat.le_of_ble_eq_true rfl, Nat.le_of_ble_eq_true rfl⟩ (T_L_copied (G := G) e18) ?_
  obtain ⟨c22, h⟩ := x_ckk h
  refine x_putr dX8_copy_40 vc_X8 xin8 tyX8_ok nmX8 fb_X8_3 fl_X8_14 ff_X8_3 xr_X8_3 rfl rfl c22 ?_
  obtain ⟨Y23, eY23, h⟩ := x_lt h
  refine x_nmY eY23 ?_
  refine x_aload_n 1 dX8_copy_43 rfl rfl ?_
  refine x_aload_n 0 dX8_copy_44 rfl rfl ?_
  obtain ⟨c24, h⟩ := x_ckk h
  obtain ⟨c26, h⟩ := x_ckk h
  obtain ⟨p25, lp25, h⟩ := x_lt h
  have ep25 : gr Y23 a0 4 = some p25 := by rw [lp25]; exact c26
  refine x_getr dX8_copy_45 vc_X8 xin8 fb_X8_4 fl_X8_18 xr_X8_4 c24 ep25 ?_
  obtain ⟨r27, Y29, q30, N31, e28, h⟩ := x_bd4 h
  refine x_nSN (As := [.ref p25]) (R' := xR 1 65 576) (zz := yL_copied) dX8_copy_48 (by decide) wt_L_copied wn_L wc_L_copied hp_L_copied ⟨Nat.le_of_ble_eq_true rfl, Nat.le_of_ble_eq_true rfl⟩ rfl (Nat.le_of_ble_eq_true rfl) ⟨Nat.le_of_ble_eq_true rfl, Nat.le_of_ble_eq_true rfl⟩ (T_L_copied (G := G) e28) ?_
  obtain ⟨c32, h⟩ := x_ckk h
  refine x_putr dX8_copy_51 vc_X8 xin8 tyX8_ok nmX8 fb_X8_4 fl_X8_18 ff_X8_4 xr_X8_4 rfl rfl c32 ?_
  obtain ⟨Y33, eY33, h⟩ := x_lt h
  refine x_nmY eY33 ?_
  refine x_aload_n 1 dX8_copy_54 rfl rfl ?_
  refine x_aload_n 0 dX8_copy_55 rfl rfl ?_
  obtain ⟨c34, h⟩ := x_ckk h
  obtain ⟨c36, h⟩ := x_ckk h
  obtain ⟨p35, lp35, h⟩ := x_lt h
  have ep35 : gr Y33 a0 5 = some p35 := by rw [lp35]; exact c36
  refine x_getr dX8_copy_56 vc_X8 xin8 fb_X8_5 fl_X8_21 xr_X8_5 c34 ep35 ?_
  obtain ⟨r37, Y39, q40, N41, e38, h⟩ := x_bd4 h
  refine x_nSN (As := [.ref p35]) (R' := xR 1 65 576) (zz := yL_copied) dX8_copy_59 (by decide) wt_L_copied wn_L wc_L_copied hp_L_copied ⟨Nat.le_of_ble_eq_true rfl, Nat.le_of_ble_eq_true rfl⟩ rfl (Nat.le_of_ble_eq_true rfl) ⟨Nat.le_of_ble_eq_true rfl, Nat.le_of_ble_eq_true rfl⟩ (T_L_copied (G := G) e38) ?_
  obtain ⟨c42, h⟩ := x_ckk h
  refine x_putr dX8_copy_62 vc_X8 xin8 tyX8_ok nmX8 fb_X8_5 fl_X8_21 ff_X8_5 xr_X8_5 rfl rfl c42 ?_
  obtain ⟨Y43, eY43, h⟩ := x_lt h
  refine x_nmY eY43 ?_
  refine x_aload_n 1 dX8_copy_65 rfl rfl ?_
  refine x_aload_n 0 dX8_copy_66 rfl rfl ?_
  obtain ⟨c44, h⟩ := x_ckk h
  obtain ⟨c46, h⟩ := x_ckk h
  obtain ⟨p45, lp45, h⟩ := x_lt h
  have ep45 : gr Y43 a0 6 = some p45 := by rw [lp45]; exact c46
  refine x_getr dX8_copy_67 vc_X8 xin8 fb_X8_6 fl_X8_24 xr_X8_6 c44 ep45 ?_
  obtain ⟨r47, Y49, q50, N51, e48, h⟩ := x_bd4 h
  refine x_nSN (As := [.ref p45]) (R' := xR 1 65 576) (zz := yL_copied) dX8_copy_70 (by decide) wt_L_copied wn_L wc_L_copied hp_L_copied ⟨Nat.le_of_ble_eq_true rfl, Nat.le_of_ble_eq_true rfl⟩ rfl (Nat.le_of_ble_eq_true rfl) ⟨Nat.le_of_ble_eq_true rfl, Nat.le_of_ble_eq_true rfl⟩ (T_L_copied (G := G) e48) ?_
  obtain ⟨c52, h⟩ := x_ckk h
  refine x_putr dX8_copy_73 vc_X8 xin8 tyX8_ok nmX8 fb_X8_6 fl_X8_24 ff_X8_6 xr_X8_6 rfl rfl c52 ?_
  obtain ⟨Y53, eY53, h⟩ := x_lt h
  refine x_nmY eY53 ?_
  refine x_aload_n 1 dX8_copy_76 rfl rfl ?_
  refine x_aload_n 0 dX8_copy_77 rfl rfl ?_
  obtain ⟨c54, h⟩ := x_ckk h
  refine x_getq dX8_copy_78 vc_X8 xin8 fb_X8_7 fl_X8_41 xr_X8_7 c54 ?_
  have k55 : kc Y53 q = 18 := by rw [eY53]; exact c52
  refine x_putq (o := gr Y53 a0 7) dX8_copy_81 vc_X8 xin8 tyX8_ok nmX8 fb_X8_7 fl_X8_41 ff_X8_7 xr_X8_7 (by cases (gr Y53 a0 7) <;> rfl) (by cases (gr Y53 a0 7) <;> rfl) k55 ?_
  obtain ⟨Y56, eY56, h⟩ := x_lt h
  refine x_nmY eY56 ?_
  refine x_aload_n 1 dX8_copy_84 rfl rfl ?_
  refine x_wide (k' := 266) (n' := 2317) ⟨Nat.le_of_ble_eq_true rfl, Nat.le_of_ble_eq_true rfl⟩ ?_
  obtain ⟨rfl, h8⟩ := Prod.mk.inj (x_so h)
  obtain ⟨rfl, h7⟩ := Prod.mk.inj h8
  obtain ⟨rfl, rfl⟩ := Prod.mk.inj h7
  exact x_naret dX8_copy_85 rfl (Or.inl ⟨_, rfl⟩) rfl rfl
set_option maxHeartbeats 4000000 in
set_option maxRecDepth 100000 in
theorem T_X8_held_14 {G : XG} {tb : List ExceptionTableEntry} {Y : XY} {rz : Int32} {Nz : XN} : ∀ (D9 : Nat) (v_1 : Int32) (v_2 : Int32) (p_3 : Nat) (v_4 : Int32) (v_5 : Int32) (N : XN), f_X8_held_14 Y D9 v_1 v_2 p_3 v_4 v_5 N = some (rz, Nz) → ExZ G yX8_held cX8_held 7 (some .int) tb (xR 1 0 0) (xZn G (xR 1 0 0) (some (.int rz)) Y Nz) 0 0 14 [(1, .int v_1), (2, .int v_2), (3, .ref p_3), (4, .int v_4), (5, .int v_5)] [] Y N := by
  intro D9
  induction D9 with
  | zero => intro v_1 v_2 p_3 v_4 v_5 N h; exact nomatch (show none = some _ from h)
  | succ D9 ih =>
    intro v_1 v_2 p_3 v_4 v_5 N h
    rw [f_X8_held_14] at h
    refine x_iload 4 dX8_held_14 rfl ?_
    refine x_iload 3 dX8_held_16 rfl ?_
    rcases x_if h with ⟨c1, h⟩ | ⟨c1, h⟩
    · refine x_icmp_ge_t (tgt := 52) dX8_held_18 (by decide) c1 ?_
      refine x_iload_n 1 dX8_held_52 rfl rfl ?_
      obtain ⟨rfl, rfl⟩ := Prod.mk.inj (x_so h)
      exact x_niret dX8_held_53 rfl rfl rfl
    · refine x_icmp_ge_f (tgt := 52) dX8_held_18 (by decide) c1 ?_
      refine x_aload_n 2 dX8_held_21 rfl rfl ?_
      refine x_iload 4 dX8_held_22 rfl ?_
      obtain ⟨c2, h⟩ := x_ckk h
      obtain ⟨c3, h⟩ := x_ckk h
      obtain ⟨c5, h⟩ := x_ckk h
      obtain ⟨p4, lp4, h⟩ := x_lt h
      have ep4 : gr Y p_3 v_5.toNatClampNeg = some p4 := by rw [lp4]; exact c5
      refine x_aald (j := 4) dX8_held_24 (by decide) c2 (xb_in c3) ep4 ?_
      refine x_astore (L' := [(1, .int v_1), (2, .int v_2), (3, .ref p_3), (4, .int v_4), (5, .int v_5), (6, .ref p4)]) [1, 2, 3, 4, 5, 0] dX8_held_25 (by decide) rfl ?_
      refine x_aload 5 dX8_held_27 rfl ?_
      refine x_iconst (v := 3) dX8_held_29 rfl ?_
      obtain ⟨c6, h⟩ := x_ckk h
      obtain ⟨c7, h⟩ := x_ckk h
      refine x_iald dX8_held_30 c6 (xb_in c7) xj_3 ?_
      refine x_iconst (v := 1) dX8_held_31 rfl ?_
      rcases x_if h with ⟨c8, h⟩ | ⟨c8, h⟩
      · refine x_icmp_ne_f (tgt := 46) dX8_held_32 (by decide) c8 ?_
        refine x_aload 5 dX8_held_35 rfl ?_
        refine x_iconst (v := 4) dX8_held_37 rfl ?_
        obtain ⟨c9, h⟩ := x_ckk h
        refine x_iald dX8_held_38 c6 (xb_in c9) xj_4 ?_
        refine x_iload_n 0 dX8_held_39 rfl rfl ?_
        rcases x_if h with ⟨c10, h⟩ | ⟨c10, h⟩
        · refine x_icmp_ne_f (tgt := 46) dX8_held_40 (by decide) c10 ?_
          refine x_iinc (L' := [(1, .int v_1), (2, .int (v_2 + 1)), (3, .ref p_3), (4, .int v_4), (5, .int v_5)]) 1 [1, 0, 2, 3, 4] dX8_held_43 rfl rfl (by decide) rfl ?_
          refine x_iinc (L' := [(1, .int v_1), (2, .int (v_2 + 1)), (3, .ref p_3), (4, .int v_4), (5, .int (v_5 + 1))]) 4 [1, 2, 3, 4, 0] dX8_held_46 rfl rfl (by decide) rfl ?_
          refine x_goto (tgt := 14) dX8_held_49 (by decide) ?_
          exact ih v_1 (v_2 + 1) p_3 v_4 (v_5 + 1) N h
        · refine x_icmp_ne_t (tgt := 46) dX8_held_40 (by decide) c10 ?_
          refine x_iinc (L' := [(1, .int v_1), (2, .int v_2), (3, .ref p_3), (4, .int v_4), (5, .int (v_5 + 1))]) 4 [1, 2, 3, 4, 0] dX8_held_46 rfl rfl (by decide) rfl ?_
          refine x_goto (tgt := 14) dX8_held_49 (by decide) ?_
          exact ih v_1 v_2 p_3 v_4 (v_5 + 1) N h
      · refine x_icmp_ne_t (tgt := 46) dX8_held_32 (by decide) c8 ?_
        refine x_iinc (L' := [(1, .int v_1), (2, .int v_2), (3, .ref p_3), (4, .int v_4), (5, .int (v_5 + 1))]) 4 [1, 2, 3, 4, 0] dX8_held_46 rfl rfl (by decide) rfl ?_
        refine x_goto (tgt := 14) dX8_held_49 (by decide) ?_
        exact ih v_1 v_2 p_3 v_4 (v_5 + 1) N h
set_option maxHeartbeats 4000000 in
set_option maxRecDepth 100000 in
theorem T_X8_held {G : XG} {Y : XY} {a0 : Nat} {a1 : Int32} {N : XN} {rz : Int32} {Nz : XN} (h : f_X8_held Y a0 a1 N = some (rz, Nz)) : Cn G yX8_held cX8_held 7 (some .int) (xR 1 0 0) [.ref a0, .int a1] (some (.int rz)) Y N Y Nz := by
  refine x_entryN (by decide) (Nat.le_of_ble_eq_true rfl) rfl fun tb => ?_
  rw [f_X8_held] at h
  refine x_iconst (v := 0) dX8_held_0 rfl ?_
  refine x_istore_n (L' := [(0, .ref a0), (1, .int a1), (2, .int 0)]) [1, 2, 0] dX8_held_1 rfl (by decide) rfl ?_
  refine x_aload_n 0 dX8_held_2 rfl rfl ?_
  obtain ⟨c1, h⟩ := x_ckk h
  obtain ⟨c3, h⟩ := x_ckk h
  obtain ⟨p2, lp2, h⟩ := x_lt h
  have ep2 : gr Y a0 6 = some p2 := by rw [lp2]; exact c3
  refine x_getr dX8_held_3 vc_X8 xin8 fb_X8_6 fl_X8_24 xr_X8_6 c1 ep2 ?_
  refine x_astore_n (L' := [(1, .int a1), (2, .int 0), (3, .ref p2)]) [2, 3, 0] dX8_held_6 rfl (by decide) rfl ?_
  refine x_aload_n 2 dX8_held_7 rfl rfl ?_
  obtain ⟨c4, h⟩ := x_ckk h
  refine x_rlen (j := 4) dX8_held_8 (by decide) c4 rfl ?_
  refine x_istore (L' := [(1, .int a1), (2, .int 0), (3, .ref p2), (4, .int (Int32.ofNat (kn Y p2)))]) [1, 2, 3, 0] dX8_held_9 (by decide) rfl ?_
  refine x_iconst (v := 0) dX8_held_11 rfl ?_
  refine x_istore (L' := [(1, .int a1), (2, .int 0), (3, .ref p2), (4, .int (Int32.ofNat (kn Y p2))), (5, .int 0)]) [1, 2, 3, 4, 0] dX8_held_12 (by decide) rfl ?_
  exact T_X8_held_14 (G := G) FU a1 0 p2 (Int32.ofNat (kn Y p2)) 0 N h
set_option maxHeartbeats 4000000 in
set_option maxRecDepth 100000 in
theorem T_X8_assign_22 {G : XG} {tb : List ExceptionTableEntry} {Y : XY} {Nz : XN} : ∀ (D9 : Nat) (p_0 : Nat) (p_1 : Nat) (v_2 : Int32) (p_3 : Nat) (v_4 : Int32) (v_5 : Int32) (N : XN), f_X8_assign_22 Y D9 p_0 p_1 v_2 p_3 v_4 v_5 N = some Nz → ExZ G yX8_assign cX8_assign 7 none tb (xR 2 0 0) (xZn G (xR 2 0 0) none Y Nz) 0 0 22 [(0, .ref p_0), (1, .ref p_1), (2, .int v_2), (3, .ref p_3), (4, .int v_4), (5, .int v_5)] [] Y N := by
  intro D9
  induction D9 with
  | zero => intro p_0 p_1 v_2 p_3 v_4 v_5 N h; exact nomatch (show none = some _ from h)
  | succ D9 ih =>
    intro p_0 p_1 v_2 p_3 v_4 v_5 N h
    rw [f_X8_assign_22] at h
    refine x_iload 5 dX8_assign_22 rfl ?_
    refine x_iload 4 dX8_assign_24 rfl ?_
    rcases x_if h with ⟨c1, h⟩ | ⟨c1, h⟩
    · refine x_icmp_ge_t (tgt := 62) dX8_assign_26 (by decide) c1 ?_
      refine x_aload_n 1 dX8_assign_62 rfl rfl ?_
      refine x_iconst (v := 4) dX8_assign_63 rfl ?_
      refine x_iload_n 2 dX8_assign_64 rfl rfl ?_
      obtain ⟨c2, h⟩ := x_ckk h
      obtain ⟨c3, h⟩ := x_ckk h
      refine x_iast dX8_assign_65 c2 (xb_in c3) xj_4 ?_
      obtain ⟨N4, eN4, h⟩ := x_lt h
      refine x_nmM eN4 ?_
      refine x_aload_n 1 dX8_assign_66 rfl rfl ?_
      refine x_bipush (v := 7) dX8_assign_67 rfl ?_
      refine x_aload_n 0 dX8_assign_69 rfl rfl ?_
      obtain ⟨c5, h⟩ := x_ckk h
      refine x_geti dX8_assign_70 vc_X8 xin8 fb_X8_0 fl_X8_28 xr_X8_0 c5 ?_
      obtain ⟨c6, h⟩ := x_ckk h
      refine x_iast dX8_assign_73 c2 (xb_in c6) xj_7 ?_
      obtain ⟨N7, eN7, h⟩ := x_lt h
      refine x_nmM eN7 ?_
      obtain rfl := x_so h
      exact x_nvret dX8_assign_74 rfl rfl rfl
    · refine x_icmp_ge_f (tgt := 62) dX8_assign_26 (by decide) c1 ?_
      refine x_aload_n 3 dX8_assign_29 rfl rfl ?_
      refine x_iload 5 dX8_assign_30 rfl ?_
      obtain ⟨c8, h⟩ := x_ckk h
      obtain ⟨c9, h⟩ := x_ckk h
      refine x_iald dX8_assign_32 c8 (xb_in c9) rfl ?_
      obtain ⟨v10, ev10, h⟩ := x_lt h
      refine x_nmi ev10 ?_
      refine x_istore (L' := [(0, .ref p_0), (1, .ref p_1), (2, .int v_2), (3, .ref p_3), (4, .int v_4), (5, .int v_5), (6, .int v10)]) [1, 2, 3, 4, 5, 6, 0] dX8_assign_33 (by decide) rfl ?_
      refine x_iload_n 2 dX8_assign_35 rfl rfl ?_
      rcases x_if h with ⟨c11, h⟩ | ⟨c11, h⟩
      · refine x_if_lt_t (tgt := 53) dX8_assign_36 (by decide) c11 ?_
        refine x_iload 6 dX8_assign_53 rfl ?_
        refine x_istore_n (L' := [(0, .ref p_0), (1, .ref p_1), (2, .int v10), (3, .ref p_3), (4, .int v_4), (5, .int v_5)]) [1, 2, 0, 3, 4, 5] dX8_assign_55 rfl (by decide) rfl ?_
        refine x_iinc (L' := [(0, .ref p_0), (1, .ref p_1), (2, .int v10), (3, .ref p_3), (4, .int v_4), (5, .int (v_5 + 1))]) 5 [1, 2, 3, 4, 5, 0] dX8_assign_56 rfl rfl (by decide) rfl ?_
        refine x_goto (tgt := 22) dX8_assign_59 (by decide) ?_
        exact ih p_0 p_1 v10 p_3 v_4 (v_5 + 1) N h
      · refine x_if_lt_f (tgt := 53) dX8_assign_36 (by decide) c11 ?_
        refine x_aload_n 0 dX8_assign_39 rfl rfl ?_
        refine x_iload 6 dX8_assign_40 rfl ?_
        obtain ⟨c12, h⟩ := x_ckk h
        obtain ⟨r13, N15, e14, h⟩ := x_bd2 h
        refine x_nV (b := p_0) (As := [.int v10]) (ci := 8) (R' := xR 1 0 0) (zz := yX8_held) dX8_assign_42 ml_X8_45 wi_X8_held wv_X8_held wn_X8 wc_X8_held hp_X8_held ⟨Nat.le_of_ble_eq_true rfl, Nat.le_of_ble_eq_true rfl⟩ rfl (Nat.le_of_ble_eq_true rfl) ⟨Nat.le_refl _, Nat.le_refl _⟩ vc_X8 c12 (T_X8_held (G := G) e14) ?_
        refine x_aload_n 0 dX8_assign_45 rfl rfl ?_
        refine x_iload_n 2 dX8_assign_46 rfl rfl ?_
        obtain ⟨r16, N18, e17, h⟩ := x_bd2 h
        refine x_nV (b := p_0) (As := [.int v_2]) (ci := 8) (R' := xR 1 0 0) (zz := yX8_held) dX8_assign_47 ml_X8_45 wi_X8_held wv_X8_held wn_X8 wc_X8_held hp_X8_held ⟨Nat.le_of_ble_eq_true rfl, Nat.le_of_ble_eq_true rfl⟩ rfl (Nat.le_of_ble_eq_true rfl) ⟨Nat.le_refl _, Nat.le_refl _⟩ vc_X8 c12 (T_X8_held (G := G) e17) ?_
        rcases x_if h with ⟨c19, h⟩ | ⟨c19, h⟩
        · refine x_icmp_ge_t (tgt := 56) dX8_assign_50 (by decide) c19 ?_
          refine x_iinc (L' := [(0, .ref p_0), (1, .ref p_1), (2, .int v_2), (3, .ref p_3), (4, .int v_4), (5, .int (v_5 + 1))]) 5 [1, 2, 3, 4, 5, 0] dX8_assign_56 rfl rfl (by decide) rfl ?_
          refine x_goto (tgt := 22) dX8_assign_59 (by decide) ?_
          exact ih p_0 p_1 v_2 p_3 v_4 (v_5 + 1) N18 h
        · refine x_icmp_ge_f (tgt := 56) dX8_assign_50 (by decide) c19 ?_
          refine x_iload 6 dX8_assign_53 rfl ?_
          refine x_istore_n (L' := [(0, .ref p_0), (1, .ref p_1), (2, .int v10), (3, .ref p_3), (4, .int v_4), (5, .int v_5)]) [1, 2, 0, 3, 4, 5] dX8_assign_55 rfl (by decide) rfl ?_
          refine x_iinc (L' := [(0, .ref p_0), (1, .ref p_1), (2, .int v10), (3, .ref p_3), (4, .int v_4), (5, .int (v_5 + 1))]) 5 [1, 2, 3, 4, 5, 0] dX8_assign_56 rfl rfl (by decide) rfl ?_
          refine x_goto (tgt := 22) dX8_assign_59 (by decide) ?_
          exact ih p_0 p_1 v10 p_3 v_4 (v_5 + 1) N18 h
set_option maxHeartbeats 4000000 in
set_option maxRecDepth 100000 in
theorem T_X8_assign {G : XG} {Y : XY} {a0 : Nat} {a1 : Nat} {N : XN} {Nz : XN} (h : f_X8_assign Y a0 a1 N = some Nz) : Cn G yX8_assign cX8_assign 7 none (xR 2 0 0) [.ref a0, .ref a1] none Y N Y Nz := by
  refine x_entryN (by decide) (Nat.le_of_ble_eq_true rfl) rfl fun tb => ?_
  rw [f_X8_assign] at h
  refine x_aload_n 1 dX8_assign_0 rfl rfl ?_
  refine x_iconst (v := 4) dX8_assign_1 rfl ?_
  refine x_iconst (v := (-1)) dX8_assign_2 rfl ?_
  obtain ⟨c1, h⟩ := x_ckk h
  obtain ⟨c2, h⟩ := x_ckk h
  refine x_iast dX8_assign_3 c1 (xb_in c2) xj_4 ?_
  obtain ⟨N3, eN3, h⟩ := x_lt h
  refine x_nmM eN3 ?_
  refine x_iconst (v := (-1)) dX8_assign_4 rfl ?_
  refine x_istore_n (L' := [(0, .ref a0), (1, .ref a1), (2, .int (-1))]) [1, 2, 0] dX8_assign_5 rfl (by decide) rfl ?_
  refine x_aload_n 0 dX8_assign_6 rfl rfl ?_
  obtain ⟨c4, h⟩ := x_ckk h
  obtain ⟨c6, h⟩ := x_ckk h
  obtain ⟨p5, lp5, h⟩ := x_lt h
  have ep5 : gr Y a0 5 = some p5 := by rw [lp5]; exact c6
  refine x_getr dX8_assign_7 vc_X8 xin8 fb_X8_5 fl_X8_21 xr_X8_5 c4 ep5 ?_
  refine x_aload_n 1 dX8_assign_10 rfl rfl ?_
  refine x_iconst (v := 0) dX8_assign_11 rfl ?_
  obtain ⟨c7, h⟩ := x_ckk h
  refine x_iald dX8_assign_12 c1 (xb_in c7) xj_0 ?_
  obtain ⟨c8, h⟩ := x_ckk h
  obtain ⟨c9, h⟩ := x_ckk h
  obtain ⟨c11, h⟩ := x_ckk h
  obtain ⟨p10, lp10, h⟩ := x_lt h
  have ep10 : gr Y p5 (gi N3 a1 0).toNatClampNeg = some p10 := by rw [lp10]; exact c11
  refine x_aald (j := 4) dX8_assign_13 (by decide) c8 (xb_in c9) ep10 ?_
  refine x_astore_n (L' := [(0, .ref a0), (1, .ref a1), (2, .int (-1)), (3, .ref p10)]) [1, 2, 3, 0] dX8_assign_14 rfl (by decide) rfl ?_
  refine x_aload_n 3 dX8_assign_15 rfl rfl ?_
  obtain ⟨c12, h⟩ := x_ckk h
  refine x_ilen dX8_assign_16 c12 rfl ?_
  refine x_istore (L' := [(0, .ref a0), (1, .ref a1), (2, .int (-1)), (3, .ref p10), (4, .int (Int32.ofNat (kn Y p10)))]) [1, 2, 3, 4, 0] dX8_assign_17 (by decide) rfl ?_
  refine x_iconst (v := 0) dX8_assign_19 rfl ?_
  refine x_istore (L' := [(0, .ref a0), (1, .ref a1), (2, .int (-1)), (3, .ref p10), (4, .int (Int32.ofNat (kn Y p10))), (5, .int 0)]) [1, 2, 3, 4, 5, 0] dX8_assign_20 (by decide) rfl ?_
  exact T_X8_assign_22 (G := G) FU a0 a1 (-1) p10 (Int32.ofNat (kn Y p10)) 0 N3 h
set_option maxHeartbeats 4000000 in
set_option maxRecDepth 100000 in
theorem T_X8_raised_14 {G : XG} {tb : List ExceptionTableEntry} {Y : XY} {rz : Int32} {Nz : XN} : ∀ (D9 : Nat) (p_0 : Nat) (v_1 : Int32) (v_2 : Int32) (p_3 : Nat) (v_4 : Int32) (v_5 : Int32) (N : XN), f_X8_raised_14 Y D9 p_0 v_1 v_2 p_3 v_4 v_5 N = some (rz, Nz) → ExZ G yX8_raised cX8_raised 7 (some .int) tb (xR 1 0 0) (xZn G (xR 1 0 0) (some (.int rz)) Y Nz) 0 0 14 [(0, .ref p_0), (1, .int v_1), (2, .int v_2), (3, .ref p_3), (4, .int v_4), (5, .int v_5)] [] Y N := by
  intro D9
  induction D9 with
  | zero => intro p_0 v_1 v_2 p_3 v_4 v_5 N h; exact nomatch (show none = some _ from h)
  | succ D9 ih =>
    intro p_0 v_1 v_2 p_3 v_4 v_5 N h
    rw [f_X8_raised_14] at h
    refine x_iload 5 dX8_raised_14 rfl ?_
    refine x_iload 4 dX8_raised_16 rfl ?_
    rcases x_if h with ⟨c1, h⟩ | ⟨c1, h⟩
    · refine x_icmp_ge_t (tgt := 69) dX8_raised_18 (by decide) c1 ?_
      refine x_iload_n 2 dX8_raised_69 rfl rfl ?_
      obtain ⟨rfl, rfl⟩ := Prod.mk.inj (x_so h)
      exact x_niret dX8_raised_70 rfl rfl rfl
    · refine x_icmp_ge_f (tgt := 69) dX8_raised_18 (by decide) c1 ?_
      refine x_aload_n 3 dX8_raised_21 rfl rfl ?_
      refine x_iload 5 dX8_raised_22 rfl ?_
      obtain ⟨c2, h⟩ := x_ckk h
      obtain ⟨c3, h⟩ := x_ckk h
      obtain ⟨c5, h⟩ := x_ckk h
      obtain ⟨p4, lp4, h⟩ := x_lt h
      have ep4 : gr Y p_3 v_5.toNatClampNeg = some p4 := by rw [lp4]; exact c5
      refine x_aald (j := 4) dX8_raised_24 (by decide) c2 (xb_in c3) ep4 ?_
      refine x_astore (L' := [(0, .ref p_0), (1, .int v_1), (2, .int v_2), (3, .ref p_3), (4, .int v_4), (5, .int v_5), (6, .ref p4)]) [1, 2, 3, 4, 5, 6, 0] dX8_raised_25 (by decide) rfl ?_
      refine x_aload 6 dX8_raised_27 rfl ?_
      refine x_iconst (v := 0) dX8_raised_29 rfl ?_
      obtain ⟨c6, h⟩ := x_ckk h
      obtain ⟨c7, h⟩ := x_ckk h
      refine x_iald dX8_raised_30 c6 (xb_in c7) xj_0 ?_
      refine x_iload_n 1 dX8_raised_31 rfl rfl ?_
      rcases x_if h with ⟨c8, h⟩ | ⟨c8, h⟩
      · refine x_icmp_ne_f (tgt := 63) dX8_raised_32 (by decide) c8 ?_
        refine x_aload 6 dX8_raised_35 rfl ?_
        refine x_iconst (v := 3) dX8_raised_37 rfl ?_
        obtain ⟨c9, h⟩ := x_ckk h
        refine x_iald dX8_raised_38 c6 (xb_in c9) xj_3 ?_
        rcases x_if h with ⟨c10, h⟩ | ⟨c10, h⟩
        · refine x_if_le_t (tgt := 63) dX8_raised_39 (by decide) c10 ?_
          refine x_iinc (L' := [(0, .ref p_0), (1, .int v_1), (2, .int v_2), (3, .ref p_3), (4, .int v_4), (5, .int (v_5 + 1))]) 5 [1, 2, 3, 4, 5, 0] dX8_raised_63 rfl rfl (by decide) rfl ?_
          refine x_goto (tgt := 14) dX8_raised_66 (by decide) ?_
          exact ih p_0 v_1 v_2 p_3 v_4 (v_5 + 1) N h
        · refine x_if_le_f (tgt := 63) dX8_raised_39 (by decide) c10 ?_
          refine x_aload 6 dX8_raised_42 rfl ?_
          refine x_iconst (v := 1) dX8_raised_44 rfl ?_
          obtain ⟨c11, h⟩ := x_ckk h
          refine x_iald dX8_raised_45 c6 (xb_in c11) xj_1 ?_
          refine x_aload_n 0 dX8_raised_46 rfl rfl ?_
          obtain ⟨c12, h⟩ := x_ckk h
          refine x_geti dX8_raised_47 vc_X8 xin8 fb_X8_0 fl_X8_28 xr_X8_0 c12 ?_
          refine x_aload_n 0 dX8_raised_50 rfl rfl ?_
          obtain ⟨c14, h⟩ := x_ckk h
          obtain ⟨p13, lp13, h⟩ := x_lt h
          have ep13 : gr Y p_0 2 = some p13 := by rw [lp13]; exact c14
          refine x_getr dX8_raised_51 vc_X8 xin8 fb_X8_2 fl_X8_7 xr_X8_2 c12 ep13 ?_
          refine x_iconst (v := 1) dX8_raised_54 rfl ?_
          obtain ⟨c15, h⟩ := x_ckk h
          obtain ⟨c16, h⟩ := x_ckk h
          refine x_iald dX8_raised_55 c15 (xb_in c16) xj_1 ?_
          refine x_isub dX8_raised_56 ?_
          rcases x_if h with ⟨c17, h⟩ | ⟨c17, h⟩
          · refine x_icmp_le_t (tgt := 63) dX8_raised_57 (by decide) c17 ?_
            refine x_iinc (L' := [(0, .ref p_0), (1, .int v_1), (2, .int v_2), (3, .ref p_3), (4, .int v_4), (5, .int (v_5 + 1))]) 5 [1, 2, 3, 4, 5, 0] dX8_raised_63 rfl rfl (by decide) rfl ?_
            refine x_goto (tgt := 14) dX8_raised_66 (by decide) ?_
            exact ih p_0 v_1 v_2 p_3 v_4 (v_5 + 1) N h
          · refine x_icmp_le_f (tgt := 63) dX8_raised_57 (by decide) c17 ?_
            refine x_iinc (L' := [(0, .ref p_0), (1, .int v_1), (2, .int (v_2 + 1)), (3, .ref p_3), (4, .int v_4), (5, .int v_5)]) 2 [1, 2, 0, 3, 4, 5] dX8_raised_60 rfl rfl (by decide) rfl ?_
            refine x_iinc (L' := [(0, .ref p_0), (1, .int v_1), (2, .int (v_2 + 1)), (3, .ref p_3), (4, .int v_4), (5, .int (v_5 + 1))]) 5 [1, 2, 3, 4, 5, 0] dX8_raised_63 rfl rfl (by decide) rfl ?_
            refine x_goto (tgt := 14) dX8_raised_66 (by decide) ?_
            exact ih p_0 v_1 (v_2 + 1) p_3 v_4 (v_5 + 1) N h
      · refine x_icmp_ne_t (tgt := 63) dX8_raised_32 (by decide) c8 ?_
        refine x_iinc (L' := [(0, .ref p_0), (1, .int v_1), (2, .int v_2), (3, .ref p_3), (4, .int v_4), (5, .int (v_5 + 1))]) 5 [1, 2, 3, 4, 5, 0] dX8_raised_63 rfl rfl (by decide) rfl ?_
        refine x_goto (tgt := 14) dX8_raised_66 (by decide) ?_
        exact ih p_0 v_1 v_2 p_3 v_4 (v_5 + 1) N h
set_option maxHeartbeats 4000000 in
set_option maxRecDepth 100000 in
theorem T_X8_raised {G : XG} {Y : XY} {a0 : Nat} {a1 : Int32} {N : XN} {rz : Int32} {Nz : XN} (h : f_X8_raised Y a0 a1 N = some (rz, Nz)) : Cn G yX8_raised cX8_raised 7 (some .int) (xR 1 0 0) [.ref a0, .int a1] (some (.int rz)) Y N Y Nz := by
  refine x_entryN (by decide) (Nat.le_of_ble_eq_true rfl) rfl fun tb => ?_
  rw [f_X8_raised] at h
  refine x_iconst (v := 0) dX8_raised_0 rfl ?_
  refine x_istore_n (L' := [(0, .ref a0), (1, .int a1), (2, .int 0)]) [1, 2, 0] dX8_raised_1 rfl (by decide) rfl ?_
  refine x_aload_n 0 dX8_raised_2 rfl rfl ?_
  obtain ⟨c1, h⟩ := x_ckk h
  obtain ⟨c3, h⟩ := x_ckk h
  obtain ⟨p2, lp2, h⟩ := x_lt h
  have ep2 : gr Y a0 6 = some p2 := by rw [lp2]; exact c3
  refine x_getr dX8_raised_3 vc_X8 xin8 fb_X8_6 fl_X8_24 xr_X8_6 c1 ep2 ?_
  refine x_astore_n (L' := [(0, .ref a0), (1, .int a1), (2, .int 0), (3, .ref p2)]) [1, 2, 3, 0] dX8_raised_6 rfl (by decide) rfl ?_
  refine x_aload_n 3 dX8_raised_7 rfl rfl ?_
  obtain ⟨c4, h⟩ := x_ckk h
  refine x_rlen (j := 4) dX8_raised_8 (by decide) c4 rfl ?_
  refine x_istore (L' := [(0, .ref a0), (1, .int a1), (2, .int 0), (3, .ref p2), (4, .int (Int32.ofNat (kn Y p2)))]) [1, 2, 3, 4, 0] dX8_raised_9 (by decide) rfl ?_
  refine x_iconst (v := 0) dX8_raised_11 rfl ?_
  refine x_istore (L' := [(0, .ref a0), (1, .int a1), (2, .int 0), (3, .ref p2), (4, .int (Int32.ofNat (kn Y p2))), (5, .int 0)]) [1, 2, 3, 4, 5, 0] dX8_raised_12 (by decide) rfl ?_
  exact T_X8_raised_14 (G := G) FU a0 a1 0 p2 (Int32.ofNat (kn Y p2)) 0 N h
set_option maxHeartbeats 4000000 in
set_option maxRecDepth 100000 in
theorem T_X8_raises {G : XG} {Y : XY} {a0 : Nat} {a1 : Nat} {N : XN} {Nz : XN} (h : f_X8_raises Y a0 a1 N = some Nz) : Cn G yX8_raises cX8_raises 4 none (xR 3 0 0) [.ref a0, .ref a1] none Y N Y Nz := by
  refine x_entryN (by decide) (Nat.le_of_ble_eq_true rfl) rfl fun tb => ?_
  rw [f_X8_raises] at h
  refine x_aload_n 0 dX8_raises_0 rfl rfl ?_
  obtain ⟨c1, h⟩ := x_ckk h
  obtain ⟨c3, h⟩ := x_ckk h
  obtain ⟨p2, lp2, h⟩ := x_lt h
  have ep2 : gr Y a0 4 = some p2 := by rw [lp2]; exact c3
  refine x_getr dX8_raises_1 vc_X8 xin8 fb_X8_4 fl_X8_18 xr_X8_4 c1 ep2 ?_
  refine x_aload_n 1 dX8_raises_4 rfl rfl ?_
  refine x_iconst (v := 0) dX8_raises_5 rfl ?_
  obtain ⟨c4, h⟩ := x_ckk h
  obtain ⟨c5, h⟩ := x_ckk h
  refine x_iald dX8_raises_6 c4 (xb_in c5) xj_0 ?_
  obtain ⟨c6, h⟩ := x_ckk h
  obtain ⟨c7, h⟩ := x_ckk h
  obtain ⟨c9, h⟩ := x_ckk h
  obtain ⟨p8, lp8, h⟩ := x_lt h
  have ep8 : gr Y p2 (gi N a1 0).toNatClampNeg = some p8 := by rw [lp8]; exact c9
  refine x_aald (j := 4) dX8_raises_7 (by decide) c6 (xb_in c7) ep8 ?_
  refine x_astore_n (L' := [(0, .ref a0), (1, .ref a1), (2, .ref p8)]) [1, 2, 0] dX8_raises_8 rfl (by decide) rfl ?_
  refine x_aload_n 0 dX8_raises_9 rfl rfl ?_
  refine x_aload_n 1 dX8_raises_10 rfl rfl ?_
  refine x_iconst (v := 0) dX8_raises_11 rfl ?_
  obtain ⟨c10, h⟩ := x_ckk h
  refine x_iald dX8_raises_12 c4 (xb_in c10) xj_0 ?_
  obtain ⟨r11, N13, e12, h⟩ := x_bd2 h
  refine x_nV (b := a0) (As := [.int (gi N a1 0)]) (ci := 8) (R' := xR 1 0 0) (zz := yX8_raised) dX8_raises_13 ml_X8_49 wi_X8_raised wv_X8_raised wn_X8 wc_X8_raised hp_X8_raised ⟨Nat.le_of_ble_eq_true rfl, Nat.le_of_ble_eq_true rfl⟩ rfl (Nat.le_of_ble_eq_true rfl) ⟨Nat.le_refl _, Nat.le_refl _⟩ vc_X8 c1 (T_X8_raised (G := G) e12) ?_
  refine x_aload_n 2 dX8_raises_16 rfl rfl ?_
  refine x_iconst (v := 1) dX8_raises_17 rfl ?_
  obtain ⟨c14, h⟩ := x_ckk h
  obtain ⟨c15, h⟩ := x_ckk h
  refine x_iald dX8_raises_18 c14 (xb_in c15) xj_1 ?_
  rcases x_if h with ⟨c16, h⟩ | ⟨c16, h⟩
  · refine x_icmp_lt_t (tgt := 65) dX8_raises_19 (by decide) c16 ?_
    refine x_aload_n 1 dX8_raises_65 rfl rfl ?_
    refine x_iconst (v := 3) dX8_raises_66 rfl ?_
    refine x_iconst (v := 1) dX8_raises_67 rfl ?_
    obtain ⟨c17, h⟩ := x_ckk h
    refine x_iast dX8_raises_68 c4 (xb_in c17) xj_3 ?_
    obtain ⟨N18, eN18, h⟩ := x_lt h
    refine x_nmM eN18 ?_
    refine x_aload_n 1 dX8_raises_69 rfl rfl ?_
    refine x_iconst (v := 5) dX8_raises_70 rfl ?_
    refine x_aload_n 1 dX8_raises_71 rfl rfl ?_
    refine x_iconst (v := 2) dX8_raises_72 rfl ?_
    obtain ⟨c19, h⟩ := x_ckk h
    refine x_iald dX8_raises_73 c4 (xb_in c19) xj_2 ?_
    obtain ⟨c20, h⟩ := x_ckk h
    refine x_iast dX8_raises_74 c4 (xb_in c20) xj_5 ?_
    obtain ⟨N21, eN21, h⟩ := x_lt h
    refine x_nmM eN21 ?_
    refine x_aload_n 0 dX8_raises_75 rfl rfl ?_
    refine x_aload_n 1 dX8_raises_76 rfl rfl ?_
    obtain ⟨N23, e22, h⟩ := x_bd1 h
    refine x_nV (b := a0) (As := [.ref a1]) (ci := 8) (R' := xR 2 0 0) (zz := yX8_assign) dX8_raises_77 ml_X8_58 wi_X8_assign wv_X8_assign wn_X8 wc_X8_assign hp_X8_assign ⟨Nat.le_of_ble_eq_true rfl, Nat.le_of_ble_eq_true rfl⟩ rfl (Nat.le_of_ble_eq_true rfl) ⟨Nat.le_refl _, Nat.le_refl _⟩ vc_X8 c1 (T_X8_assign (G := G) e22) ?_
    obtain rfl := x_so h
    exact x_nvret dX8_raises_80 rfl rfl rfl
  · refine x_icmp_lt_f (tgt := 65) dX8_raises_19 (by decide) c16 ?_
    refine x_aload_n 0 dX8_raises_22 rfl rfl ?_
    obtain ⟨c25, h⟩ := x_ckk h
    obtain ⟨p24, lp24, h⟩ := x_lt h
    have ep24 : gr Y a0 2 = some p24 := by rw [lp24]; exact c25
    refine x_getr dX8_raises_23 vc_X8 xin8 fb_X8_2 fl_X8_7 xr_X8_2 c1 ep24 ?_
    refine x_iconst (v := 2) dX8_raises_26 rfl ?_
    obtain ⟨c26, h⟩ := x_ckk h
    obtain ⟨c27, h⟩ := x_ckk h
    refine x_iald dX8_raises_27 c26 (xb_in c27) xj_2 ?_
    refine x_aload_n 2 dX8_raises_28 rfl rfl ?_
    refine x_iconst (v := 2) dX8_raises_29 rfl ?_
    obtain ⟨c28, h⟩ := x_ckk h
    refine x_iald dX8_raises_30 c14 (xb_in c28) xj_2 ?_
    obtain ⟨r29, N30, e31, h⟩ := x_bd2 h
    refine x_J9_min_7cf53 dX8_raises_31 ml_X8_52 e31 (Nat.le_of_ble_eq_true rfl) (Nat.le_of_ble_eq_true rfl) (Nat.le_of_ble_eq_true rfl) ⟨Nat.le_refl _, Nat.le_refl _⟩ ?_
    refine x_istore_n (L' := [(0, .ref a0), (1, .ref a1), (2, .ref p8), (3, .int r29)]) [1, 2, 3, 0] dX8_raises_34 rfl (by decide) rfl ?_
    refine x_aload_n 2 dX8_raises_35 rfl rfl ?_
    refine x_iconst (v := 2) dX8_raises_36 rfl ?_
    refine x_dup2 dX8_raises_37 rfl rfl ?_
    obtain ⟨c32, h⟩ := x_ckk h
    refine x_iald dX8_raises_38 c14 (xb_in c32) xj_2 ?_
    refine x_iload_n 3 dX8_raises_39 rfl rfl ?_
    refine x_isub dX8_raises_40 ?_
    obtain ⟨c33, h⟩ := x_ckk h
    refine x_iast dX8_raises_41 c14 (xb_in c33) xj_2 ?_
    obtain ⟨N34, eN34, h⟩ := x_lt h
    refine x_nmM eN34 ?_
    refine x_aload_n 0 dX8_raises_42 rfl rfl ?_
    refine x_dup dX8_raises_43 rfl ?_
    refine x_geti dX8_raises_44 vc_X8 xin8 fb_X8_1 fl_X8_32 xr_X8_1 c1 ?_
    refine x_iload_n 3 dX8_raises_47 rfl rfl ?_
    refine x_iadd dX8_raises_48 ?_
    refine x_puti dX8_raises_49 vc_X8 xin8 tyX8_ok nmX8 fb_X8_1 fl_X8_32 ff_X8_1 xr_X8_1 (nf_X8_1 _) (ft_X8_1 _) c1 ?_
    obtain ⟨N35, eN35, h⟩ := x_lt h
    refine x_nmM eN35 ?_
    refine x_aload_n 1 dX8_raises_52 rfl rfl ?_
    refine x_iconst (v := 3) dX8_raises_53 rfl ?_
    refine x_iconst (v := 3) dX8_raises_54 rfl ?_
    obtain ⟨c36, h⟩ := x_ckk h
    refine x_iast dX8_raises_55 c4 (xb_in c36) xj_3 ?_
    obtain ⟨N37, eN37, h⟩ := x_lt h
    refine x_nmM eN37 ?_
    refine x_aload_n 1 dX8_raises_56 rfl rfl ?_
    refine x_bipush (v := 6) dX8_raises_57 rfl ?_
    refine x_aload_n 0 dX8_raises_59 rfl rfl ?_
    refine x_geti dX8_raises_60 vc_X8 xin8 fb_X8_0 fl_X8_28 xr_X8_0 c1 ?_
    obtain ⟨c38, h⟩ := x_ckk h
    refine x_iast dX8_raises_63 c4 (xb_in c38) xj_6 ?_
    obtain ⟨N39, eN39, h⟩ := x_lt h
    refine x_nmM eN39 ?_
    obtain rfl := x_so h
    exact x_nvret dX8_raises_64 rfl rfl rfl
set_option maxHeartbeats 4000000 in
set_option maxRecDepth 100000 in
theorem T_X8_pays_114 {G : XG} {tb : List ExceptionTableEntry} {rz : Int32} {Yz : XY} {qz : Nat} {Nz : XN} : ∀ (D9 : Nat) (Y : XY) (q : Nat) (p_0 : Nat) (v_1 : Int32) (v_3 : Int32) (p_4 : Nat) (v_5 : Int32) (v_6 : Int32) (k : Nat) (n : Nat) (N : XN), f_X8_pays_114 D9 Y q p_0 v_1 v_3 p_4 v_5 v_6 k n N = some (rz, Yz, qz, Nz) → ExZ G yX8_pays cX8_pays 8 (some .int) tb (xR 3 3 12) (xZn G (xR 3 3 12) (some (.int rz)) Yz Nz) k n 114 [(0, .ref p_0), (1, .int v_1), (3, .int v_3), (4, .ref p_4), (5, .int v_5), (6, .int v_6)] [] Y N := by
  intro D9
  induction D9 with
  | zero => intro Y q p_0 v_1 v_3 p_4 v_5 v_6 k n N h; exact nomatch (show none = some _ from h)
  | succ D9 ih =>
    intro Y q p_0 v_1 v_3 p_4 v_5 v_6 k n N h
    rw [f_X8_pays_114] at h
    refine x_iload 5 dX8_pays_114 rfl ?_
    refine x_iload 4 dX8_pays_116 rfl ?_
    rcases x_if h with ⟨c1, h⟩ | ⟨c1, h⟩
    · refine x_icmp_ge_t (tgt := 156) dX8_pays_118 (by decide) c1 ?_
      refine x_iload_n 2 dX8_pays_156 rfl rfl ?_
      obtain ⟨c2, h⟩ := x_ckk h
      refine x_wide (k' := 3) (n' := 12) c2 ?_
      obtain ⟨rfl, h8⟩ := Prod.mk.inj (x_so h)
      obtain ⟨rfl, h7⟩ := Prod.mk.inj h8
      obtain ⟨rfl, rfl⟩ := Prod.mk.inj h7
      exact x_niret dX8_pays_157 rfl rfl rfl
    · refine x_icmp_ge_f (tgt := 156) dX8_pays_118 (by decide) c1 ?_
      refine x_aload 3 dX8_pays_121 rfl ?_
      refine x_iload 5 dX8_pays_123 rfl ?_
      obtain ⟨c3, h⟩ := x_ckk h
      obtain ⟨c4, h⟩ := x_ckk h
      obtain ⟨c6, h⟩ := x_ckk h
      obtain ⟨p5, lp5, h⟩ := x_lt h
      have ep5 : gr Y p_4 v_6.toNatClampNeg = some p5 := by rw [lp5]; exact c6
      refine x_aald (j := 4) dX8_pays_125 (by decide) c3 (xb_in c4) ep5 ?_
      refine x_astore (L' := [(0, .ref p_0), (1, .int v_1), (3, .int v_3), (4, .ref p_4), (5, .int v_5), (6, .int v_6), (7, .ref p5)]) [1, 2, 3, 4, 5, 6, 0] dX8_pays_126 (by decide) rfl ?_
      refine x_aload 6 dX8_pays_128 rfl ?_
      refine x_iconst (v := 3) dX8_pays_130 rfl ?_
      obtain ⟨c7, h⟩ := x_ckk h
      obtain ⟨c8, h⟩ := x_ckk h
      refine x_iald dX8_pays_131 c7 (xb_in c8) xj_3 ?_
      refine x_iconst (v := 1) dX8_pays_132 rfl ?_
      rcases x_if h with ⟨c9, h⟩ | ⟨c9, h⟩
      · refine x_icmp_ne_f (tgt := 150) dX8_pays_133 (by decide) c9 ?_
        refine x_aload 6 dX8_pays_136 rfl ?_
        refine x_iconst (v := 4) dX8_pays_138 rfl ?_
        obtain ⟨c10, h⟩ := x_ckk h
        refine x_iald dX8_pays_139 c7 (xb_in c10) xj_4 ?_
        refine x_iload_n 1 dX8_pays_140 rfl rfl ?_
        rcases x_if h with ⟨c11, h⟩ | ⟨c11, h⟩
        · refine x_icmp_ne_f (tgt := 150) dX8_pays_141 (by decide) c11 ?_
          refine x_aload_n 0 dX8_pays_144 rfl rfl ?_
          refine x_aload 6 dX8_pays_145 rfl ?_
          obtain ⟨c12, h⟩ := x_ckk h
          obtain ⟨c13, h⟩ := x_ckk h
          obtain ⟨N15, e14, h⟩ := x_bd1 h
          refine x_nV (b := p_0) (As := [.ref p5]) (ci := 8) (R' := xR 2 0 0) (zz := yX8_assign) dX8_pays_147 ml_X8_58 wi_X8_assign wv_X8_assign wn_X8 wc_X8_assign hp_X8_assign ⟨Nat.le_of_ble_eq_true rfl, Nat.le_of_ble_eq_true rfl⟩ rfl (Nat.le_of_ble_eq_true rfl) c13 vc_X8 c12 (T_X8_assign (G := G) e14) ?_
          refine x_iinc (L' := [(0, .ref p_0), (1, .int v_1), (3, .int v_3), (4, .ref p_4), (5, .int v_5), (6, .int (v_6 + 1))]) 5 [1, 2, 3, 4, 5, 0] dX8_pays_150 rfl rfl (by decide) rfl ?_
          refine x_goto (tgt := 114) dX8_pays_153 (by decide) ?_
          exact ih Y q p_0 v_1 v_3 p_4 v_5 (v_6 + 1) k n N15 h
        · refine x_icmp_ne_t (tgt := 150) dX8_pays_141 (by decide) c11 ?_
          refine x_iinc (L' := [(0, .ref p_0), (1, .int v_1), (3, .int v_3), (4, .ref p_4), (5, .int v_5), (6, .int (v_6 + 1))]) 5 [1, 2, 3, 4, 5, 0] dX8_pays_150 rfl rfl (by decide) rfl ?_
          refine x_goto (tgt := 114) dX8_pays_153 (by decide) ?_
          exact ih Y q p_0 v_1 v_3 p_4 v_5 (v_6 + 1) k n N h
      · refine x_icmp_ne_t (tgt := 150) dX8_pays_133 (by decide) c9 ?_
        refine x_iinc (L' := [(0, .ref p_0), (1, .int v_1), (3, .int v_3), (4, .ref p_4), (5, .int v_5), (6, .int (v_6 + 1))]) 5 [1, 2, 3, 4, 5, 0] dX8_pays_150 rfl rfl (by decide) rfl ?_
        refine x_goto (tgt := 114) dX8_pays_153 (by decide) ?_
        exact ih Y q p_0 v_1 v_3 p_4 v_5 (v_6 + 1) k n N h
set_option maxHeartbeats 4000000 in
set_option maxRecDepth 100000 in
theorem T_X8_pays_42 {G : XG} {tb : List ExceptionTableEntry} {rz : Int32} {Yz : XY} {qz : Nat} {Nz : XN} : ∀ (D9 : Nat) (Y : XY) (q : Nat) (p_0 : Nat) (v_1 : Int32) (v_3 : Int32) (v_4 : Int32) (k : Nat) (n : Nat) (N : XN), f_X8_pays_42 D9 Y q p_0 v_1 v_3 v_4 k n N = some (rz, Yz, qz, Nz) → ExZ G yX8_pays cX8_pays 8 (some .int) tb (xR 3 3 12) (xZn G (xR 3 3 12) (some (.int rz)) Yz Nz) k n 42 [(0, .ref p_0), (1, .int v_1), (3, .int v_3), (4, .int v_4)] [] Y N := by
  intro D9
  induction D9 with
  | zero => intro Y q p_0 v_1 v_3 v_4 k n N h; exact nomatch (show none = some _ from h)
  | succ D9 ih =>
    intro Y q p_0 v_1 v_3 v_4 k n N h
    rw [f_X8_pays_42] at h
    refine x_iload 3 dX8_pays_42 rfl ?_
    refine x_aload_n 0 dX8_pays_44 rfl rfl ?_
    obtain ⟨c1, h⟩ := x_ckk h
    obtain ⟨c3, h⟩ := x_ckk h
    obtain ⟨p2, lp2, h⟩ := x_lt h
    have ep2 : gr Y p_0 4 = some p2 := by rw [lp2]; exact c3
    refine x_getr dX8_pays_45 vc_X8 xin8 fb_X8_4 fl_X8_18 xr_X8_4 c1 ep2 ?_
    obtain ⟨c4, h⟩ := x_ckk h
    refine x_rlen (j := 4) dX8_pays_48 (by decide) c4 rfl ?_
    rcases x_if h with ⟨c5, h⟩ | ⟨c5, h⟩
    · refine x_icmp_ge_t (tgt := 100) dX8_pays_49 (by decide) c5 ?_
      refine x_aload_n 0 dX8_pays_100 rfl rfl ?_
      obtain ⟨c7, h⟩ := x_ckk h
      obtain ⟨p6, lp6, h⟩ := x_lt h
      have ep6 : gr Y p_0 6 = some p6 := by rw [lp6]; exact c7
      refine x_getr dX8_pays_101 vc_X8 xin8 fb_X8_6 fl_X8_24 xr_X8_6 c1 ep6 ?_
      refine x_astore (L' := [(0, .ref p_0), (1, .int v_1), (3, .int v_3), (4, .ref p6)]) [1, 2, 3, 0] dX8_pays_104 (by decide) rfl ?_
      refine x_aload 3 dX8_pays_106 rfl ?_
      obtain ⟨c8, h⟩ := x_ckk h
      refine x_rlen (j := 4) dX8_pays_108 (by decide) c8 rfl ?_
      refine x_istore (L' := [(0, .ref p_0), (1, .int v_1), (3, .int v_3), (4, .ref p6), (5, .int (Int32.ofNat (kn Y p6)))]) [1, 2, 3, 4, 0] dX8_pays_109 (by decide) rfl ?_
      refine x_iconst (v := 0) dX8_pays_111 rfl ?_
      refine x_istore (L' := [(0, .ref p_0), (1, .int v_1), (3, .int v_3), (4, .ref p6), (5, .int (Int32.ofNat (kn Y p6))), (6, .int 0)]) [1, 2, 3, 4, 5, 0] dX8_pays_112 (by decide) rfl ?_
      exact T_X8_pays_114 (G := G) FU Y q p_0 v_1 v_3 p6 (Int32.ofNat (kn Y p6)) 0 k n N h
    · refine x_icmp_ge_f (tgt := 100) dX8_pays_49 (by decide) c5 ?_
      refine x_aload_n 0 dX8_pays_52 rfl rfl ?_
      obtain ⟨c10, h⟩ := x_ckk h
      obtain ⟨p9, lp9, h⟩ := x_lt h
      have ep9 : gr Y p_0 5 = some p9 := by rw [lp9]; exact c10
      refine x_getr dX8_pays_53 vc_X8 xin8 fb_X8_5 fl_X8_21 xr_X8_5 c1 ep9 ?_
      refine x_iload 3 dX8_pays_56 rfl ?_
      obtain ⟨c11, h⟩ := x_ckk h
      obtain ⟨c12, h⟩ := x_ckk h
      obtain ⟨c14, h⟩ := x_ckk h
      obtain ⟨p13, lp13, h⟩ := x_lt h
      have ep13 : gr Y p9 v_4.toNatClampNeg = some p13 := by rw [lp13]; exact c14
      refine x_aald (j := 4) dX8_pays_58 (by decide) c11 (xb_in c12) ep13 ?_
      refine x_iload_n 1 dX8_pays_59 rfl rfl ?_
      obtain ⟨c15, h⟩ := x_ckk h
      obtain ⟨r16, N18, e17, h⟩ := x_bd2 h
      refine x_nSN (As := [.ref p13, .int v_1]) (R' := xR 1 0 0) (zz := yL_placeIn) dX8_pays_60 (by decide) wt_L_placeIn wn_L wc_L_placeIn hp_L_placeIn ⟨Nat.le_of_ble_eq_true rfl, Nat.le_of_ble_eq_true rfl⟩ rfl (Nat.le_of_ble_eq_true rfl) c15 (T_L_placeIn (G := G) e17) ?_
      rcases x_if h with ⟨c19, h⟩ | ⟨c19, h⟩
      · refine x_if_lt_t (tgt := 94) dX8_pays_63 (by decide) c19 ?_
        refine x_iinc (L' := [(0, .ref p_0), (1, .int v_1), (3, .int v_3), (4, .int (v_4 + 1))]) 3 [1, 2, 3, 0] dX8_pays_94 rfl rfl (by decide) rfl ?_
        refine x_goto (tgt := 42) dX8_pays_97 (by decide) ?_
        exact ih Y q p_0 v_1 v_3 (v_4 + 1) k n N18 h
      · refine x_if_lt_f (tgt := 94) dX8_pays_63 (by decide) c19 ?_
        refine x_aload_n 0 dX8_pays_66 rfl rfl ?_
        refine x_getr dX8_pays_67 vc_X8 xin8 fb_X8_5 fl_X8_21 xr_X8_5 c1 ep9 ?_
        refine x_iload 3 dX8_pays_70 rfl ?_
        refine x_aload_n 0 dX8_pays_72 rfl rfl ?_
        refine x_getr dX8_pays_73 vc_X8 xin8 fb_X8_5 fl_X8_21 xr_X8_5 c1 ep9 ?_
        refine x_iload 3 dX8_pays_76 rfl ?_
        obtain ⟨c20, h⟩ := x_ckk h
        refine x_aald (j := 4) dX8_pays_78 (by decide) c11 (xb_in c20) ep13 ?_
        refine x_aload_n 0 dX8_pays_79 rfl rfl ?_
        refine x_getr dX8_pays_80 vc_X8 xin8 fb_X8_5 fl_X8_21 xr_X8_5 c1 ep9 ?_
        refine x_iload 3 dX8_pays_83 rfl ?_
        obtain ⟨c21, h⟩ := x_ckk h
        refine x_aald (j := 4) dX8_pays_85 (by decide) c11 (xb_in c21) ep13 ?_
        refine x_iload_n 1 dX8_pays_86 rfl rfl ?_
        obtain ⟨r22, N24, e23, h⟩ := x_bd2 h
        refine x_nSN (As := [.ref p13, .int v_1]) (R' := xR 1 0 0) (zz := yL_placeIn) dX8_pays_87 (by decide) wt_L_placeIn wn_L wc_L_placeIn hp_L_placeIn ⟨Nat.le_of_ble_eq_true rfl, Nat.le_of_ble_eq_true rfl⟩ rfl (Nat.le_of_ble_eq_true rfl) c15 (T_L_placeIn (G := G) e23) ?_
        obtain ⟨c25, h⟩ := x_ckk h
        obtain ⟨r26, Y28, q29, N30, e27, h⟩ := x_bd4 h
        refine x_nSN (As := [.ref p13, .int r22]) (R' := xR 1 1 4) (zz := yL_without) dX8_pays_90 (by decide) wt_L_without wn_L wc_L_without hp_L_without ⟨Nat.le_of_ble_eq_true rfl, Nat.le_of_ble_eq_true rfl⟩ rfl (Nat.le_of_ble_eq_true rfl) c25 (T_L_without (G := G) e27) ?_
        obtain ⟨c31, h⟩ := x_ckk h
        obtain ⟨c32, h⟩ := x_ckk h
        obtain ⟨c33, h⟩ := x_ckk h
        refine x_aast8 dX8_pays_93 c31 (xb_in c33) c32 ?_
        obtain ⟨Y34, eY34, h⟩ := x_lt h
        refine x_nmY eY34 ?_
        refine x_iinc (L' := [(0, .ref p_0), (1, .int v_1), (3, .int v_3), (4, .int (v_4 + 1))]) 3 [1, 2, 3, 0] dX8_pays_94 rfl rfl (by decide) rfl ?_
        refine x_goto (tgt := 42) dX8_pays_97 (by decide) ?_
        exact ih Y34 q29 p_0 v_1 v_3 (v_4 + 1) (k + 1) (n + 4) N30 h
set_option maxHeartbeats 4000000 in
set_option maxRecDepth 100000 in
theorem T_X8_pays {G : XG} {Y : XY} {q : Nat} {a0 : Nat} {a1 : Int32} {a2 : Int32} {N : XN} {rz : Int32} {Yz : XY} {qz : Nat} {Nz : XN} (h : f_X8_pays Y q a0 a1 a2 N = some (rz, Yz, qz, Nz)) : Cn G yX8_pays cX8_pays 8 (some .int) (xR 3 3 12) [.ref a0, .int a1, .int a2] (some (.int rz)) Y N Yz Nz := by
  refine x_entryN (by decide) (Nat.le_of_ble_eq_true rfl) rfl fun tb => ?_
  rw [f_X8_pays] at h
  refine x_iload_n 2 dX8_pays_0 rfl rfl ?_
  refine x_aload_n 0 dX8_pays_1 rfl rfl ?_
  obtain ⟨c1, h⟩ := x_ckk h
  obtain ⟨c3, h⟩ := x_ckk h
  obtain ⟨p2, lp2, h⟩ := x_lt h
  have ep2 : gr Y a0 3 = some p2 := by rw [lp2]; exact c3
  refine x_getr dX8_pays_2 vc_X8 xin8 fb_X8_3 fl_X8_14 xr_X8_3 c1 ep2 ?_
  refine x_iload_n 1 dX8_pays_5 rfl rfl ?_
  obtain ⟨c4, h⟩ := x_ckk h
  obtain ⟨c5, h⟩ := x_ckk h
  obtain ⟨c7, h⟩ := x_ckk h
  obtain ⟨p6, lp6, h⟩ := x_lt h
  have ep6 : gr Y p2 a1.toNatClampNeg = some p6 := by rw [lp6]; exact c7
  refine x_aald (j := 4) dX8_pays_6 (by decide) c4 (xb_in c5) ep6 ?_
  refine x_iconst (v := 0) dX8_pays_7 rfl ?_
  obtain ⟨c8, h⟩ := x_ckk h
  obtain ⟨c9, h⟩ := x_ckk h
  refine x_iald dX8_pays_8 c8 (xb_in c9) xj_0 ?_
  obtain ⟨r10, N11, e12, h⟩ := x_bd2 h
  refine x_J9_min_7cf53 dX8_pays_9 ml_X8_52 e12 (Nat.le_of_ble_eq_true rfl) (Nat.le_of_ble_eq_true rfl) (Nat.le_of_ble_eq_true rfl) ⟨Nat.le_of_ble_eq_true rfl, Nat.le_of_ble_eq_true rfl⟩ ?_
  refine x_istore_n (L' := [(0, .ref a0), (1, .int a1), (2, .int a2), (3, .int r10)]) [1, 2, 3, 0] dX8_pays_12 rfl (by decide) rfl ?_
  refine x_aload_n 0 dX8_pays_13 rfl rfl ?_
  refine x_getr dX8_pays_14 vc_X8 xin8 fb_X8_3 fl_X8_14 xr_X8_3 c1 ep2 ?_
  refine x_iload_n 1 dX8_pays_17 rfl rfl ?_
  obtain ⟨c13, h⟩ := x_ckk h
  refine x_aald (j := 4) dX8_pays_18 (by decide) c4 (xb_in c13) ep6 ?_
  refine x_iconst (v := 0) dX8_pays_19 rfl ?_
  refine x_dup2 dX8_pays_20 rfl rfl ?_
  obtain ⟨c14, h⟩ := x_ckk h
  refine x_iald dX8_pays_21 c8 (xb_in c14) xj_0 ?_
  refine x_iload_n 3 dX8_pays_22 rfl rfl ?_
  refine x_isub dX8_pays_23 ?_
  obtain ⟨c15, h⟩ := x_ckk h
  refine x_iast dX8_pays_24 c8 (xb_in c15) xj_0 ?_
  obtain ⟨N16, eN16, h⟩ := x_lt h
  refine x_nmM eN16 ?_
  refine x_iload_n 3 dX8_pays_25 rfl rfl ?_
  refine x_iload_n 2 dX8_pays_26 rfl rfl ?_
  rcases x_if h with ⟨c17, h⟩ | ⟨c17, h⟩
  · refine x_icmp_ge_t (tgt := 156) dX8_pays_27 (by decide) c17 ?_
    refine x_iload_n 3 dX8_pays_156 rfl rfl ?_
    refine x_wide (k' := 3) (n' := 12) ⟨Nat.le_of_ble_eq_true rfl, Nat.le_of_ble_eq_true rfl⟩ ?_
    obtain ⟨rfl, h8⟩ := Prod.mk.inj (x_so h)
    obtain ⟨rfl, h7⟩ := Prod.mk.inj h8
    obtain ⟨rfl, rfl⟩ := Prod.mk.inj h7
    exact x_niret dX8_pays_157 rfl rfl rfl
  · refine x_icmp_ge_f (tgt := 156) dX8_pays_27 (by decide) c17 ?_
    refine x_aload_n 0 dX8_pays_30 rfl rfl ?_
    refine x_getr dX8_pays_31 vc_X8 xin8 fb_X8_3 fl_X8_14 xr_X8_3 c1 ep2 ?_
    refine x_iload_n 1 dX8_pays_34 rfl rfl ?_
    obtain ⟨c18, h⟩ := x_ckk h
    refine x_aald (j := 4) dX8_pays_35 (by decide) c4 (xb_in c18) ep6 ?_
    refine x_iconst (v := 2) dX8_pays_36 rfl ?_
    refine x_iconst (v := 1) dX8_pays_37 rfl ?_
    obtain ⟨c19, h⟩ := x_ckk h
    refine x_iast dX8_pays_38 c8 (xb_in c19) xj_2 ?_
    obtain ⟨N20, eN20, h⟩ := x_lt h
    refine x_nmM eN20 ?_
    refine x_iconst (v := 0) dX8_pays_39 rfl ?_
    refine x_istore (L' := [(0, .ref a0), (1, .int a1), (3, .int r10), (4, .int 0)]) [1, 2, 4, 0] dX8_pays_40 (by decide) rfl ?_
    exact T_X8_pays_42 (G := G) FU Y q a0 a1 r10 0 0 0 N20 h
