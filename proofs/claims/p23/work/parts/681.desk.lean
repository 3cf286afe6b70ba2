noncomputable def f_X8_init (Y : XY) (q : Nat) (a0 : Nat) (N : XN) : Option (XY × Nat × XN) :=
  ck (kc Y q = 9 ∧ kc Y (q + 1) = 0) <|
  lt (yK Y q 1 5) fun Y2 =>
  lt (n0 N q) fun N3 =>
  ck (xb 0 (kn Y2 q) = true) <|
  lt (si N3 q ((0 : Int32).toNatClampNeg) 5) fun N6 =>
  ck (xb 1 (kn Y2 q) = true) <|
  lt (si N6 q ((1 : Int32).toNatClampNeg) 10) fun N8 =>
  ck (xb 2 (kn Y2 q) = true) <|
  lt (si N8 q ((2 : Int32).toNatClampNeg) 10) fun N10 =>
  ck (xb 3 (kn Y2 q) = true) <|
  lt (si N10 q ((3 : Int32).toNatClampNeg) 10) fun N12 =>
  ck (xb 4 (kn Y2 q) = true) <|
  lt (si N12 q ((4 : Int32).toNatClampNeg) 1) fun N14 =>
  ck (kc Y2 a0 = 18) <|
  lt (sr Y2 a0 2 (some q)) fun Y16 =>
  ck (kc Y16 (q + 1) = 9 ∧ kc Y16 (q + 1 + 1) = 0) <|
  lt (yK Y16 (q + 1) 8 0) fun Y18 =>
  lt (n0 N14 (q + 1)) fun N19 =>
  lt (sr Y18 a0 3 (some (q + 1))) fun Y23 =>
  ck (kc Y23 (q + 2) = 9 ∧ kc Y23 (q + 2 + 1) = 0) <|
  lt (yK Y23 (q + 2) 8 0) fun Y25 =>
  lt (n0 N19 (q + 2)) fun N26 =>
  lt (sr Y25 a0 4 (some (q + 2))) fun Y30 =>
  ck (kc Y30 (q + 3) = 9 ∧ kc Y30 (q + 3 + 1) = 0) <|
  lt (yK Y30 (q + 3) 8 0) fun Y32 =>
  lt (n0 N26 (q + 3)) fun N33 =>
  lt (sr Y32 a0 5 (some (q + 3))) fun Y37 =>
  ck (kc Y37 (q + 4) = 9 ∧ kc Y37 (q + 4 + 1) = 0) <|
  lt (yK Y37 (q + 4) 8 0) fun Y39 =>
  lt (n0 N33 (q + 4)) fun N40 =>
  lt (sr Y39 a0 6 (some (q + 4))) fun Y44 =>
  some (Y44, q + 5, N40)
set_option maxHeartbeats 4000000 in
set_option maxRecDepth 100000 in
theorem T_X8_init {G : XG} {Y : XY} {q : Nat} {a0 : Nat} {N : XN} {Yz : XY} {qz : Nat} {Nz : XN} (h : f_X8_init Y q a0 N = some (Yz, qz, Nz)) : Cn G yX8_init cX8_init 1 none (xR 1 5 5) [.ref a0] none Y N Yz Nz := by
  refine x_entryN (by decide) (Nat.le_of_ble_eq_true rfl) rfl fun tb => ?_
  rw [f_X8_init] at h
  refine x_aload_n 0 dX8_init_0 rfl rfl ?_
  refine x_super dX8_init_1 oi_X8_1 oi_i oi_c (by decide) (Nat.le_of_ble_eq_true rfl) (Nat.le_of_ble_eq_true rfl) ?_
  refine x_aload_n 0 dX8_init_4 rfl rfl ?_
  refine x_iconst (v := 5) dX8_init_5 rfl ?_
  obtain ⟨c1, h⟩ := x_ckk h
  refine x_newP (q := q) (M := 5) (kd := 1) dX8_init_6 rfl ac9_int (by decide) rfl (by decide) (Or.inl ⟨rfl, rfl, rfl⟩) c1.1 ⟨Nat.le_of_ble_eq_true rfl, Nat.le_of_ble_eq_true rfl⟩ ?_
  obtain ⟨Y2, eY2, h⟩ := x_lt h
  refine x_nmY eY2 ?_
  obtain ⟨N3, eN3, h⟩ := x_lt h
  refine x_nmM eN3 ?_
  have k4 : kc Y2 q = 1 := by rw [eY2]; exact kcq rfl
  refine x_dup dX8_init_8 rfl ?_
  refine x_iconst (v := 0) dX8_init_9 rfl ?_
  refine x_iconst (v := 5) dX8_init_10 rfl ?_
  obtain ⟨c5, h⟩ := x_ckk h
  refine x_iast dX8_init_11 k4 (xb_in c5) rfl ?_
  obtain ⟨N6, eN6, h⟩ := x_lt h
  refine x_nmM eN6 ?_
  refine x_dup dX8_init_12 rfl ?_
  refine x_iconst (v := 1) dX8_init_13 rfl ?_
  refine x_bipush (v := 10) dX8_init_14 rfl ?_
  obtain ⟨c7, h⟩ := x_ckk h
  refine x_iast dX8_init_16 k4 (xb_in c7) rfl ?_
  obtain ⟨N8, eN8, h⟩ := x_lt h
  refine x_nmM eN8 ?_
  refine x_dup dX8_init_17 rfl ?_
  refine x_iconst (v := 2) dX8_init_18 rfl ?_
  refine x_bipush (v := 10) dX8_init_19 rfl ?_
  obtain ⟨c9, h⟩ := x_ckk h
  refine x_iast dX8_init_21 k4 (xb_in c9) rfl ?_
  obtain ⟨N10, eN10, h⟩ := x_lt h
  refine x_nmM eN10 ?_
  refine x_dup dX8_init_22 rfl ?_
  refine x_iconst (v := 3) dX8_init_23 rfl ?_
  refine x_bipush (v := 10) dX8_init_24 rfl ?_
  obtain ⟨c11, h⟩ := x_ckk h
  refine x_iast dX8_init_26 k4 (xb_in c11) rfl ?_
  obtain ⟨N12, eN12, h⟩ := x_lt h
  refine x_nmM eN12 ?_
  refine x_dup dX8_init_27 rfl ?_
  refine x_iconst (v := 4) dX8_init_28 rfl ?_
  refine x_iconst (v := 1) dX8_init_29 rfl ?_
  obtain ⟨c13, h⟩ := x_ckk h
  refine x_iast dX8_init_30 k4 (xb_in c13) rfl ?_
  obtain ⟨N14, eN14, h⟩ := x_lt h
  refine x_nmM eN14 ?_
  obtain ⟨c15, h⟩ := x_ckk h
  refine x_putr dX8_init_31 vc_X8 xin8 tyX8_ok nmX8 fb_X8_2 fl_X8_7 ff_X8_2 xr_X8_2 rfl rfl c15 ?_
  obtain ⟨Y16, eY16, h⟩ := x_lt h
  refine x_nmY eY16 ?_
  refine x_aload_n 0 dX8_init_34 rfl rfl ?_
  refine x_iconst (v := 0) dX8_init_35 rfl ?_
  obtain ⟨c17, h⟩ := x_ckk h
  refine x_newA (q := q + 1) (M := 0) dX8_init_36 kl9_X8_13 (by decide) rfl (by decide) c17.1 ⟨Nat.le_of_ble_eq_true rfl, Nat.le_of_ble_eq_true rfl⟩ ?_
  obtain ⟨Y18, eY18, h⟩ := x_lt h
  refine x_nmY eY18 ?_
  obtain ⟨N19, eN19, h⟩ := x_lt h
  refine x_nmM eN19 ?_
  have k20 : kc Y18 (q + 1) = 8 := by rw [eY18]; exact kcq rfl
  have k21 : kc Y16 a0 = 18 := by rw [eY16]; exact c15
  have k22 : kc Y18 a0 = 18 := by rw [eY18]; exact kc_yK c17.1 c17.2 (by decide) (by decide) k21
  refine x_putr dX8_init_39 vc_X8 xin8 tyX8_ok nmX8 fb_X8_3 fl_X8_14 ff_X8_3 xr_X8_3 rfl rfl k22 ?_
  obtain ⟨Y23, eY23, h⟩ := x_lt h
  refine x_nmY eY23 ?_
  refine x_aload_n 0 dX8_init_42 rfl rfl ?_
  refine x_iconst (v := 0) dX8_init_43 rfl ?_
  obtain ⟨c24, h⟩ := x_ckk h
  refine x_newA (q := q + 2) (M := 0) dX8_init_44 kl9_X8_13 (by decide) rfl (by decide) c24.1 ⟨Nat.le_of_ble_eq_true rfl, Nat.le_of_ble_eq_true rfl⟩ ?_
  obtain ⟨Y25, eY25, h⟩ := x_lt h
  refine x_nmY eY25 ?_
  obtain ⟨N26, eN26, h⟩ := x_lt h
  refine x_nmM eN26 ?_
  have k27 : kc Y25 (q + 2) = 8 := by rw [eY25]; exact kcq rfl
  have k28 : kc Y23 a0 = 18 := by rw [eY23]; exact k22
  have k29 : kc Y25 a0 = 18 := by rw [eY25]; exact kc_yK c24.1 c24.2 (by decide) (by decide) k28
  refine x_putr dX8_init_47 vc_X8 xin8 tyX8_ok nmX8 fb_X8_4 fl_X8_18 ff_X8_4 xr_X8_4 rfl rfl k29 ?_
  obtain ⟨Y30, eY30, h⟩ := x_lt h
  refine x_nmY eY30 ?_
  refine x_aload_n 0 dX8_init_50 rfl rfl ?_
  refine x_iconst (v := 0) dX8_init_51 rfl ?_
  obtain ⟨c31, h⟩ := x_ckk h
  refine x_newA (q := q + 3) (M := 0) dX8_init_52 kl9_X8_13 (by decide) rfl (by decide) c31.1 ⟨Nat.le_of_ble_eq_true rfl, Nat.le_of_ble_eq_true rfl⟩ ?_
  obtain ⟨Y32, eY32, h⟩ := x_lt h
  refine x_nmY eY32 ?_
  obtain ⟨N33, eN33, h⟩ := x_lt h
  refine x_nmM eN33 ?_
  have k34 : kc Y32 (q + 3) = 8 := by rw [eY32]; exact kcq rfl
  have k35 : kc Y30 a0 = 18 := by rw [eY30]; exact k29
  have k36 : kc Y32 a0 = 18 := by rw [eY32]; exact kc_yK c31.1 c31.2 (by decide) (by decide) k35
  refine x_putr dX8_init_55 vc_X8 xin8 tyX8_ok nmX8 fb_X8_5 fl_X8_21 ff_X8_5 xr_X8_5 rfl rfl k36 ?_
  obtain ⟨Y37, eY37, h⟩ := x_lt h
  refine x_nmY eY37 ?_
  refine x_aload_n 0 dX8_init_58 rfl rfl ?_
  refine x_iconst (v := 0) dX8_init_59 rfl ?_
  obtain ⟨c38, h⟩ := x_ckk h
  refine x_newA (q := q + 4) (M := 0) dX8_init_60 kl9_X8_13 (by decide) rfl (by decide) c38.1 ⟨Nat.le_of_ble_eq_true rfl, Nat.le_of_ble_eq_true rfl⟩ ?_
  obtain ⟨Y39, eY39, h⟩ := x_lt h
  refine x_nmY eY39 ?_
  obtain ⟨N40, eN40, h⟩ := x_lt h
  refine x_nmM eN40 ?_
  have k41 : kc Y39 (q + 4) = 8 := by rw [eY39]; exact kcq rfl
  have k42 : kc Y37 a0 = 18 := by rw [eY37]; exact k36
  have k43 : kc Y39 a0 = 18 := by rw [eY39]; exact kc_yK c38.1 c38.2 (by decide) (by decide) k42
  refine x_putr dX8_init_63 vc_X8 xin8 tyX8_ok nmX8 fb_X8_6 fl_X8_24 ff_X8_6 xr_X8_6 rfl rfl k43 ?_
  obtain ⟨Y44, eY44, h⟩ := x_lt h
  refine x_nmY eY44 ?_
  refine x_wide (k' := 5) (n' := 5) ⟨Nat.le_of_ble_eq_true rfl, Nat.le_of_ble_eq_true rfl⟩ ?_
  obtain ⟨rfl, h8⟩ := Prod.mk.inj (x_so h)
  obtain ⟨rfl, rfl⟩ := Prod.mk.inj h8
  exact x_nvret dX8_init_66 rfl rfl rfl
noncomputable def f_X8_copy (Y : XY) (q : Nat) (a0 : Nat) (N : XN) : Option (Nat × XY × Nat × XN) :=
  ck (kc Y q = 9 ∧ kc Y (q + 1) = 0) <|
  lt (yK Y q 18 0) fun Y2 =>
  lt (n0 N q) fun N3 =>
  bd3 (f_X8_init Y2 (q + 1) q N3) fun Y6 q7 N8 =>
  ck (kc Y6 a0 = 18) <|
  ck (kc Y6 q = 18) <|
  lt (si N8 q 0 (gi N8 a0 0)) fun N11 =>
  lt (si N11 q 1 (gi N11 a0 1)) fun N12 =>
  lt (sr Y6 q 2 (gr Y6 a0 2)) fun Y13 =>
  bd (gr Y13 a0 3) fun p15 =>
  bd4 (f_L_copied Y13 q7 p15 N12) fun r16 Y18 q19 N20 =>
  ck (kc Y18 q = 18) <|
  lt (sr Y18 q 3 (some r16)) fun Y22 =>
  ck (kc Y22 a0 = 18) <|
  bd (gr Y22 a0 4) fun p24 =>
  bd4 (f_L_copied Y22 q19 p24 N20) fun r25 Y27 q28 N29 =>
  ck (kc Y27 q = 18) <|
  lt (sr Y27 q 4 (some r25)) fun Y31 =>
  ck (kc Y31 a0 = 18) <|
  bd (gr Y31 a0 5) fun p33 =>
  bd4 (f_L_copied Y31 q28 p33 N29) fun r34 Y36 q37 N38 =>
  ck (kc Y36 q = 18) <|
  lt (sr Y36 q 5 (some r34)) fun Y40 =>
  ck (kc Y40 a0 = 18) <|
  bd (gr Y40 a0 6) fun p42 =>
  bd4 (f_L_copied Y40 q37 p42 N38) fun r43 Y45 q46 N47 =>
  ck (kc Y45 q = 18) <|
  lt (sr Y45 q 6 (some r43)) fun Y49 =>
  ck (kc Y49 a0 = 18) <|
  lt (sr Y49 q 7 (gr Y49 a0 7)) fun Y52 =>
  some (q, Y52, q46, N47)
set_option maxHeartbeats 4000000 in
set_option maxRecDepth 100000 in
theorem T_X8_copy {G : XG} {Y : XY} {q : Nat} {a0 : Nat} {N : XN} {rz : Nat} {Yz : XY} {qz : Nat} {Nz : XN} (h : f_X8_copy Y q a0 N = some (rz, Yz, qz, Nz)) : Cn G yX8_copy cX8_copy 2 (some (.object "LineLeasesLaw$Desk")) (xR 2 266 2317) [.ref a0] (some (.ref rz)) Y N Yz Nz := by
  refine x_entryN (by decide) (Nat.le_of_ble_eq_true rfl) rfl fun tb => ?_
  rw [f_X8_copy] at h
  obtain ⟨c1, h⟩ := x_ckk h
  refine x_newO (q := q) (ci := 8) dX8_copy_0 vc_X8 xin8 tyX8_ok kl9_X8_8 it9_X8 wn_X8 (fun j hj => match j, hj with | 0, _ => rfl | 1, _ => rfl | 2, _ => rfl | 3, _ => rfl | 4, _ => rfl | 5, _ => rfl | 6, _ => rfl | 7, _ => rfl | z + 8, h => absurd h (by omega)) c1.1 ⟨Nat.le_of_ble_eq_true rfl, Nat.le_of_ble_eq_true rfl⟩ ?_
  obtain ⟨Y2, eY2, h⟩ := x_lt h
  refine x_nmY eY2 ?_
  obtain ⟨N3, eN3, h⟩ := x_lt h
  refine x_nmM eN3 ?_
  have k4 : kc Y2 q = 18 := by rw [eY2]; exact kcq rfl
  refine x_dup dX8_copy_3 rfl ?_
  obtain ⟨Y6, q7, N8, e5, h⟩ := x_bd3 h
  refine x_init (b := q) (As := []) (R' := xR 1 5 5) (zz := yX8_init) dX8_copy_4 ml_X8_27 wi_X8_init wn_X8 wc_X8_init rfl hp_X8_init ⟨Nat.le_of_ble_eq_true rfl, Nat.le_of_ble_eq_true rfl⟩ rfl (Nat.le_of_ble_eq_true rfl) ⟨Nat.le_of_ble_eq_true rfl, Nat.le_of_ble_eq_true rfl⟩ (T_X8_init (G := G) e5) ?_
  refine x_astore_n (L' := [(0, .ref a0), (1, .ref q)]) [1, 0] dX8_copy_7 rfl (by decide) rfl ?_
  refine x_aload_n 1 dX8_copy_8 rfl rfl ?_
  refine x_aload_n 0 dX8_copy_9 rfl rfl ?_
  obtain ⟨c9, h⟩ := x_ckk h
  refine x_geti dX8_copy_10 vc_X8 xin8 fb_X8_0 fl_X8_28 xr_X8_0 c9 ?_
  obtain ⟨c10, h⟩ := x_ckk h
  refine x_puti dX8_copy_13 vc_X8 xin8 tyX8_ok nmX8 fb_X8_0 fl_X8_28 ff_X8_0 xr_X8_0 (nf_X8_0 _) (ft_X8_0 _) c10 ?_
  obtain ⟨N11, eN11, h⟩ := x_lt h
  refine x_nmM eN11 ?_
  refine x_aload_n 1 dX8_copy_16 rfl rfl ?_
  refine x_aload_n 0 dX8_copy_17 rfl rfl ?_
  refine x_geti dX8_copy_18 vc_X8 xin8 fb_X8_1 fl_X8_32 xr_X8_1 c9 ?_
  refine x_puti dX8_copy_21 vc_X8 xin8 tyX8_ok nmX8 fb_X8_1 fl_X8_32 ff_X8_1 xr_X8_1 (nf_X8_1 _) (ft_X8_1 _) c10 ?_
  obtain ⟨N12, eN12, h⟩ := x_lt h
  refine x_nmM eN12 ?_
  refine x_aload_n 1 dX8_copy_24 rfl rfl ?_
  refine x_aload_n 0 dX8_copy_25 rfl rfl ?_
  refine x_getq dX8_copy_26 vc_X8 xin8 fb_X8_2 fl_X8_7 xr_X8_2 c9 ?_
  refine x_putq (o := gr Y6 a0 2) dX8_copy_29 vc_X8 xin8 tyX8_ok nmX8 fb_X8_2 fl_X8_7 ff_X8_2 xr_X8_2 (by cases (gr Y6 a0 2) <;> rfl) (by cases (gr Y6 a0 2) <;> rfl) c10 ?_
  obtain ⟨Y13, eY13, h⟩ := x_lt h
  refine x_nmY eY13 ?_
  refine x_aload_n 1 dX8_copy_32 rfl rfl ?_
  refine x_aload_n 0 dX8_copy_33 rfl rfl ?_
  have k14 : kc Y13 a0 = 18 := by rw [eY13]; exact c9
  obtain ⟨p15, ep15, h⟩ := x_bd1 h
  refine x_getr dX8_copy_34 vc_X8 xin8 fb_X8_3 fl_X8_14 xr_X8_3 k14 ep15 ?_
  obtain ⟨r16, Y18, q19, N20, e17, h⟩ := x_bd4 h
  refine x_nSN (As := [.ref p15]) (R' := xR 1 65 576) (zz := yL_copied) dX8_copy_37 (by decide) wt_L_copied wn_L wc_L_copied hp_L_copied ⟨Nat.le_of_ble_eq_true rfl, Nat.le_of_ble_eq_true rfl⟩ rfl (Nat.le_of_ble_eq_true rfl) ⟨Nat.le_of_ble_eq_true rfl, Nat.le_of_ble_eq_true rfl⟩ (T_L_copied (G := G) e17) ?_
  obtain ⟨c21, h⟩ := x_ckk h
  refine x_putr dX8_copy_40 vc_X8 xin8 tyX8_ok nmX8 fb_X8_3 fl_X8_14 ff_X8_3 xr_X8_3 rfl rfl c21 ?_
  obtain ⟨Y22, eY22, h⟩ := x_lt h
  refine x_nmY eY22 ?_
  refine x_aload_n 1 dX8_copy_43 rfl rfl ?_
  refine x_aload_n 0 dX8_copy_44 rfl rfl ?_
  obtain ⟨c23, h⟩ := x_ckk h
  obtain ⟨p24, ep24, h⟩ := x_bd1 h
  refine x_getr dX8_copy_45 vc_X8 xin8 fb_X8_4 fl_X8_18 xr_X8_4 c23 ep24 ?_
  obtain ⟨r25, Y27, q28, N29, e26, h⟩ := x_bd4 h
  refine x_nSN (As := [.ref p24]) (R' := xR 1 65 576) (zz := yL_copied) dX8_copy_48 (by decide) wt_L_copied wn_L wc_L_copied hp_L_copied ⟨Nat.le_of_ble_eq_true rfl, Nat.le_of_ble_eq_true rfl⟩ rfl (Nat.le_of_ble_eq_true rfl) ⟨Nat.le_of_ble_eq_true rfl, Nat.le_of_ble_eq_true rfl⟩ (T_L_copied (G := G) e26) ?_
  obtain ⟨c30, h⟩ := x_ckk h
  refine x_putr dX8_copy_51 vc_X8 xin8 tyX8_ok nmX8 fb_X8_4 fl_X8_18 ff_X8_4 xr_X8_4 rfl rfl c30 ?_
  obtain ⟨Y31, eY31, h⟩ := x_lt h
  refine x_nmY eY31 ?_
  refine x_aload_n 1 dX8_copy_54 rfl rfl ?_
  refine x_aload_n 0 dX8_copy_55 rfl rfl ?_
  obtain ⟨c32, h⟩ := x_ckk h
  obtain ⟨p33, ep33, h⟩ := x_bd1 h
  refine x_getr dX8_copy_56 vc_X8 xin8 fb_X8_5 fl_X8_21 xr_X8_5 c32 ep33 ?_
  obtain ⟨r34, Y36, q37, N38, e35, h⟩ := x_bd4 h
  refine x_nSN (As := [.ref p33]) (R' := xR 1 65 576) (zz := yL_copied) dX8_copy_59 (by decide) wt_L_copied wn_L wc_L_copied hp_L_copied ⟨Nat.le_of_ble_eq_true rfl, Nat.le_of_ble_eq_true rfl⟩ rfl (Nat.le_of_ble_eq_true rfl) ⟨Nat.le_of_ble_eq_true rfl, Nat.le_of_ble_eq_true rfl⟩ (T_L_copied (G := G) e35) ?_
  obtain ⟨c39, h⟩ := x_ckk h
  refine x_putr dX8_copy_62 vc_X8 xin8 tyX8_ok nmX8 fb_X8_5 fl_X8_21 ff_X8_5 xr_X8_5 rfl rfl c39 ?_
  obtain ⟨Y40, eY40, h⟩ := x_lt h
  refine x_nmY eY40 ?_
  refine x_aload_n 1 dX8_copy_65 rfl rfl ?_
  refine x_aload_n 0 dX8_copy_66 rfl rfl ?_
  obtain ⟨c41, h⟩ := x_ckk h
  obtain ⟨p42, ep42, h⟩ := x_bd1 h
  refine x_getr dX8_copy_67 vc_X8 xin8 fb_X8_6 fl_X8_24 xr_X8_6 c41 ep42 ?_
  obtain ⟨r43, Y45, q46, N47, e44, h⟩ := x_bd4 h
  refine x_nSN (As := [.ref p42]) (R' := xR 1 65 576) (zz := yL_copied) dX8_copy_70 (by decide) wt_L_copied wn_L wc_L_copied hp_L_copied ⟨Nat.le_of_ble_eq_true rfl, Nat.le_of_ble_eq_true rfl⟩ rfl (Nat.le_of_ble_eq_true rfl) ⟨Nat.le_of_ble_eq_true rfl, Nat.le_of_ble_eq_true rfl⟩ (T_L_copied (G := G) e44) ?_
  obtain ⟨c48, h⟩ := x_ckk h
  refine x_putr dX8_copy_73 vc_X8 xin8 tyX8_ok nmX8 fb_X8_6 fl_X8_24 ff_X8_6 xr_X8_6 rfl rfl c48 ?_
  obtain ⟨Y49, eY49, h⟩ := x_lt h
  refine x_nmY eY49 ?_
  refine x_aload_n 1 dX8_copy_76 rfl rfl ?_
  refine x_aload_n 0 dX8_copy_77 rfl rfl ?_
  obtain ⟨c50, h⟩ := x_ckk h
  refine x_getq dX8_copy_78 vc_X8 xin8 fb_X8_7 fl_X8_41 xr_X8_7 c50 ?_
  have k51 : kc Y49 q = 18 := by rw [eY49]; exact c48
  refine x_putq (o := gr Y49 a0 7) dX8_copy_81 vc_X8 xin8 tyX8_ok nmX8 fb_X8_7 fl_X8_41 ff_X8_7 xr_X8_7 (by cases (gr Y49 a0 7) <;> rfl) (by cases (gr Y49 a0 7) <;> rfl) k51 ?_
  obtain ⟨Y52, eY52, h⟩ := x_lt h
  refine x_nmY eY52 ?_
  refine x_aload_n 1 dX8_copy_84 rfl rfl ?_
  refine x_wide (k' := 266) (n' := 2317) ⟨Nat.le_of_ble_eq_true rfl, Nat.le_of_ble_eq_true rfl⟩ ?_
  obtain ⟨rfl, h8⟩ := Prod.mk.inj (x_so h)
  obtain ⟨rfl, h8⟩ := Prod.mk.inj h8
  obtain ⟨rfl, rfl⟩ := Prod.mk.inj h8
  exact x_naret dX8_copy_85 rfl (Or.inl ⟨_, rfl⟩) rfl rfl
noncomputable def f_X8_held_14 (Y : XY)  : Nat → Int32 → Int32 → Nat → Int32 → Int32 → XN → Option (Int32 × XN)
  | 0, _, _, _, _, _, _ => none
  | D9 + 1, v_1, v_2, p_3, v_4, v_5, N =>
    if v_4 ≤ v_5 then
      some (v_2, N)
    else
      ck (kc Y p_3 = 8) <|
      ck (xb v_5 (kn Y p_3) = true) <|
      bd (gr Y p_3 v_5.toNatClampNeg) fun p4 =>
      ck (kc Y p4 = 1) <|
      ck (xb 3 (kn Y p4) = true) <|
      if (gi N p4 (3 : Int32).toNatClampNeg) = 1 then
        ck (xb 4 (kn Y p4) = true) <|
        if (gi N p4 (4 : Int32).toNatClampNeg) = v_1 then
          f_X8_held_14 Y D9 v_1 (v_2 + 1) p_3 v_4 (v_5 + 1) N
        else
          f_X8_held_14 Y D9 v_1 v_2 p_3 v_4 (v_5 + 1) N
      else
        f_X8_held_14 Y D9 v_1 v_2 p_3 v_4 (v_5 + 1) N
noncomputable def f_X8_held (Y : XY) (a0 : Nat) (a1 : Int32) (N : XN) : Option (Int32 × XN) :=
  ck (kc Y a0 = 18) <|
  bd (gr Y a0 6) fun p2 =>
  ck (kc Y p2 = 8) <|
  f_X8_held_14 Y FU a1 0 p2 (Int32.ofNat (kn Y p2)) 0 N
set_option maxHeartbeats 4000000 in
set_option maxRecDepth 100000 in
theorem T_X8_held_14 {G : XG} {tb : List ExceptionTableEntry} {Y : XY} {rz : Int32} {Nz : XN} : ∀ (D9 : Nat) (v_1 : Int32) (v_2 : Int32) (p_3 : Nat) (v_4 : Int32) (v_5 : Int32) (N : XN), f_X8_held_14 Y D9 v_1 v_2 p_3 v_4 v_5 N = some (rz, Nz) → ExZ G yX8_held cX8_held 7 (some .int) tb (xR 1 0 0) (xZn G (xR 1 0 0) (some (.int rz)) Y Nz) 0 0 14 [(1, .int v_1), (2, .int v_2), (3, .ref p_3), (4, .int v_4), (5, .int v_5)] [] Y N := by
  intro D9
  induction D9 with
  | zero => intro v_1 v_2 p_3 v_4 v_5 N h; exact nomatch (show none = some _ from h)
  | succ D9 ih =>
    intro v_1 v_2 p_3 v_4 v_5 N h
    rw [f_X8_held_14] at h
    refine x_iload 4 dX8_held_14 rfl ?_
    refine x_iload 3 dX8_held_16 rfl ?_
    rcases x_if h with ⟨c1, h⟩ | ⟨c1, h⟩
    · refine x_icmp_ge_t (tgt := 52) dX8_held_18 (by decide) c1 ?_
      refine x_iload_n 1 dX8_held_52 rfl rfl ?_
      obtain ⟨rfl, rfl⟩ := Prod.mk.inj (x_so h)
      exact x_niret dX8_held_53 rfl rfl rfl
    · refine x_icmp_ge_f (tgt := 52) dX8_held_18 (by decide) c1 ?_
      refine x_aload_n 2 dX8_held_21 rfl rfl ?_
      refine x_iload 4 dX8_held_22 rfl ?_
      obtain ⟨c2, h⟩ := x_ckk h
      obtain ⟨c3, h⟩ := x_ckk h
      obtain ⟨p4, ep4, h⟩ := x_bd1 h
      refine x_aald (j := 4) dX8_held_24 (by decide) c2 (xb_in c3) ep4 ?_
      refine x_astore (L' := [(1, .int v_1), (2, .int v_2), (3, .ref p_3), (4, .int v_4), (5, .int v_5), (6, .ref p4)]) [1, 2, 3, 4, 5, 0] dX8_held_25 (by decide) rfl ?_
      refine x_aload 5 dX8_held_27 rfl ?_
      refine x_iconst (v := 3) dX8_held_29 rfl ?_
      obtain ⟨c5, h⟩ := x_ckk h
      obtain ⟨c6, h⟩ := x_ckk h
      refine x_iald dX8_held_30 c5 (xb_in c6) rfl ?_
      refine x_iconst (v := 1) dX8_held_31 rfl ?_
      rcases x_if h with ⟨c7, h⟩ | ⟨c7, h⟩
      · refine x_icmp_ne_f (tgt := 46) dX8_held_32 (by decide) c7 ?_
        refine x_aload 5 dX8_held_35 rfl ?_
        refine x_iconst (v := 4) dX8_held_37 rfl ?_
        obtain ⟨c8, h⟩ := x_ckk h
        refine x_iald dX8_held_38 c5 (xb_in c8) rfl ?_
        refine x_iload_n 0 dX8_held_39 rfl rfl ?_
        rcases x_if h with ⟨c9, h⟩ | ⟨c9, h⟩
        · refine x_icmp_ne_f (tgt := 46) dX8_held_40 (by decide) c9 ?_
          refine x_iinc (L' := [(1, .int v_1), (2, .int (v_2 + 1)), (3, .ref p_3), (4, .int v_4), (5, .int v_5)]) 1 [1, 0, 2, 3, 4] dX8_held_43 rfl rfl (by decide) rfl ?_
          refine x_iinc (L' := [(1, .int v_1), (2, .int (v_2 + 1)), (3, .ref p_3), (4, .int v_4), (5, .int (v_5 + 1))]) 4 [1, 2, 3, 4, 0] dX8_held_46 rfl rfl (by decide) rfl ?_
          refine x_goto (tgt := 14) dX8_held_49 (by decide) ?_
          exact ih v_1 (v_2 + 1) p_3 v_4 (v_5 + 1) N h
        · refine x_icmp_ne_t (tgt := 46) dX8_held_40 (by decide) c9 ?_
          refine x_iinc (L' := [(1, .int v_1), (2, .int v_2), (3, .ref p_3), (4, .int v_4), (5, .int (v_5 + 1))]) 4 [1, 2, 3, 4, 0] dX8_held_46 rfl rfl (by decide) rfl ?_
          refine x_goto (tgt := 14) dX8_held_49 (by decide) ?_
          exact ih v_1 v_2 p_3 v_4 (v_5 + 1) N h
      · refine x_icmp_ne_t (tgt := 46) dX8_held_32 (by decide) c7 ?_
        refine x_iinc (L' := [(1, .int v_1), (2, .int v_2), (3, .ref p_3), (4, .int v_4), (5, .int (v_5 + 1))]) 4 [1, 2, 3, 4, 0] dX8_held_46 rfl rfl (by decide) rfl ?_
        refine x_goto (tgt := 14) dX8_held_49 (by decide) ?_
        exact ih v_1 v_2 p_3 v_4 (v_5 + 1) N h
set_option maxHeartbeats 4000000 in
set_option maxRecDepth 100000 in
theorem T_X8_held {G : XG} {Y : XY} {a0 : Nat} {a1 : Int32} {N : XN} {rz : Int32} {Nz : XN} (h : f_X8_held Y a0 a1 N = some (rz, Nz)) : Cn G yX8_held cX8_held 7 (some .int) (xR 1 0 0) [.ref a0, .int a1] (some (.int rz)) Y N Y Nz := by
  refine x_entryN (by decide) (Nat.le_of_ble_eq_true rfl) rfl fun tb => ?_
  rw [f_X8_held] at h
  refine x_iconst (v := 0) dX8_held_0 rfl ?_
  refine x_istore_n (L' := [(0, .ref a0), (1, .int a1), (2, .int 0)]) [1, 2, 0] dX8_held_1 rfl (by decide) rfl ?_
  refine x_aload_n 0 dX8_held_2 rfl rfl ?_
  obtain ⟨c1, h⟩ := x_ckk h
  obtain ⟨p2, ep2, h⟩ := x_bd1 h
  refine x_getr dX8_held_3 vc_X8 xin8 fb_X8_6 fl_X8_24 xr_X8_6 c1 ep2 ?_
  refine x_astore_n (L' := [(1, .int a1), (2, .int 0), (3, .ref p2)]) [2, 3, 0] dX8_held_6 rfl (by decide) rfl ?_
  refine x_aload_n 2 dX8_held_7 rfl rfl ?_
  obtain ⟨c3, h⟩ := x_ckk h
  refine x_rlen (j := 4) dX8_held_8 (by decide) c3 rfl ?_
  refine x_istore (L' := [(1, .int a1), (2, .int 0), (3, .ref p2), (4, .int (Int32.ofNat (kn Y p2)))]) [1, 2, 3, 0] dX8_held_9 (by decide) rfl ?_
  refine x_iconst (v := 0) dX8_held_11 rfl ?_
  refine x_istore (L' := [(1, .int a1), (2, .int 0), (3, .ref p2), (4, .int (Int32.ofNat (kn Y p2))), (5, .int 0)]) [1, 2, 3, 4, 0] dX8_held_12 (by decide) rfl ?_
  exact T_X8_held_14 (G := G) FU a1 0 p2 (Int32.ofNat (kn Y p2)) 0 N h
noncomputable def f_X8_assign_22 (Y : XY)  : Nat → Nat → Nat → Int32 → Nat → Int32 → Int32 → XN → Option XN
  | 0, _, _, _, _, _, _, _ => none
  | D9 + 1, p_0, p_1, v_2, p_3, v_4, v_5, N =>
    if v_4 ≤ v_5 then
      ck (kc Y p_1 = 1) <|
      ck (xb 4 (kn Y p_1) = true) <|
      lt (si N p_1 ((4 : Int32).toNatClampNeg) v_2) fun N4 =>
      ck (kc Y p_0 = 18) <|
      ck (xb 7 (kn Y p_1) = true) <|
      lt (si N4 p_1 ((7 : Int32).toNatClampNeg) (gi N4 p_0 0)) fun N7 =>
      some N7
    else
      ck (kc Y p_3 = 1) <|
      ck (xb v_5 (kn Y p_3) = true) <|
      lt (gi N p_3 v_5.toNatClampNeg) fun v10 =>
      if v_2 < 0 then
        f_X8_assign_22 Y D9 p_0 p_1 v10 p_3 v_4 (v_5 + 1) N
      else
        ck (kc Y p_0 = 18) <|
        bd2 (f_X8_held Y p_0 v10 N) fun r13 N15 =>
        bd2 (f_X8_held Y p_0 v_2 N15) fun r16 N18 =>
        if r16 ≤ r13 then
          f_X8_assign_22 Y D9 p_0 p_1 v_2 p_3 v_4 (v_5 + 1) N18
        else
          f_X8_assign_22 Y D9 p_0 p_1 v10 p_3 v_4 (v_5 + 1) N18
noncomputable def f_X8_assign (Y : XY) (a0 : Nat) (a1 : Nat) (N : XN) : Option XN :=
  ck (kc Y a1 = 1) <|
  ck (xb 4 (kn Y a1) = true) <|
  lt (si N a1 ((4 : Int32).toNatClampNeg) (-1)) fun N3 =>
  ck (kc Y a0 = 18) <|
  bd (gr Y a0 5) fun p5 =>
  ck (xb 0 (kn Y a1) = true) <|
  ck (kc Y p5 = 8) <|
  ck (xb (gi N3 a1 (0 : Int32).toNatClampNeg) (kn Y p5) = true) <|
  bd (gr Y p5 (gi N3 a1 (0 : Int32).toNatClampNeg).toNatClampNeg) fun p9 =>
  ck (kc Y p9 = 1) <|
  f_X8_assign_22 Y FU a0 a1 (-1) p9 (Int32.ofNat (kn Y p9)) 0 N3
set_option maxHeartbeats 4000000 in
set_option maxRecDepth 100000 in
theorem T_X8_assign_22 {G : XG} {tb : List ExceptionTableEntry} {Y : XY} {Nz : XN} : ∀ (D9 : Nat) (p_0 : Nat) (p_1 : Nat) (v_2 : Int32) (p_3 : Nat) (v_4 : Int32) (v_5 : Int32) (N : XN), f_X8_assign_22 Y D9 p_0 p_1 v_2 p_3 v_4 v_5 N = some Nz → ExZ G yX8_assign cX8_assign 7 none tb (xR 2 0 0) (xZn G (xR 2 0 0) none Y Nz) 0 0 22 [(0, .ref p_0), (1, .ref p_1), (2, .int v_2), (3, .ref p_3), (4, .int v_4), (5, .int v_5)] [] Y N := by
  intro D9
  induction D9 with
  | zero => intro p_0 p_1 v_2 p_3 v_4 v_5 N h; exact nomatch (show none = some _ from h)
  | succ D9 ih =>
    intro p_0 p_1 v_2 p_3 v_4 v_5 N h
    rw [f_X8_assign_22] at h
    refine x_iload 5 dX8_assign_22 rfl ?_
    refine x_iload 4 dX8_assign_24 rfl ?_
    rcases x_if h with ⟨c1, h⟩ | ⟨c1, h⟩
    · refine x_icmp_ge_t (tgt := 62) dX8_assign_26 (by decide) c1 ?_
      refine x_aload_n 1 dX8_assign_62 rfl rfl ?_
      refine x_iconst (v := 4) dX8_assign_63 rfl ?_
      refine x_iload_n 2 dX8_assign_64 rfl rfl ?_
      obtain ⟨c2, h⟩ := x_ckk h
      obtain ⟨c3, h⟩ := x_ckk h
      refine x_iast dX8_assign_65 c2 (xb_in c3) rfl ?_
      obtain ⟨N4, eN4, h⟩ := x_lt h
      refine x_nmM eN4 ?_
      refine x_aload_n 1 dX8_assign_66 rfl rfl ?_
      refine x_bipush (v := 7) dX8_assign_67 rfl ?_
      refine x_aload_n 0 dX8_assign_69 rfl rfl ?_
      obtain ⟨c5, h⟩ := x_ckk h
      refine x_geti dX8_assign_70 vc_X8 xin8 fb_X8_0 fl_X8_28 xr_X8_0 c5 ?_
      obtain ⟨c6, h⟩ := x_ckk h
      refine x_iast dX8_assign_73 c2 (xb_in c6) rfl ?_
      obtain ⟨N7, eN7, h⟩ := x_lt h
      refine x_nmM eN7 ?_
      obtain rfl := x_so h
      exact x_nvret dX8_assign_74 rfl rfl rfl
    · refine x_icmp_ge_f (tgt := 62) dX8_assign_26 (by decide) c1 ?_
      refine x_aload_n 3 dX8_assign_29 rfl rfl ?_
      refine x_iload 5 dX8_assign_30 rfl ?_
      obtain ⟨c8, h⟩ := x_ckk h
      obtain ⟨c9, h⟩ := x_ckk h
      refine x_iald dX8_assign_32 c8 (xb_in c9) rfl ?_
      obtain ⟨v10, ev10, h⟩ := x_lt h
      refine x_nmi ev10 ?_
      refine x_istore (L' := [(0, .ref p_0), (1, .ref p_1), (2, .int v_2), (3, .ref p_3), (4, .int v_4), (5, .int v_5), (6, .int v10)]) [1, 2, 3, 4, 5, 6, 0] dX8_assign_33 (by decide) rfl ?_
      refine x_iload_n 2 dX8_assign_35 rfl rfl ?_
      rcases x_if h with ⟨c11, h⟩ | ⟨c11, h⟩
      · refine x_if_lt_t (tgt := 53) dX8_assign_36 (by decide) c11 ?_
        refine x_iload 6 dX8_assign_53 rfl ?_
        refine x_istore_n (L' := [(0, .ref p_0), (1, .ref p_1), (2, .int v10), (3, .ref p_3), (4, .int v_4), (5, .int v_5)]) [1, 2, 0, 3, 4, 5] dX8_assign_55 rfl (by decide) rfl ?_
        refine x_iinc (L' := [(0, .ref p_0), (1, .ref p_1), (2, .int v10), (3, .ref p_3), (4, .int v_4), (5, .int (v_5 + 1))]) 5 [1, 2, 3, 4, 5, 0] dX8_assign_56 rfl rfl (by decide) rfl ?_
        refine x_goto (tgt := 22) dX8_assign_59 (by decide) ?_
        exact ih p_0 p_1 v10 p_3 v_4 (v_5 + 1) N h
      · refine x_if_lt_f (tgt := 53) dX8_assign_36 (by decide) c11 ?_
        refine x_aload_n 0 dX8_assign_39 rfl rfl ?_
        refine x_iload 6 dX8_assign_40 rfl ?_
        obtain ⟨c12, h⟩ := x_ckk h
        obtain ⟨r13, N15, e14, h⟩ := x_bd2 h
        refine x_nV (b := p_0) (As := [.int v10]) (ci := 8) (R' := xR 1 0 0) (zz := yX8_held) dX8_assign_42 ml_X8_45 wi_X8_held wv_X8_held wn_X8 wc_X8_held hp_X8_held ⟨Nat.le_of_ble_eq_true rfl, Nat.le_of_ble_eq_true rfl⟩ rfl (Nat.le_of_ble_eq_true rfl) ⟨Nat.le_refl _, Nat.le_refl _⟩ vc_X8 c12 (T_X8_held (G := G) e14) ?_
        refine x_aload_n 0 dX8_assign_45 rfl rfl ?_
        refine x_iload_n 2 dX8_assign_46 rfl rfl ?_
        obtain ⟨r16, N18, e17, h⟩ := x_bd2 h
        refine x_nV (b := p_0) (As := [.int v_2]) (ci := 8) (R' := xR 1 0 0) (zz := yX8_held) dX8_assign_47 ml_X8_45 wi_X8_held wv_X8_held wn_X8 wc_X8_held hp_X8_held ⟨Nat.le_of_ble_eq_true rfl, Nat.le_of_ble_eq_true rfl⟩ rfl (Nat.le_of_ble_eq_true rfl) ⟨Nat.le_refl _, Nat.le_refl _⟩ vc_X8 c12 (T_X8_held (G := G) e17) ?_
        rcases x_if h with ⟨c19, h⟩ | ⟨c19, h⟩
        · refine x_icmp_ge_t (tgt := 56) dX8_assign_50 (by decide) c19 ?_
          refine x_iinc (L' := [(0, .ref p_0), (1, .ref p_1), (2, .int v_2), (3, .ref p_3), (4, .int v_4), (5, .int (v_5 + 1))]) 5 [1, 2, 3, 4, 5, 0] dX8_assign_56 rfl rfl (by decide) rfl ?_
          refine x_goto (tgt := 22) dX8_assign_59 (by decide) ?_
          exact ih p_0 p_1 v_2 p_3 v_4 (v_5 + 1) N18 h
        · refine x_icmp_ge_f (tgt := 56) dX8_assign_50 (by decide) c19 ?_
          refine x_iload 6 dX8_assign_53 rfl ?_
          refine x_istore_n (L' := [(0, .ref p_0), (1, .ref p_1), (2, .int v10), (3, .ref p_3), (4, .int v_4), (5, .int v_5)]) [1, 2, 0, 3, 4, 5] dX8_assign_55 rfl (by decide) rfl ?_
          refine x_iinc (L' := [(0, .ref p_0), (1, .ref p_1), (2, .int v10), (3, .ref p_3), (4, .int v_4), (5, .int (v_5 + 1))]) 5 [1, 2, 3, 4, 5, 0] dX8_assign_56 rfl rfl (by decide) rfl ?_
          refine x_goto (tgt := 22) dX8_assign_59 (by decide) ?_
          exact ih p_0 p_1 v10 p_3 v_4 (v_5 + 1) N18 h
set_option maxHeartbeats 4000000 in
set_option maxRecDepth 100000 in
theorem T_X8_assign {G : XG} {Y : XY} {a0 : Nat} {a1 : Nat} {N : XN} {Nz : XN} (h : f_X8_assign Y a0 a1 N = some Nz) : Cn G yX8_assign cX8_assign 7 none (xR 2 0 0) [.ref a0, .ref a1] none Y N Y Nz := by
  refine x_entryN (by decide) (Nat.le_of_ble_eq_true rfl) rfl fun tb => ?_
  rw [f_X8_assign] at h
  refine x_aload_n 1 dX8_assign_0 rfl rfl ?_
  refine x_iconst (v := 4) dX8_assign_1 rfl ?_
  refine x_iconst (v := (-1)) dX8_assign_2 rfl ?_
  obtain ⟨c1, h⟩ := x_ckk h
  obtain ⟨c2, h⟩ := x_ckk h
  refine x_iast dX8_assign_3 c1 (xb_in c2) rfl ?_
  obtain ⟨N3, eN3, h⟩ := x_lt h
  refine x_nmM eN3 ?_
  refine x_iconst (v := (-1)) dX8_assign_4 rfl ?_
  refine x_istore_n (L' := [(0, .ref a0), (1, .ref a1), (2, .int (-1))]) [1, 2, 0] dX8_assign_5 rfl (by decide) rfl ?_
  refine x_aload_n 0 dX8_assign_6 rfl rfl ?_
  obtain ⟨c4, h⟩ := x_ckk h
  obtain ⟨p5, ep5, h⟩ := x_bd1 h
  refine x_getr dX8_assign_7 vc_X8 xin8 fb_X8_5 fl_X8_21 xr_X8_5 c4 ep5 ?_
  refine x_aload_n 1 dX8_assign_10 rfl rfl ?_
  refine x_iconst (v := 0) dX8_assign_11 rfl ?_
  obtain ⟨c6, h⟩ := x_ckk h
  refine x_iald dX8_assign_12 c1 (xb_in c6) rfl ?_
  obtain ⟨c7, h⟩ := x_ckk h
  obtain ⟨c8, h⟩ := x_ckk h
  obtain ⟨p9, ep9, h⟩ := x_bd1 h
  refine x_aald (j := 4) dX8_assign_13 (by decide) c7 (xb_in c8) ep9 ?_
  refine x_astore_n (L' := [(0, .ref a0), (1, .ref a1), (2, .int (-1)), (3, .ref p9)]) [1, 2, 3, 0] dX8_assign_14 rfl (by decide) rfl ?_
  refine x_aload_n 3 dX8_assign_15 rfl rfl ?_
  obtain ⟨c10, h⟩ := x_ckk h
  refine x_ilen dX8_assign_16 c10 rfl ?_
  refine x_istore (L' := [(0, .ref a0), (1, .ref a1), (2, .int (-1)), (3, .ref p9), (4, .int (Int32.ofNat (kn Y p9)))]) [1, 2, 3, 4, 0] dX8_assign_17 (by decide) rfl ?_
  refine x_iconst (v := 0) dX8_assign_19 rfl ?_
  refine x_istore (L' := [(0, .ref a0), (1, .ref a1), (2, .int (-1)), (3, .ref p9), (4, .int (Int32.ofNat (kn Y p9))), (5, .int 0)]) [1, 2, 3, 4, 5, 0] dX8_assign_20 (by decide) rfl ?_
  exact T_X8_assign_22 (G := G) FU a0 a1 (-1) p9 (Int32.ofNat (kn Y p9)) 0 N3 h
noncomputable def f_X8_raised_14 (Y : XY)  : Nat → Nat → Int32 → Int32 → Nat → Int32 → Int32 → XN → Option (Int32 × XN)
  | 0, _, _, _, _, _, _, _ => none
  | D9 + 1, p_0, v_1, v_2, p_3, v_4, v_5, N =>
    if v_4 ≤ v_5 then
      some (v_2, N)
    else
      ck (kc Y p_3 = 8) <|
      ck (xb v_5 (kn Y p_3) = true) <|
      bd (gr Y p_3 v_5.toNatClampNeg) fun p4 =>
      ck (kc Y p4 = 1) <|
      ck (xb 0 (kn Y p4) = true) <|
      if (gi N p4 (0 : Int32).toNatClampNeg) = v_1 then
        ck (xb 3 (kn Y p4) = true) <|
        if (gi N p4 (3 : Int32).toNatClampNeg) ≤ 0 then
          f_X8_raised_14 Y D9 p_0 v_1 v_2 p_3 v_4 (v_5 + 1) N
        else
          ck (xb 1 (kn Y p4) = true) <|
          ck (kc Y p_0 = 18) <|
          bd (gr Y p_0 2) fun p12 =>
          ck (kc Y p12 = 1) <|
          ck (xb 1 (kn Y p12) = true) <|
          if (gi N p4 (1 : Int32).toNatClampNeg) ≤ ((gi N p_0 0) - (gi N p12 (1 : Int32).toNatClampNeg)) then
            f_X8_raised_14 Y D9 p_0 v_1 v_2 p_3 v_4 (v_5 + 1) N
          else
            f_X8_raised_14 Y D9 p_0 v_1 (v_2 + 1) p_3 v_4 (v_5 + 1) N
      else
        f_X8_raised_14 Y D9 p_0 v_1 v_2 p_3 v_4 (v_5 + 1) N
noncomputable def f_X8_raised (Y : XY) (a0 : Nat) (a1 : Int32) (N : XN) : Option (Int32 × XN) :=
  ck (kc Y a0 = 18) <|
  bd (gr Y a0 6) fun p2 =>
  ck (kc Y p2 = 8) <|
  f_X8_raised_14 Y FU a0 a1 0 p2 (Int32.ofNat (kn Y p2)) 0 N
set_option maxHeartbeats 4000000 in
set_option maxRecDepth 100000 in
theorem T_X8_raised_14 {G : XG} {tb : List ExceptionTableEntry} {Y : XY} {rz : Int32} {Nz : XN} : ∀ (D9 : Nat) (p_0 : Nat) (v_1 : Int32) (v_2 : Int32) (p_3 : Nat) (v_4 : Int32) (v_5 : Int32) (N : XN), f_X8_raised_14 Y D9 p_0 v_1 v_2 p_3 v_4 v_5 N = some (rz, Nz) → ExZ G yX8_raised cX8_raised 7 (some .int) tb (xR 1 0 0) (xZn G (xR 1 0 0) (some (.int rz)) Y Nz) 0 0 14 [(0, .ref p_0), (1, .int v_1), (2, .int v_2), (3, .ref p_3), (4, .int v_4), (5, .int v_5)] [] Y N := by
  intro D9
  induction D9 with
  | zero => intro p_0 v_1 v_2 p_3 v_4 v_5 N h; exact nomatch (show none = some _ from h)
  | succ D9 ih =>
    intro p_0 v_1 v_2 p_3 v_4 v_5 N h
    rw [f_X8_raised_14] at h
    refine x_iload 5 dX8_raised_14 rfl ?_
    refine x_iload 4 dX8_raised_16 rfl ?_
    rcases x_if h with ⟨c1, h⟩ | ⟨c1, h⟩
    · refine x_icmp_ge_t (tgt := 69) dX8_raised_18 (by decide) c1 ?_
      refine x_iload_n 2 dX8_raised_69 rfl rfl ?_
      obtain ⟨rfl, rfl⟩ := Prod.mk.inj (x_so h)
      exact x_niret dX8_raised_70 rfl rfl rfl
    · refine x_icmp_ge_f (tgt := 69) dX8_raised_18 (by decide) c1 ?_
      refine x_aload_n 3 dX8_raised_21 rfl rfl ?_
      refine x_iload 5 dX8_raised_22 rfl ?_
      obtain ⟨c2, h⟩ := x_ckk h
      obtain ⟨c3, h⟩ := x_ckk h
      obtain ⟨p4, ep4, h⟩ := x_bd1 h
      refine x_aald (j := 4) dX8_raised_24 (by decide) c2 (xb_in c3) ep4 ?_
      refine x_astore (L' := [(0, .ref p_0), (1, .int v_1), (2, .int v_2), (3, .ref p_3), (4, .int v_4), (5, .int v_5), (6, .ref p4)]) [1, 2, 3, 4, 5, 6, 0] dX8_raised_25 (by decide) rfl ?_
      refine x_aload 6 dX8_raised_27 rfl ?_
      refine x_iconst (v := 0) dX8_raised_29 rfl ?_
      obtain ⟨c5, h⟩ := x_ckk h
      obtain ⟨c6, h⟩ := x_ckk h
      refine x_iald dX8_raised_30 c5 (xb_in c6) rfl ?_
      refine x_iload_n 1 dX8_raised_31 rfl rfl ?_
      rcases x_if h with ⟨c7, h⟩ | ⟨c7, h⟩
      · refine x_icmp_ne_f (tgt := 63) dX8_raised_32 (by decide) c7 ?_
        refine x_aload 6 dX8_raised_35 rfl ?_
        refine x_iconst (v := 3) dX8_raised_37 rfl ?_
        obtain ⟨c8, h⟩ := x_ckk h
        refine x_iald dX8_raised_38 c5 (xb_in c8) rfl ?_
        rcases x_if h with ⟨c9, h⟩ | ⟨c9, h⟩
        · refine x_if_le_t (tgt := 63) dX8_raised_39 (by decide) c9 ?_
          refine x_iinc (L' := [(0, .ref p_0), (1, .int v_1), (2, .int v_2), (3, .ref p_3), (4, .int v_4), (5, .int (v_5 + 1))]) 5 [1, 2, 3, 4, 5, 0] dX8_raised_63 rfl rfl (by decide) rfl ?_
          refine x_goto (tgt := 14) dX8_raised_66 (by decide) ?_
          exact ih p_0 v_1 v_2 p_3 v_4 (v_5 + 1) N h
        · refine x_if_le_f (tgt := 63) dX8_raised_39 (by decide) c9 ?_
          refine x_aload 6 dX8_raised_42 rfl ?_
          refine x_iconst (v := 1) dX8_raised_44 rfl ?_
          obtain ⟨c10, h⟩ := x_ckk h
          refine x_iald dX8_raised_45 c5 (xb_in c10) rfl ?_
          refine x_aload_n 0 dX8_raised_46 rfl rfl ?_
          obtain ⟨c11, h⟩ := x_ckk h
          refine x_geti dX8_raised_47 vc_X8 xin8 fb_X8_0 fl_X8_28 xr_X8_0 c11 ?_
          refine x_aload_n 0 dX8_raised_50 rfl rfl ?_
          obtain ⟨p12, ep12, h⟩ := x_bd1 h
          refine x_getr dX8_raised_51 vc_X8 xin8 fb_X8_2 fl_X8_7 xr_X8_2 c11 ep12 ?_
          refine x_iconst (v := 1) dX8_raised_54 rfl ?_
          obtain ⟨c13, h⟩ := x_ckk h
          obtain ⟨c14, h⟩ := x_ckk h
          refine x_iald dX8_raised_55 c13 (xb_in c14) rfl ?_
          refine x_isub dX8_raised_56 ?_
          rcases x_if h with ⟨c15, h⟩ | ⟨c15, h⟩
          · refine x_icmp_le_t (tgt := 63) dX8_raised_57 (by decide) c15 ?_
            refine x_iinc (L' := [(0, .ref p_0), (1, .int v_1), (2, .int v_2), (3, .ref p_3), (4, .int v_4), (5, .int (v_5 + 1))]) 5 [1, 2, 3, 4, 5, 0] dX8_raised_63 rfl rfl (by decide) rfl ?_
            refine x_goto (tgt := 14) dX8_raised_66 (by decide) ?_
            exact ih p_0 v_1 v_2 p_3 v_4 (v_5 + 1) N h
          · refine x_icmp_le_f (tgt := 63) dX8_raised_57 (by decide) c15 ?_
            refine x_iinc (L' := [(0, .ref p_0), (1, .int v_1), (2, .int (v_2 + 1)), (3, .ref p_3), (4, .int v_4), (5, .int v_5)]) 2 [1, 2, 0, 3, 4, 5] dX8_raised_60 rfl rfl (by decide) rfl ?_
            refine x_iinc (L' := [(0, .ref p_0), (1, .int v_1), (2, .int (v_2 + 1)), (3, .ref p_3), (4, .int v_4), (5, .int (v_5 + 1))]) 5 [1, 2, 3, 4, 5, 0] dX8_raised_63 rfl rfl (by decide) rfl ?_
            refine x_goto (tgt := 14) dX8_raised_66 (by decide) ?_
            exact ih p_0 v_1 (v_2 + 1) p_3 v_4 (v_5 + 1) N h
      · refine x_icmp_ne_t (tgt := 63) dX8_raised_32 (by decide) c7 ?_
        refine x_iinc (L' := [(0, .ref p_0), (1, .int v_1), (2, .int v_2), (3, .ref p_3), (4, .int v_4), (5, .int (v_5 + 1))]) 5 [1, 2, 3, 4, 5, 0] dX8_raised_63 rfl rfl (by decide) rfl ?_
        refine x_goto (tgt := 14) dX8_raised_66 (by decide) ?_
        exact ih p_0 v_1 v_2 p_3 v_4 (v_5 + 1) N h
set_option maxHeartbeats 4000000 in
set_option maxRecDepth 100000 in
theorem T_X8_raised {G : XG} {Y : XY} {a0 : Nat} {a1 : Int32} {N : XN} {rz : Int32} {Nz : XN} (h : f_X8_raised Y a0 a1 N = some (rz, Nz)) : Cn G yX8_raised cX8_raised 7 (some .int) (xR 1 0 0) [.ref a0, .int a1] (some (.int rz)) Y N Y Nz := by
  refine x_entryN (by decide) (Nat.le_of_ble_eq_true rfl) rfl fun tb => ?_
  rw [f_X8_raised] at h
  refine x_iconst (v := 0) dX8_raised_0 rfl ?_
  refine x_istore_n (L' := [(0, .ref a0), (1, .int a1), (2, .int 0)]) [1, 2, 0] dX8_raised_1 rfl (by decide) rfl ?_
  refine x_aload_n 0 dX8_raised_2 rfl rfl ?_
  obtain ⟨c1, h⟩ := x_ckk h
  obtain ⟨p2, ep2, h⟩ := x_bd1 h
  refine x_getr dX8_raised_3 vc_X8 xin8 fb_X8_6 fl_X8_24 xr_X8_6 c1 ep2 ?_
  refine x_astore_n (L' := [(0, .ref a0), (1, .int a1), (2, .int 0), (3, .ref p2)]) [1, 2, 3, 0] dX8_raised_6 rfl (by decide) rfl ?_
  refine x_aload_n 3 dX8_raised_7 rfl rfl ?_
  obtain ⟨c3, h⟩ := x_ckk h
  refine x_rlen (j := 4) dX8_raised_8 (by decide) c3 rfl ?_
  refine x_istore (L' := [(0, .ref a0), (1, .int a1), (2, .int 0), (3, .ref p2), (4, .int (Int32.ofNat (kn Y p2)))]) [1, 2, 3, 4, 0] dX8_raised_9 (by decide) rfl ?_
  refine x_iconst (v := 0) dX8_raised_11 rfl ?_
  refine x_istore (L' := [(0, .ref a0), (1, .int a1), (2, .int 0), (3, .ref p2), (4, .int (Int32.ofNat (kn Y p2))), (5, .int 0)]) [1, 2, 3, 4, 5, 0] dX8_raised_12 (by decide) rfl ?_
  exact T_X8_raised_14 (G := G) FU a0 a1 0 p2 (Int32.ofNat (kn Y p2)) 0 N h
noncomputable def f_X8_raises (Y : XY) (a0 : Nat) (a1 : Nat) (N : XN) : Option XN :=
  ck (kc Y a0 = 18) <|
  bd (gr Y a0 4) fun p2 =>
  ck (kc Y a1 = 1) <|
  ck (xb 0 (kn Y a1) = true) <|
  ck (kc Y p2 = 8) <|
  ck (xb (gi N a1 (0 : Int32).toNatClampNeg) (kn Y p2) = true) <|
  bd (gr Y p2 (gi N a1 (0 : Int32).toNatClampNeg).toNatClampNeg) fun p7 =>
  ck (xb 0 (kn Y a1) = true) <|
  bd2 (f_X8_raised Y a0 (gi N a1 (0 : Int32).toNatClampNeg) N) fun r9 N11 =>
  ck (kc Y p7 = 1) <|
  ck (xb 1 (kn Y p7) = true) <|
  if r9 < (gi N11 p7 (1 : Int32).toNatClampNeg) then
    ck (xb 3 (kn Y a1) = true) <|
    lt (si N11 a1 ((3 : Int32).toNatClampNeg) 1) fun N16 =>
    ck (xb 2 (kn Y a1) = true) <|
    ck (xb 5 (kn Y a1) = true) <|
    lt (si N16 a1 ((5 : Int32).toNatClampNeg) (gi N16 a1 (2 : Int32).toNatClampNeg)) fun N19 =>
    bd (f_X8_assign Y a0 a1 N19) fun N21 =>
    some N21
  else
    bd (gr Y a0 2) fun p22 =>
    ck (kc Y p22 = 1) <|
    ck (xb 2 (kn Y p22) = true) <|
    ck (xb 2 (kn Y p7) = true) <|
    bd2 (f_J9_min_7cf53 Y (gi N11 p22 (2 : Int32).toNatClampNeg) (gi N11 p7 (2 : Int32).toNatClampNeg) N11) fun r26 N28 =>
    ck (xb 2 (kn Y p7) = true) <|
    ck (xb 2 (kn Y p7) = true) <|
    lt (si N28 p7 ((2 : Int32).toNatClampNeg) ((gi N28 p7 (2 : Int32).toNatClampNeg) - r26)) fun N31 =>
    lt (si N31 a0 1 ((gi N31 a0 1) + r26)) fun N32 =>
    ck (xb 3 (kn Y a1) = true) <|
    lt (si N32 a1 ((3 : Int32).toNatClampNeg) 3) fun N34 =>
    ck (xb 6 (kn Y a1) = true) <|
    lt (si N34 a1 ((6 : Int32).toNatClampNeg) (gi N34 a0 0)) fun N36 =>
    some N36
set_option maxHeartbeats 4000000 in
set_option maxRecDepth 100000 in
theorem T_X8_raises {G : XG} {Y : XY} {a0 : Nat} {a1 : Nat} {N : XN} {Nz : XN} (h : f_X8_raises Y a0 a1 N = some Nz) : Cn G yX8_raises cX8_raises 4 none (xR 3 0 0) [.ref a0, .ref a1] none Y N Y Nz := by
  refine x_entryN (by decide) (Nat.le_of_ble_eq_true rfl) rfl fun tb => ?_
  rw [f_X8_raises] at h
  refine x_aload_n 0 dX8_raises_0 rfl rfl ?_
  obtain ⟨c1, h⟩ := x_ckk h
  obtain ⟨p2, ep2, h⟩ := x_bd1 h
  refine x_getr dX8_raises_1 vc_X8 xin8 fb_X8_4 fl_X8_18 xr_X8_4 c1 ep2 ?_
  refine x_aload_n 1 dX8_raises_4 rfl rfl ?_
  refine x_iconst (v := 0) dX8_raises_5 rfl ?_
  obtain ⟨c3, h⟩ := x_ckk h
  obtain ⟨c4, h⟩ := x_ckk h
  refine x_iald dX8_raises_6 c3 (xb_in c4) rfl ?_
  obtain ⟨c5, h⟩ := x_ckk h
  obtain ⟨c6, h⟩ := x_ckk h
  obtain ⟨p7, ep7, h⟩ := x_bd1 h
  refine x_aald (j := 4) dX8_raises_7 (by decide) c5 (xb_in c6) ep7 ?_
  refine x_astore_n (L' := [(0, .ref a0), (1, .ref a1), (2, .ref p7)]) [1, 2, 0] dX8_raises_8 rfl (by decide) rfl ?_
  refine x_aload_n 0 dX8_raises_9 rfl rfl ?_
  refine x_aload_n 1 dX8_raises_10 rfl rfl ?_
  refine x_iconst (v := 0) dX8_raises_11 rfl ?_
  obtain ⟨c8, h⟩ := x_ckk h
  refine x_iald dX8_raises_12 c3 (xb_in c8) rfl ?_
  obtain ⟨r9, N11, e10, h⟩ := x_bd2 h
  refine x_nV (b := a0) (As := [.int (gi N a1 (0 : Int32).toNatClampNeg)]) (ci := 8) (R' := xR 1 0 0) (zz := yX8_raised) dX8_raises_13 ml_X8_49 wi_X8_raised wv_X8_raised wn_X8 wc_X8_raised hp_X8_raised ⟨Nat.le_of_ble_eq_true rfl, Nat.le_of_ble_eq_true rfl⟩ rfl (Nat.le_of_ble_eq_true rfl) ⟨Nat.le_refl _, Nat.le_refl _⟩ vc_X8 c1 (T_X8_raised (G := G) e10) ?_
  refine x_aload_n 2 dX8_raises_16 rfl rfl ?_
  refine x_iconst (v := 1) dX8_raises_17 rfl ?_
  obtain ⟨c12, h⟩ := x_ckk h
  obtain ⟨c13, h⟩ := x_ckk h
  refine x_iald dX8_raises_18 c12 (xb_in c13) rfl ?_
  rcases x_if h with ⟨c14, h⟩ | ⟨c14, h⟩
  · refine x_icmp_lt_t (tgt := 65) dX8_raises_19 (by decide) c14 ?_
    refine x_aload_n 1 dX8_raises_65 rfl rfl ?_
    refine x_iconst (v := 3) dX8_raises_66 rfl ?_
    refine x_iconst (v := 1) dX8_raises_67 rfl ?_
    obtain ⟨c15, h⟩ := x_ckk h
    refine x_iast dX8_raises_68 c3 (xb_in c15) rfl ?_
    obtain ⟨N16, eN16, h⟩ := x_lt h
    refine x_nmM eN16 ?_
    refine x_aload_n 1 dX8_raises_69 rfl rfl ?_
    refine x_iconst (v := 5) dX8_raises_70 rfl ?_
    refine x_aload_n 1 dX8_raises_71 rfl rfl ?_
    refine x_iconst (v := 2) dX8_raises_72 rfl ?_
    obtain ⟨c17, h⟩ := x_ckk h
    refine x_iald dX8_raises_73 c3 (xb_in c17) rfl ?_
    obtain ⟨c18, h⟩ := x_ckk h
    refine x_iast dX8_raises_74 c3 (xb_in c18) rfl ?_
    obtain ⟨N19, eN19, h⟩ := x_lt h
    refine x_nmM eN19 ?_
    refine x_aload_n 0 dX8_raises_75 rfl rfl ?_
    refine x_aload_n 1 dX8_raises_76 rfl rfl ?_
    obtain ⟨N21, e20, h⟩ := x_bd1 h
    refine x_nV (b := a0) (As := [.ref a1]) (ci := 8) (R' := xR 2 0 0) (zz := yX8_assign) dX8_raises_77 ml_X8_58 wi_X8_assign wv_X8_assign wn_X8 wc_X8_assign hp_X8_assign ⟨Nat.le_of_ble_eq_true rfl, Nat.le_of_ble_eq_true rfl⟩ rfl (Nat.le_of_ble_eq_true rfl) ⟨Nat.le_refl _, Nat.le_refl _⟩ vc_X8 c1 (T_X8_assign (G := G) e20) ?_
    obtain rfl := x_so h
    exact x_nvret dX8_raises_80 rfl rfl rfl
  · refine x_icmp_lt_f (tgt := 65) dX8_raises_19 (by decide) c14 ?_
    refine x_aload_n 0 dX8_raises_22 rfl rfl ?_
    obtain ⟨p22, ep22, h⟩ := x_bd1 h
    refine x_getr dX8_raises_23 vc_X8 xin8 fb_X8_2 fl_X8_7 xr_X8_2 c1 ep22 ?_
    refine x_iconst (v := 2) dX8_raises_26 rfl ?_
    obtain ⟨c23, h⟩ := x_ckk h
    obtain ⟨c24, h⟩ := x_ckk h
    refine x_iald dX8_raises_27 c23 (xb_in c24) rfl ?_
    refine x_aload_n 2 dX8_raises_28 rfl rfl ?_
    refine x_iconst (v := 2) dX8_raises_29 rfl ?_
    obtain ⟨c25, h⟩ := x_ckk h
    refine x_iald dX8_raises_30 c12 (xb_in c25) rfl ?_
    obtain ⟨r26, N28, e27, h⟩ := x_bd2 h
    refine x_nS (As := [.int (gi N11 p22 (2 : Int32).toNatClampNeg), .int (gi N11 p7 (2 : Int32).toNatClampNeg)]) (R' := xR 1 0 0) (zz := yJ9_min_7cf53) dX8_raises_31 ml_X8_52 wt_J9_min_7cf53 wn_J9 wc_J9_min_7cf53 hp_J9_min_7cf53 ⟨Nat.le_of_ble_eq_true rfl, Nat.le_of_ble_eq_true rfl⟩ rfl (Nat.le_of_ble_eq_true rfl) ⟨Nat.le_refl _, Nat.le_refl _⟩ (T_J9_min_7cf53 (G := G) e27) ?_
    refine x_istore_n (L' := [(0, .ref a0), (1, .ref a1), (2, .ref p7), (3, .int r26)]) [1, 2, 3, 0] dX8_raises_34 rfl (by decide) rfl ?_
    refine x_aload_n 2 dX8_raises_35 rfl rfl ?_
    refine x_iconst (v := 2) dX8_raises_36 rfl ?_
    refine x_dup2 dX8_raises_37 rfl rfl ?_
    obtain ⟨c29, h⟩ := x_ckk h
    refine x_iald dX8_raises_38 c12 (xb_in c29) rfl ?_
    refine x_iload_n 3 dX8_raises_39 rfl rfl ?_
    refine x_isub dX8_raises_40 ?_
    obtain ⟨c30, h⟩ := x_ckk h
    refine x_iast dX8_raises_41 c12 (xb_in c30) rfl ?_
    obtain ⟨N31, eN31, h⟩ := x_lt h
    refine x_nmM eN31 ?_
    refine x_aload_n 0 dX8_raises_42 rfl rfl ?_
    refine x_dup dX8_raises_43 rfl ?_
    refine x_geti dX8_raises_44 vc_X8 xin8 fb_X8_1 fl_X8_32 xr_X8_1 c1 ?_
    refine x_iload_n 3 dX8_raises_47 rfl rfl ?_
    refine x_iadd dX8_raises_48 ?_
    refine x_puti dX8_raises_49 vc_X8 xin8 tyX8_ok nmX8 fb_X8_1 fl_X8_32 ff_X8_1 xr_X8_1 (nf_X8_1 _) (ft_X8_1 _) c1 ?_
    obtain ⟨N32, eN32, h⟩ := x_lt h
    refine x_nmM eN32 ?_
    refine x_aload_n 1 dX8_raises_52 rfl rfl ?_
    refine x_iconst (v := 3) dX8_raises_53 rfl ?_
    refine x_iconst (v := 3) dX8_raises_54 rfl ?_
    obtain ⟨c33, h⟩ := x_ckk h
    refine x_iast dX8_raises_55 c3 (xb_in c33) rfl ?_
    obtain ⟨N34, eN34, h⟩ := x_lt h
    refine x_nmM eN34 ?_
    refine x_aload_n 1 dX8_raises_56 rfl rfl ?_
    refine x_bipush (v := 6) dX8_raises_57 rfl ?_
    refine x_aload_n 0 dX8_raises_59 rfl rfl ?_
    refine x_geti dX8_raises_60 vc_X8 xin8 fb_X8_0 fl_X8_28 xr_X8_0 c1 ?_
    obtain ⟨c35, h⟩ := x_ckk h
    refine x_iast dX8_raises_63 c3 (xb_in c35) rfl ?_
    obtain ⟨N36, eN36, h⟩ := x_lt h
    refine x_nmM eN36 ?_
    obtain rfl := x_so h
    exact x_nvret dX8_raises_64 rfl rfl rfl
noncomputable def f_X8_pays_114  : Nat → XY → Nat → Nat → Int32 → Int32 → Nat → Int32 → Int32 → Nat → Nat → XN → Option (Int32 × XY × Nat × XN)
  | 0, _, _, _, _, _, _, _, _, _, _, _ => none
  | D9 + 1, Y, q, p_0, v_1, v_3, p_4, v_5, v_6, k, n, N =>
    if v_5 ≤ v_6 then
      ck (k ≤ 3 ∧ n ≤ 12) <|
      some (v_3, Y, q, N)
    else
      ck (kc Y p_4 = 8) <|
      ck (xb v_6 (kn Y p_4) = true) <|
      bd (gr Y p_4 v_6.toNatClampNeg) fun p5 =>
      ck (kc Y p5 = 1) <|
      ck (xb 3 (kn Y p5) = true) <|
      if (gi N p5 (3 : Int32).toNatClampNeg) = 1 then
        ck (xb 4 (kn Y p5) = true) <|
        if (gi N p5 (4 : Int32).toNatClampNeg) = v_1 then
          ck (kc Y p_0 = 18) <|
          ck (k ≤ 3 ∧ n ≤ 12) <|
          bd (f_X8_assign Y p_0 p5 N) fun N14 =>
          f_X8_pays_114 D9 Y q p_0 v_1 v_3 p_4 v_5 (v_6 + 1) k n N14
        else
          f_X8_pays_114 D9 Y q p_0 v_1 v_3 p_4 v_5 (v_6 + 1) k n N
      else
        f_X8_pays_114 D9 Y q p_0 v_1 v_3 p_4 v_5 (v_6 + 1) k n N
noncomputable def f_X8_pays_42  : Nat → XY → Nat → Nat → Int32 → Int32 → Int32 → Nat → Nat → XN → Option (Int32 × XY × Nat × XN)
  | 0, _, _, _, _, _, _, _, _, _ => none
  | D9 + 1, Y, q, p_0, v_1, v_3, v_4, k, n, N =>
    ck (kc Y p_0 = 18) <|
    bd (gr Y p_0 4) fun p2 =>
    ck (kc Y p2 = 8) <|
    if (Int32.ofNat (kn Y p2)) ≤ v_4 then
      bd (gr Y p_0 6) fun p5 =>
      ck (kc Y p5 = 8) <|
      f_X8_pays_114 FU Y q p_0 v_1 v_3 p5 (Int32.ofNat (kn Y p5)) 0 k n N
    else
      bd (gr Y p_0 5) fun p7 =>
      ck (kc Y p7 = 8) <|
      ck (xb v_4 (kn Y p7) = true) <|
      bd (gr Y p7 v_4.toNatClampNeg) fun p10 =>
      ck (k ≤ 3 ∧ n ≤ 12) <|
      bd2 (f_L_placeIn Y p10 v_1 N) fun r12 N14 =>
      if r12 < 0 then
        f_X8_pays_42 D9 Y q p_0 v_1 v_3 (v_4 + 1) k n N14
      else
        ck (xb v_4 (kn Y p7) = true) <|
        ck (xb v_4 (kn Y p7) = true) <|
        bd2 (f_L_placeIn Y p10 v_1 N14) fun r18 N20 =>
        ck (k + 1 ≤ 3 ∧ n + 4 ≤ 12) <|
        bd4 (f_L_without Y q p10 r18 N20) fun r22 Y24 q25 N26 =>
        ck (kc Y24 p7 = 8) <|
        ck (kc Y24 r22 = 1) <|
        ck (xb v_4 (kn Y24 p7) = true) <|
        lt (sr Y24 p7 v_4.toNatClampNeg (some r22)) fun Y30 =>
        f_X8_pays_42 D9 Y30 q25 p_0 v_1 v_3 (v_4 + 1) (k + 1) (n + 4) N26
noncomputable def f_X8_pays (Y : XY) (q : Nat) (a0 : Nat) (a1 : Int32) (a2 : Int32) (N : XN) : Option (Int32 × XY × Nat × XN) :=
  ck (kc Y a0 = 18) <|
  bd (gr Y a0 3) fun p2 =>
  ck (kc Y p2 = 8) <|
  ck (xb a1 (kn Y p2) = true) <|
  bd (gr Y p2 a1.toNatClampNeg) fun p5 =>
  ck (kc Y p5 = 1) <|
  ck (xb 0 (kn Y p5) = true) <|
  bd2 (f_J9_min_7cf53 Y a2 (gi N p5 (0 : Int32).toNatClampNeg) N) fun r8 N10 =>
  ck (xb a1 (kn Y p2) = true) <|
  ck (xb 0 (kn Y p5) = true) <|
  ck (xb 0 (kn Y p5) = true) <|
  lt (si N10 p5 ((0 : Int32).toNatClampNeg) ((gi N10 p5 (0 : Int32).toNatClampNeg) - r8)) fun N14 =>
  if a2 ≤ r8 then
    some (r8, Y, q, N14)
  else
    ck (xb a1 (kn Y p2) = true) <|
    ck (xb 2 (kn Y p5) = true) <|
    lt (si N14 p5 ((2 : Int32).toNatClampNeg) 1) fun N18 =>
    f_X8_pays_42 FU Y q a0 a1 r8 0 0 0 N18
set_option maxHeartbeats 4000000 in
set_option maxRecDepth 100000 in
theorem T_X8_pays_114 {G : XG} {tb : List ExceptionTableEntry} {rz : Int32} {Yz : XY} {qz : Nat} {Nz : XN} : ∀ (D9 : Nat) (Y : XY) (q : Nat) (p_0 : Nat) (v_1 : Int32) (v_3 : Int32) (p_4 : Nat) (v_5 : Int32) (v_6 : Int32) (k : Nat) (n : Nat) (N : XN), f_X8_pays_114 D9 Y q p_0 v_1 v_3 p_4 v_5 v_6 k n N = some (rz, Yz, qz, Nz) → ExZ G yX8_pays cX8_pays 8 (some .int) tb (xR 3 3 12) (xZn G (xR 3 3 12) (some (.int rz)) Yz Nz) k n 114 [(0, .ref p_0), (1, .int v_1), (3, .int v_3), (4, .ref p_4), (5, .int v_5), (6, .int v_6)] [] Y N := by
  intro D9
  induction D9 with
  | zero => intro Y q p_0 v_1 v_3 p_4 v_5 v_6 k n N h; exact nomatch (show none = some _ from h)
  | succ D9 ih =>
    intro Y q p_0 v_1 v_3 p_4 v_5 v_6 k n N h
    rw [f_X8_pays_114] at h
    refine x_iload 5 dX8_pays_114 rfl ?_
    refine x_iload 4 dX8_pays_116 rfl ?_
    rcases x_if h with ⟨c1, h⟩ | ⟨c1, h⟩
    · refine x_icmp_ge_t (tgt := 156) dX8_pays_118 (by decide) c1 ?_
      refine x_iload_n 2 dX8_pays_156 rfl rfl ?_
      obtain ⟨c2, h⟩ := x_ckk h
      refine x_wide (k' := 3) (n' := 12) c2 ?_
      obtain ⟨rfl, h8⟩ := Prod.mk.inj (x_so h)
      obtain ⟨rfl, h8⟩ := Prod.mk.inj h8
      obtain ⟨rfl, rfl⟩ := Prod.mk.inj h8
      exact x_niret dX8_pays_157 rfl rfl rfl
    · refine x_icmp_ge_f (tgt := 156) dX8_pays_118 (by decide) c1 ?_
      refine x_aload 3 dX8_pays_121 rfl ?_
      refine x_iload 5 dX8_pays_123 rfl ?_
      obtain ⟨c3, h⟩ := x_ckk h
      obtain ⟨c4, h⟩ := x_ckk h
      obtain ⟨p5, ep5, h⟩ := x_bd1 h
      refine x_aald (j := 4) dX8_pays_125 (by decide) c3 (xb_in c4) ep5 ?_
      refine x_astore (L' := [(0, .ref p_0), (1, .int v_1), (3, .int v_3), (4, .ref p_4), (5, .int v_5), (6, .int v_6), (7, .ref p5)]) [1, 2, 3, 4, 5, 6, 0] dX8_pays_126 (by decide) rfl ?_
      refine x_aload 6 dX8_pays_128 rfl ?_
      refine x_iconst (v := 3) dX8_pays_130 rfl ?_
      obtain ⟨c6, h⟩ := x_ckk h
      obtain ⟨c7, h⟩ := x_ckk h
      refine x_iald dX8_pays_131 c6 (xb_in c7) rfl ?_
      refine x_iconst (v := 1) dX8_pays_132 rfl ?_
      rcases x_if h with ⟨c8, h⟩ | ⟨c8, h⟩
      · refine x_icmp_ne_f (tgt := 150) dX8_pays_133 (by decide) c8 ?_
        refine x_aload 6 dX8_pays_136 rfl ?_
        refine x_iconst (v := 4) dX8_pays_138 rfl ?_
        obtain ⟨c9, h⟩ := x_ckk h
        refine x_iald dX8_pays_139 c6 (xb_in c9) rfl ?_
        refine x_iload_n 1 dX8_pays_140 rfl rfl ?_
        rcases x_if h with ⟨c10, h⟩ | ⟨c10, h⟩
        · refine x_icmp_ne_f (tgt := 150) dX8_pays_141 (by decide) c10 ?_
          refine x_aload_n 0 dX8_pays_144 rfl rfl ?_
          refine x_aload 6 dX8_pays_145 rfl ?_
          obtain ⟨c11, h⟩ := x_ckk h
          obtain ⟨c12, h⟩ := x_ckk h
          obtain ⟨N14, e13, h⟩ := x_bd1 h
          refine x_nV (b := p_0) (As := [.ref p5]) (ci := 8) (R' := xR 2 0 0) (zz := yX8_assign) dX8_pays_147 ml_X8_58 wi_X8_assign wv_X8_assign wn_X8 wc_X8_assign hp_X8_assign ⟨Nat.le_of_ble_eq_true rfl, Nat.le_of_ble_eq_true rfl⟩ rfl (Nat.le_of_ble_eq_true rfl) c12 vc_X8 c11 (T_X8_assign (G := G) e13) ?_
          refine x_iinc (L' := [(0, .ref p_0), (1, .int v_1), (3, .int v_3), (4, .ref p_4), (5, .int v_5), (6, .int (v_6 + 1))]) 5 [1, 2, 3, 4, 5, 0] dX8_pays_150 rfl rfl (by decide) rfl ?_
          refine x_goto (tgt := 114) dX8_pays_153 (by decide) ?_
          exact ih Y q p_0 v_1 v_3 p_4 v_5 (v_6 + 1) k n N14 h
        · refine x_icmp_ne_t (tgt := 150) dX8_pays_141 (by decide) c10 ?_
          refine x_iinc (L' := [(0, .ref p_0), (1, .int v_1), (3, .int v_3), (4, .ref p_4), (5, .int v_5), (6, .int (v_6 + 1))]) 5 [1, 2, 3, 4, 5, 0] dX8_pays_150 rfl rfl (by decide) rfl ?_
          refine x_goto (tgt := 114) dX8_pays_153 (by decide) ?_
          exact ih Y q p_0 v_1 v_3 p_4 v_5 (v_6 + 1) k n N h
      · refine x_icmp_ne_t (tgt := 150) dX8_pays_133 (by decide) c8 ?_
        refine x_iinc (L' := [(0, .ref p_0), (1, .int v_1), (3, .int v_3), (4, .ref p_4), (5, .int v_5), (6, .int (v_6 + 1))]) 5 [1, 2, 3, 4, 5, 0] dX8_pays_150 rfl rfl (by decide) rfl ?_
        refine x_goto (tgt := 114) dX8_pays_153 (by decide) ?_
        exact ih Y q p_0 v_1 v_3 p_4 v_5 (v_6 + 1) k n N h
set_option maxHeartbeats 4000000 in
set_option maxRecDepth 100000 in
theorem T_X8_pays_42 {G : XG} {tb : List ExceptionTableEntry} {rz : Int32} {Yz : XY} {qz : Nat} {Nz : XN} : ∀ (D9 : Nat) (Y : XY) (q : Nat) (p_0 : Nat) (v_1 : Int32) (v_3 : Int32) (v_4 : Int32) (k : Nat) (n : Nat) (N : XN), f_X8_pays_42 D9 Y q p_0 v_1 v_3 v_4 k n N = some (rz, Yz, qz, Nz) → ExZ G yX8_pays cX8_pays 8 (some .int) tb (xR 3 3 12) (xZn G (xR 3 3 12) (some (.int rz)) Yz Nz) k n 42 [(0, .ref p_0), (1, .int v_1), (3, .int v_3), (4, .int v_4)] [] Y N := by
  intro D9
  induction D9 with
  | zero => intro Y q p_0 v_1 v_3 v_4 k n N h; exact nomatch (show none = some _ from h)
  | succ D9 ih =>
    intro Y q p_0 v_1 v_3 v_4 k n N h
    rw [f_X8_pays_42] at h
    refine x_iload 3 dX8_pays_42 rfl ?_
    refine x_aload_n 0 dX8_pays_44 rfl rfl ?_
    obtain ⟨c1, h⟩ := x_ckk h
    obtain ⟨p2, ep2, h⟩ := x_bd1 h
    refine x_getr dX8_pays_45 vc_X8 xin8 fb_X8_4 fl_X8_18 xr_X8_4 c1 ep2 ?_
    obtain ⟨c3, h⟩ := x_ckk h
    refine x_rlen (j := 4) dX8_pays_48 (by decide) c3 rfl ?_
    rcases x_if h with ⟨c4, h⟩ | ⟨c4, h⟩
    · refine x_icmp_ge_t (tgt := 100) dX8_pays_49 (by decide) c4 ?_
      refine x_aload_n 0 dX8_pays_100 rfl rfl ?_
      obtain ⟨p5, ep5, h⟩ := x_bd1 h
      refine x_getr dX8_pays_101 vc_X8 xin8 fb_X8_6 fl_X8_24 xr_X8_6 c1 ep5 ?_
      refine x_astore (L' := [(0, .ref p_0), (1, .int v_1), (3, .int v_3), (4, .ref p5)]) [1, 2, 3, 0] dX8_pays_104 (by decide) rfl ?_
      refine x_aload 3 dX8_pays_106 rfl ?_
      obtain ⟨c6, h⟩ := x_ckk h
      refine x_rlen (j := 4) dX8_pays_108 (by decide) c6 rfl ?_
      refine x_istore (L' := [(0, .ref p_0), (1, .int v_1), (3, .int v_3), (4, .ref p5), (5, .int (Int32.ofNat (kn Y p5)))]) [1, 2, 3, 4, 0] dX8_pays_109 (by decide) rfl ?_
      refine x_iconst (v := 0) dX8_pays_111 rfl ?_
      refine x_istore (L' := [(0, .ref p_0), (1, .int v_1), (3, .int v_3), (4, .ref p5), (5, .int (Int32.ofNat (kn Y p5))), (6, .int 0)]) [1, 2, 3, 4, 5, 0] dX8_pays_112 (by decide) rfl ?_
      exact T_X8_pays_114 (G := G) FU Y q p_0 v_1 v_3 p5 (Int32.ofNat (kn Y p5)) 0 k n N h
    · refine x_icmp_ge_f (tgt := 100) dX8_pays_49 (by decide) c4 ?_
      refine x_aload_n 0 dX8_pays_52 rfl rfl ?_
      obtain ⟨p7, ep7, h⟩ := x_bd1 h
      refine x_getr dX8_pays_53 vc_X8 xin8 fb_X8_5 fl_X8_21 xr_X8_5 c1 ep7 ?_
      refine x_iload 3 dX8_pays_56 rfl ?_
      obtain ⟨c8, h⟩ := x_ckk h
      obtain ⟨c9, h⟩ := x_ckk h
      obtain ⟨p10, ep10, h⟩ := x_bd1 h
      refine x_aald (j := 4) dX8_pays_58 (by decide) c8 (xb_in c9) ep10 ?_
      refine x_iload_n 1 dX8_pays_59 rfl rfl ?_
      obtain ⟨c11, h⟩ := x_ckk h
      obtain ⟨r12, N14, e13, h⟩ := x_bd2 h
      refine x_nSN (As := [.ref p10, .int v_1]) (R' := xR 1 0 0) (zz := yL_placeIn) dX8_pays_60 (by decide) wt_L_placeIn wn_L wc_L_placeIn hp_L_placeIn ⟨Nat.le_of_ble_eq_true rfl, Nat.le_of_ble_eq_true rfl⟩ rfl (Nat.le_of_ble_eq_true rfl) c11 (T_L_placeIn (G := G) e13) ?_
      rcases x_if h with ⟨c15, h⟩ | ⟨c15, h⟩
      · refine x_if_lt_t (tgt := 94) dX8_pays_63 (by decide) c15 ?_
        refine x_iinc (L' := [(0, .ref p_0), (1, .int v_1), (3, .int v_3), (4, .int (v_4 + 1))]) 3 [1, 2, 3, 0] dX8_pays_94 rfl rfl (by decide) rfl ?_
        refine x_goto (tgt := 42) dX8_pays_97 (by decide) ?_
        exact ih Y q p_0 v_1 v_3 (v_4 + 1) k n N14 h
      · refine x_if_lt_f (tgt := 94) dX8_pays_63 (by decide) c15 ?_
        refine x_aload_n 0 dX8_pays_66 rfl rfl ?_
        refine x_getr dX8_pays_67 vc_X8 xin8 fb_X8_5 fl_X8_21 xr_X8_5 c1 ep7 ?_
        refine x_iload 3 dX8_pays_70 rfl ?_
        refine x_aload_n 0 dX8_pays_72 rfl rfl ?_
        refine x_getr dX8_pays_73 vc_X8 xin8 fb_X8_5 fl_X8_21 xr_X8_5 c1 ep7 ?_
        refine x_iload 3 dX8_pays_76 rfl ?_
        obtain ⟨c16, h⟩ := x_ckk h
        refine x_aald (j := 4) dX8_pays_78 (by decide) c8 (xb_in c16) ep10 ?_
        refine x_aload_n 0 dX8_pays_79 rfl rfl ?_
        refine x_getr dX8_pays_80 vc_X8 xin8 fb_X8_5 fl_X8_21 xr_X8_5 c1 ep7 ?_
        refine x_iload 3 dX8_pays_83 rfl ?_
        obtain ⟨c17, h⟩ := x_ckk h
        refine x_aald (j := 4) dX8_pays_85 (by decide) c8 (xb_in c17) ep10 ?_
        refine x_iload_n 1 dX8_pays_86 rfl rfl ?_
        obtain ⟨r18, N20, e19, h⟩ := x_bd2 h
        refine x_nSN (As := [.ref p10, .int v_1]) (R' := xR 1 0 0) (zz := yL_placeIn) dX8_pays_87 (by decide) wt_L_placeIn wn_L wc_L_placeIn hp_L_placeIn ⟨Nat.le_of_ble_eq_true rfl, Nat.le_of_ble_eq_true rfl⟩ rfl (Nat.le_of_ble_eq_true rfl) c11 (T_L_placeIn (G := G) e19) ?_
        obtain ⟨c21, h⟩ := x_ckk h
        obtain ⟨r22, Y24, q25, N26, e23, h⟩ := x_bd4 h
        refine x_nSN (As := [.ref p10, .int r18]) (R' := xR 1 1 4) (zz := yL_without) dX8_pays_90 (by decide) wt_L_without wn_L wc_L_without hp_L_without ⟨Nat.le_of_ble_eq_true rfl, Nat.le_of_ble_eq_true rfl⟩ rfl (Nat.le_of_ble_eq_true rfl) c21 (T_L_without (G := G) e23) ?_
        obtain ⟨c27, h⟩ := x_ckk h
        obtain ⟨c28, h⟩ := x_ckk h
        obtain ⟨c29, h⟩ := x_ckk h
        refine x_aast8 dX8_pays_93 c27 (xb_in c29) c28 ?_
        obtain ⟨Y30, eY30, h⟩ := x_lt h
        refine x_nmY eY30 ?_
        refine x_iinc (L' := [(0, .ref p_0), (1, .int v_1), (3, .int v_3), (4, .int (v_4 + 1))]) 3 [1, 2, 3, 0] dX8_pays_94 rfl rfl (by decide) rfl ?_
        refine x_goto (tgt := 42) dX8_pays_97 (by decide) ?_
        exact ih Y30 q25 p_0 v_1 v_3 (v_4 + 1) (k + 1) (n + 4) N26 h
set_option maxHeartbeats 4000000 in
set_option maxRecDepth 100000 in
theorem T_X8_pays {G : XG} {Y : XY} {q : Nat} {a0 : Nat} {a1 : Int32} {a2 : Int32} {N : XN} {rz : Int32} {Yz : XY} {qz : Nat} {Nz : XN} (h : f_X8_pays Y q a0 a1 a2 N = some (rz, Yz, qz, Nz)) : Cn G yX8_pays cX8_pays 8 (some .int) (xR 3 3 12) [.ref a0, .int a1, .int a2] (some (.int rz)) Y N Yz Nz := by
  refine x_entryN (by decide) (Nat.le_of_ble_eq_true rfl) rfl fun tb => ?_
  rw [f_X8_pays] at h
  refine x_iload_n 2 dX8_pays_0 rfl rfl ?_
  refine x_aload_n 0 dX8_pays_1 rfl rfl ?_
  obtain ⟨c1, h⟩ := x_ckk h
  obtain ⟨p2, ep2, h⟩ := x_bd1 h
  refine x_getr dX8_pays_2 vc_X8 xin8 fb_X8_3 fl_X8_14 xr_X8_3 c1 ep2 ?_
  refine x_iload_n 1 dX8_pays_5 rfl rfl ?_
  obtain ⟨c3, h⟩ := x_ckk h
  obtain ⟨c4, h⟩ := x_ckk h
  obtain ⟨p5, ep5, h⟩ := x_bd1 h
  refine x_aald (j := 4) dX8_pays_6 (by decide) c3 (xb_in c4) ep5 ?_
  refine x_iconst (v := 0) dX8_pays_7 rfl ?_
  obtain ⟨c6, h⟩ := x_ckk h
  obtain ⟨c7, h⟩ := x_ckk h
  refine x_iald dX8_pays_8 c6 (xb_in c7) rfl ?_
  obtain ⟨r8, N10, e9, h⟩ := x_bd2 h
  refine x_nS (As := [.int a2, .int (gi N p5 (0 : Int32).toNatClampNeg)]) (R' := xR 1 0 0) (zz := yJ9_min_7cf53) dX8_pays_9 ml_X8_52 wt_J9_min_7cf53 wn_J9 wc_J9_min_7cf53 hp_J9_min_7cf53 ⟨Nat.le_of_ble_eq_true rfl, Nat.le_of_ble_eq_true rfl⟩ rfl (Nat.le_of_ble_eq_true rfl) ⟨Nat.le_of_ble_eq_true rfl, Nat.le_of_ble_eq_true rfl⟩ (T_J9_min_7cf53 (G := G) e9) ?_
  refine x_istore_n (L' := [(0, .ref a0), (1, .int a1), (2, .int a2), (3, .int r8)]) [1, 2, 3, 0] dX8_pays_12 rfl (by decide) rfl ?_
  refine x_aload_n 0 dX8_pays_13 rfl rfl ?_
  refine x_getr dX8_pays_14 vc_X8 xin8 fb_X8_3 fl_X8_14 xr_X8_3 c1 ep2 ?_
  refine x_iload_n 1 dX8_pays_17 rfl rfl ?_
  obtain ⟨c11, h⟩ := x_ckk h
  refine x_aald (j := 4) dX8_pays_18 (by decide) c3 (xb_in c11) ep5 ?_
  refine x_iconst (v := 0) dX8_pays_19 rfl ?_
  refine x_dup2 dX8_pays_20 rfl rfl ?_
  obtain ⟨c12, h⟩ := x_ckk h
  refine x_iald dX8_pays_21 c6 (xb_in c12) rfl ?_
  refine x_iload_n 3 dX8_pays_22 rfl rfl ?_
  refine x_isub dX8_pays_23 ?_
  obtain ⟨c13, h⟩ := x_ckk h
  refine x_iast dX8_pays_24 c6 (xb_in c13) rfl ?_
  obtain ⟨N14, eN14, h⟩ := x_lt h
  refine x_nmM eN14 ?_
  refine x_iload_n 3 dX8_pays_25 rfl rfl ?_
  refine x_iload_n 2 dX8_pays_26 rfl rfl ?_
  rcases x_if h with ⟨c15, h⟩ | ⟨c15, h⟩
  · refine x_icmp_ge_t (tgt := 156) dX8_pays_27 (by decide) c15 ?_
    refine x_iload_n 3 dX8_pays_156 rfl rfl ?_
    refine x_wide (k' := 3) (n' := 12) ⟨Nat.le_of_ble_eq_true rfl, Nat.le_of_ble_eq_true rfl⟩ ?_
    obtain ⟨rfl, h8⟩ := Prod.mk.inj (x_so h)
    obtain ⟨rfl, h8⟩ := Prod.mk.inj h8
    obtain ⟨rfl, rfl⟩ := Prod.mk.inj h8
    exact x_niret dX8_pays_157 rfl rfl rfl
  · refine x_icmp_ge_f (tgt := 156) dX8_pays_27 (by decide) c15 ?_
    refine x_aload_n 0 dX8_pays_30 rfl rfl ?_
    refine x_getr dX8_pays_31 vc_X8 xin8 fb_X8_3 fl_X8_14 xr_X8_3 c1 ep2 ?_
    refine x_iload_n 1 dX8_pays_34 rfl rfl ?_
    obtain ⟨c16, h⟩ := x_ckk h
    refine x_aald (j := 4) dX8_pays_35 (by decide) c3 (xb_in c16) ep5 ?_
    refine x_iconst (v := 2) dX8_pays_36 rfl ?_
    refine x_iconst (v := 1) dX8_pays_37 rfl ?_
    obtain ⟨c17, h⟩ := x_ckk h
    refine x_iast dX8_pays_38 c6 (xb_in c17) rfl ?_
    obtain ⟨N18, eN18, h⟩ := x_lt h
    refine x_nmM eN18 ?_
    refine x_iconst (v := 0) dX8_pays_39 rfl ?_
    refine x_istore (L' := [(0, .ref a0), (1, .int a1), (3, .int r8), (4, .int 0)]) [1, 2, 4, 0] dX8_pays_40 (by decide) rfl ?_
    exact T_X8_pays_42 (G := G) FU Y q a0 a1 r8 0 0 0 N18 h
