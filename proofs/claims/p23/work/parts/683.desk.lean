set_option maxHeartbeats 4000000 in
set_option maxRecDepth 100000 in
theorem T_X8_lease_70 {G : XG} {tb : List ExceptionTableEntry} {rz : Int32} {Yz : XY} {qz : Nat} {Nz : XN} : ∀ (D9 : Nat) (Y : XY) (q : Nat) (p_0 : Nat) (v_2 : Int32) (v_3 : Int32) (p_4 : Nat) (v_5 : Int32) (v_6 : Int32) (k : Nat) (n : Nat) (N : XN), f_X8_lease_70 D9 Y q p_0 v_2 v_3 p_4 v_5 v_6 k n N = some (rz, Yz, qz, Nz) → ExZ G yX8_lease cX8_lease 8 (some .int) tb (xR 3 1 4) (xZn G (xR 3 1 4) (some (.int rz)) Yz Nz) k n 70 [(0, .ref p_0), (2, .int v_2), (3, .int v_3), (4, .ref p_4), (5, .int v_5), (6, .int v_6)] [] Y N := by
  intro D9
  induction D9 with
  | zero => intro Y q p_0 v_2 v_3 p_4 v_5 v_6 k n N h; exact nomatch (show none = some _ from h)
  | succ D9 ih =>
    intro Y q p_0 v_2 v_3 p_4 v_5 v_6 k n N h
    rw [f_X8_lease_70] at h
    refine x_iload 5 dX8_lease_70 rfl ?_
    refine x_iload 4 dX8_lease_72 rfl ?_
    rcases x_if h with ⟨c1, h⟩ | ⟨c1, h⟩
    · refine x_icmp_ge_t (tgt := 125) dX8_lease_74 (by decide) c1 ?_
      refine x_iload_n 2 dX8_lease_125 rfl rfl ?_
      obtain ⟨c2, h⟩ := x_ckk h
      refine x_wide (k' := 1) (n' := 4) c2 ?_
      obtain ⟨rfl, h8⟩ := Prod.mk.inj (x_so h)
      obtain ⟨rfl, h7⟩ := Prod.mk.inj h8
      obtain ⟨rfl, rfl⟩ := Prod.mk.inj h7
      exact x_niret dX8_lease_126 rfl rfl rfl
    · refine x_icmp_ge_f (tgt := 125) dX8_lease_74 (by decide) c1 ?_
      refine x_aload 3 dX8_lease_77 rfl ?_
      refine x_iload 5 dX8_lease_79 rfl ?_
      obtain ⟨c3, h⟩ := x_ckk h
      obtain ⟨c4, h⟩ := x_ckk h
      obtain ⟨c6, h⟩ := x_ckk h
      obtain ⟨p5, lp5, h⟩ := x_lt h
      have ep5 : gr Y p_4 v_6.toNatClampNeg = some p5 := by rw [lp5]; exact c6
      refine x_aald (j := 4) dX8_lease_81 (by decide) c3 (xb_in c4) ep5 ?_
      refine x_astore (L' := [(0, .ref p_0), (2, .int v_2), (3, .int v_3), (4, .ref p_4), (5, .int v_5), (6, .int v_6), (7, .ref p5)]) [1, 2, 3, 4, 5, 6, 0] dX8_lease_82 (by decide) rfl ?_
      refine x_aload 6 dX8_lease_84 rfl ?_
      refine x_iconst (v := 3) dX8_lease_86 rfl ?_
      obtain ⟨c7, h⟩ := x_ckk h
      obtain ⟨c8, h⟩ := x_ckk h
      refine x_iald dX8_lease_87 c7 (xb_in c8) xj_3 ?_
      refine x_iconst (v := 1) dX8_lease_88 rfl ?_
      rcases x_if h with ⟨c9, h⟩ | ⟨c9, h⟩
      · refine x_icmp_ne_f (tgt := 119) dX8_lease_89 (by decide) c9 ?_
        refine x_aload 6 dX8_lease_92 rfl ?_
        refine x_iconst (v := 0) dX8_lease_94 rfl ?_
        obtain ⟨c10, h⟩ := x_ckk h
        refine x_iald dX8_lease_95 c7 (xb_in c10) xj_0 ?_
        refine x_iload_n 1 dX8_lease_96 rfl rfl ?_
        rcases x_if h with ⟨c11, h⟩ | ⟨c11, h⟩
        · refine x_icmp_ne_f (tgt := 119) dX8_lease_97 (by decide) c11 ?_
          refine x_aload 6 dX8_lease_100 rfl ?_
          refine x_iconst (v := 4) dX8_lease_102 rfl ?_
          obtain ⟨c12, h⟩ := x_ckk h
          refine x_iald dX8_lease_103 c7 (xb_in c12) xj_4 ?_
          rcases x_if h with ⟨c13, h⟩ | ⟨c13, h⟩
          · refine x_if_lt_t (tgt := 110) dX8_lease_104 (by decide) c13 ?_
            refine x_aload_n 0 dX8_lease_110 rfl rfl ?_
            refine x_aload 6 dX8_lease_111 rfl ?_
            obtain ⟨c14, h⟩ := x_ckk h
            obtain ⟨c15, h⟩ := x_ckk h
            obtain ⟨N17, e16, h⟩ := x_bd1 h
            refine x_nV (b := p_0) (As := [.ref p5]) (ci := 8) (R' := xR 2 0 0) (zz := yX8_assign) dX8_lease_113 ml_X8_58 wi_X8_assign wv_X8_assign wn_X8 wc_X8_assign hp_X8_assign ⟨Nat.le_of_ble_eq_true rfl, Nat.le_of_ble_eq_true rfl⟩ rfl (Nat.le_of_ble_eq_true rfl) c15 vc_X8 c14 (T_X8_assign (G := G) e16) ?_
            refine x_iinc (L' := [(0, .ref p_0), (2, .int v_2), (3, .int (v_3 + 1)), (4, .ref p_4), (5, .int v_5), (6, .int v_6)]) 2 [1, 2, 0, 3, 4, 5] dX8_lease_116 rfl rfl (by decide) rfl ?_
            refine x_iinc (L' := [(0, .ref p_0), (2, .int v_2), (3, .int (v_3 + 1)), (4, .ref p_4), (5, .int v_5), (6, .int (v_6 + 1))]) 5 [1, 2, 3, 4, 5, 0] dX8_lease_119 rfl rfl (by decide) rfl ?_
            refine x_goto (tgt := 70) dX8_lease_122 (by decide) ?_
            exact ih Y q p_0 v_2 (v_3 + 1) p_4 v_5 (v_6 + 1) k n N17 h
          · refine x_if_lt_f (tgt := 110) dX8_lease_104 (by decide) c13 ?_
            refine x_goto (tgt := 119) dX8_lease_107 (by decide) ?_
            refine x_iinc (L' := [(0, .ref p_0), (2, .int v_2), (3, .int v_3), (4, .ref p_4), (5, .int v_5), (6, .int (v_6 + 1))]) 5 [1, 2, 3, 4, 5, 0] dX8_lease_119 rfl rfl (by decide) rfl ?_
            refine x_goto (tgt := 70) dX8_lease_122 (by decide) ?_
            exact ih Y q p_0 v_2 v_3 p_4 v_5 (v_6 + 1) k n N h
        · refine x_icmp_ne_t (tgt := 119) dX8_lease_97 (by decide) c11 ?_
          refine x_iinc (L' := [(0, .ref p_0), (2, .int v_2), (3, .int v_3), (4, .ref p_4), (5, .int v_5), (6, .int (v_6 + 1))]) 5 [1, 2, 3, 4, 5, 0] dX8_lease_119 rfl rfl (by decide) rfl ?_
          refine x_goto (tgt := 70) dX8_lease_122 (by decide) ?_
          exact ih Y q p_0 v_2 v_3 p_4 v_5 (v_6 + 1) k n N h
      · refine x_icmp_ne_t (tgt := 119) dX8_lease_89 (by decide) c9 ?_
        refine x_iinc (L' := [(0, .ref p_0), (2, .int v_2), (3, .int v_3), (4, .ref p_4), (5, .int v_5), (6, .int (v_6 + 1))]) 5 [1, 2, 3, 4, 5, 0] dX8_lease_119 rfl rfl (by decide) rfl ?_
        refine x_goto (tgt := 70) dX8_lease_122 (by decide) ?_
        exact ih Y q p_0 v_2 v_3 p_4 v_5 (v_6 + 1) k n N h
set_option maxHeartbeats 4000000 in
set_option maxRecDepth 100000 in
theorem T_X8_lease {G : XG} {Y : XY} {q : Nat} {a0 : Nat} {a1 : Int32} {a2 : Int32} {N : XN} {rz : Int32} {Yz : XY} {qz : Nat} {Nz : XN} (h : f_X8_lease Y q a0 a1 a2 N = some (rz, Yz, qz, Nz)) : Cn G yX8_lease cX8_lease 8 (some .int) (xR 3 1 4) [.ref a0, .int a1, .int a2] (some (.int rz)) Y N Yz Nz := by
  refine x_entryN (by decide) (Nat.le_of_ble_eq_true rfl) rfl fun tb => ?_
  rw [f_X8_lease] at h
  refine x_aload_n 0 dX8_lease_0 rfl rfl ?_
  obtain ⟨c1, h⟩ := x_ckk h
  obtain ⟨c3, h⟩ := x_ckk h
  obtain ⟨p2, lp2, h⟩ := x_lt h
  have ep2 : gr Y a0 3 = some p2 := by rw [lp2]; exact c3
  refine x_getr dX8_lease_1 vc_X8 xin8 fb_X8_3 fl_X8_14 xr_X8_3 c1 ep2 ?_
  refine x_iload_n 1 dX8_lease_4 rfl rfl ?_
  obtain ⟨c4, h⟩ := x_ckk h
  obtain ⟨c5, h⟩ := x_ckk h
  obtain ⟨c7, h⟩ := x_ckk h
  obtain ⟨p6, lp6, h⟩ := x_lt h
  have ep6 : gr Y p2 a1.toNatClampNeg = some p6 := by rw [lp6]; exact c7
  refine x_aald (j := 4) dX8_lease_5 (by decide) c4 (xb_in c5) ep6 ?_
  refine x_iconst (v := 2) dX8_lease_6 rfl ?_
  obtain ⟨c8, h⟩ := x_ckk h
  obtain ⟨c9, h⟩ := x_ckk h
  refine x_iald dX8_lease_7 c8 (xb_in c9) xj_2 ?_
  refine x_iconst (v := 1) dX8_lease_8 rfl ?_
  rcases x_if h with ⟨c10, h⟩ | ⟨c10, h⟩
  · refine x_icmp_eq_t (tgt := 36) dX8_lease_9 (by decide) c10 ?_
    refine x_iconst (v := (-1)) dX8_lease_36 rfl ?_
    refine x_wide (k' := 1) (n' := 4) ⟨Nat.le_of_ble_eq_true rfl, Nat.le_of_ble_eq_true rfl⟩ ?_
    obtain ⟨rfl, h8⟩ := Prod.mk.inj (x_so h)
    obtain ⟨rfl, h7⟩ := Prod.mk.inj h8
    obtain ⟨rfl, rfl⟩ := Prod.mk.inj h7
    exact x_niret dX8_lease_37 rfl rfl rfl
  · refine x_icmp_eq_f (tgt := 36) dX8_lease_9 (by decide) c10 ?_
    refine x_aload_n 0 dX8_lease_12 rfl rfl ?_
    obtain ⟨c12, h⟩ := x_ckk h
    obtain ⟨p11, lp11, h⟩ := x_lt h
    have ep11 : gr Y a0 5 = some p11 := by rw [lp11]; exact c12
    refine x_getr dX8_lease_13 vc_X8 xin8 fb_X8_5 fl_X8_21 xr_X8_5 c1 ep11 ?_
    refine x_iload_n 2 dX8_lease_16 rfl rfl ?_
    obtain ⟨c13, h⟩ := x_ckk h
    obtain ⟨c14, h⟩ := x_ckk h
    obtain ⟨c16, h⟩ := x_ckk h
    obtain ⟨p15, lp15, h⟩ := x_lt h
    have ep15 : gr Y p11 a2.toNatClampNeg = some p15 := by rw [lp15]; exact c16
    refine x_aald (j := 4) dX8_lease_17 (by decide) c13 (xb_in c14) ep15 ?_
    refine x_iload_n 1 dX8_lease_18 rfl rfl ?_
    obtain ⟨r17, N19, e18, h⟩ := x_bd2 h
    refine x_nSN (As := [.ref p15, .int a1]) (R' := xR 1 0 0) (zz := yL_placeIn) dX8_lease_19 (by decide) wt_L_placeIn wn_L wc_L_placeIn hp_L_placeIn ⟨Nat.le_of_ble_eq_true rfl, Nat.le_of_ble_eq_true rfl⟩ rfl (Nat.le_of_ble_eq_true rfl) ⟨Nat.le_of_ble_eq_true rfl, Nat.le_of_ble_eq_true rfl⟩ (T_L_placeIn (G := G) e18) ?_
    rcases x_if h with ⟨c20, h⟩ | ⟨c20, h⟩
    · refine x_if_ge_t (tgt := 36) dX8_lease_22 (by decide) c20 ?_
      refine x_iconst (v := (-1)) dX8_lease_36 rfl ?_
      refine x_wide (k' := 1) (n' := 4) ⟨Nat.le_of_ble_eq_true rfl, Nat.le_of_ble_eq_true rfl⟩ ?_
      obtain ⟨rfl, h8⟩ := Prod.mk.inj (x_so h)
      obtain ⟨rfl, h7⟩ := Prod.mk.inj h8
      obtain ⟨rfl, rfl⟩ := Prod.mk.inj h7
      exact x_niret dX8_lease_37 rfl rfl rfl
    · refine x_if_ge_f (tgt := 36) dX8_lease_22 (by decide) c20 ?_
      refine x_aload_n 0 dX8_lease_25 rfl rfl ?_
      refine x_getr dX8_lease_26 vc_X8 xin8 fb_X8_5 fl_X8_21 xr_X8_5 c1 ep11 ?_
      refine x_iload_n 2 dX8_lease_29 rfl rfl ?_
      obtain ⟨c21, h⟩ := x_ckk h
      refine x_aald (j := 4) dX8_lease_30 (by decide) c13 (xb_in c21) ep15 ?_
      obtain ⟨c22, h⟩ := x_ckk h
      refine x_ilen dX8_lease_31 c22 rfl ?_
      refine x_iconst (v := 3) dX8_lease_32 rfl ?_
      rcases x_if h with ⟨c23, h⟩ | ⟨c23, h⟩
      · refine x_icmp_ne_f (tgt := 38) dX8_lease_33 (by decide) c23 ?_
        refine x_iconst (v := (-1)) dX8_lease_36 rfl ?_
        refine x_wide (k' := 1) (n' := 4) ⟨Nat.le_of_ble_eq_true rfl, Nat.le_of_ble_eq_true rfl⟩ ?_
        obtain ⟨rfl, h8⟩ := Prod.mk.inj (x_so h)
        obtain ⟨rfl, h7⟩ := Prod.mk.inj h8
        obtain ⟨rfl, rfl⟩ := Prod.mk.inj h7
        exact x_niret dX8_lease_37 rfl rfl rfl
      · refine x_icmp_ne_t (tgt := 38) dX8_lease_33 (by decide) c23 ?_
        refine x_aload_n 0 dX8_lease_38 rfl rfl ?_
        refine x_getr dX8_lease_39 vc_X8 xin8 fb_X8_5 fl_X8_21 xr_X8_5 c1 ep11 ?_
        refine x_iload_n 2 dX8_lease_42 rfl rfl ?_
        refine x_aload_n 0 dX8_lease_43 rfl rfl ?_
        refine x_getr dX8_lease_44 vc_X8 xin8 fb_X8_5 fl_X8_21 xr_X8_5 c1 ep11 ?_
        refine x_iload_n 2 dX8_lease_47 rfl rfl ?_
        obtain ⟨c24, h⟩ := x_ckk h
        refine x_aald (j := 4) dX8_lease_48 (by decide) c13 (xb_in c24) ep15 ?_
        refine x_iload_n 1 dX8_lease_49 rfl rfl ?_
        obtain ⟨r25, Y27, q28, N29, e26, h⟩ := x_bd4 h
        refine x_nSN (As := [.ref p15, .int a1]) (R' := xR 1 1 4) (zz := yL_extended) dX8_lease_50 (by decide) wt_L_extended wn_L wc_L_extended hp_L_extended ⟨Nat.le_of_ble_eq_true rfl, Nat.le_of_ble_eq_true rfl⟩ rfl (Nat.le_of_ble_eq_true rfl) ⟨Nat.le_of_ble_eq_true rfl, Nat.le_of_ble_eq_true rfl⟩ (T_L_extended (G := G) e26) ?_
        obtain ⟨c30, h⟩ := x_ckk h
        obtain ⟨c31, h⟩ := x_ckk h
        obtain ⟨c32, h⟩ := x_ckk h
        refine x_aast8 dX8_lease_53 c30 (xb_in c32) c31 ?_
        obtain ⟨Y33, eY33, h⟩ := x_lt h
        refine x_nmY eY33 ?_
        refine x_iconst (v := 0) dX8_lease_54 rfl ?_
        refine x_istore_n (L' := [(0, .ref a0), (2, .int a2), (3, .int 0)]) [1, 3, 0] dX8_lease_55 rfl (by decide) rfl ?_
        refine x_aload_n 0 dX8_lease_56 rfl rfl ?_
        obtain ⟨c34, h⟩ := x_ckk h
        obtain ⟨c36, h⟩ := x_ckk h
        obtain ⟨p35, lp35, h⟩ := x_lt h
        have ep35 : gr Y33 a0 6 = some p35 := by rw [lp35]; exact c36
        refine x_getr dX8_lease_57 vc_X8 xin8 fb_X8_6 fl_X8_24 xr_X8_6 c34 ep35 ?_
        refine x_astore (L' := [(0, .ref a0), (2, .int a2), (3, .int 0), (4, .ref p35)]) [1, 2, 3, 0] dX8_lease_60 (by decide) rfl ?_
        refine x_aload 3 dX8_lease_62 rfl ?_
        obtain ⟨c37, h⟩ := x_ckk h
        refine x_rlen (j := 4) dX8_lease_64 (by decide) c37 rfl ?_
        obtain ⟨v38, ev38, h⟩ := x_lt h
        refine x_nmi ev38 ?_
        refine x_istore (L' := [(0, .ref a0), (2, .int a2), (3, .int 0), (4, .ref p35), (5, .int v38)]) [1, 2, 3, 4, 0] dX8_lease_65 (by decide) rfl ?_
        refine x_iconst (v := 0) dX8_lease_67 rfl ?_
        refine x_istore (L' := [(0, .ref a0), (2, .int a2), (3, .int 0), (4, .ref p35), (5, .int v38), (6, .int 0)]) [1, 2, 3, 4, 5, 0] dX8_lease_68 (by decide) rfl ?_
        exact T_X8_lease_70 (G := G) FU Y33 q28 a0 a2 0 p35 v38 0 1 4 N29 h
set_option maxHeartbeats 4000000 in
set_option maxRecDepth 100000 in
theorem T_X8_release_50 {G : XG} {tb : List ExceptionTableEntry} {rz : Int32} {Yz : XY} {qz : Nat} {Nz : XN} : ∀ (D9 : Nat) (Y : XY) (q : Nat) (p_0 : Nat) (v_1 : Int32) (v_2 : Int32) (v_4 : Int32) (p_5 : Nat) (v_6 : Int32) (v_7 : Int32) (k : Nat) (n : Nat) (N : XN), f_X8_release_50 D9 Y q p_0 v_1 v_2 v_4 p_5 v_6 v_7 k n N = some (rz, Yz, qz, Nz) → ExZ G yX8_release cX8_release 9 (some .int) tb (xR 3 1 4) (xZn G (xR 3 1 4) (some (.int rz)) Yz Nz) k n 50 [(0, .ref p_0), (1, .int v_1), (2, .int v_2), (4, .int v_4), (5, .ref p_5), (6, .int v_6), (7, .int v_7)] [] Y N := by
  intro D9
  induction D9 with
  | zero => intro Y q p_0 v_1 v_2 v_4 p_5 v_6 v_7 k n N h; exact nomatch (show none = some _ from h)
  | succ D9 ih =>
    intro Y q p_0 v_1 v_2 v_4 p_5 v_6 v_7 k n N h
    rw [f_X8_release_50] at h
    refine x_iload 6 dX8_release_50 rfl ?_
    refine x_iload 5 dX8_release_52 rfl ?_
    rcases x_if h with ⟨c1, h⟩ | ⟨c1, h⟩
    · refine x_icmp_ge_t (tgt := 106) dX8_release_54 (by decide) c1 ?_
      refine x_iload 3 dX8_release_106 rfl ?_
      obtain ⟨c2, h⟩ := x_ckk h
      refine x_wide (k' := 1) (n' := 4) c2 ?_
      obtain ⟨rfl, h8⟩ := Prod.mk.inj (x_so h)
      obtain ⟨rfl, h7⟩ := Prod.mk.inj h8
      obtain ⟨rfl, rfl⟩ := Prod.mk.inj h7
      exact x_niret dX8_release_108 rfl rfl rfl
    · refine x_icmp_ge_f (tgt := 106) dX8_release_54 (by decide) c1 ?_
      refine x_aload 4 dX8_release_57 rfl ?_
      refine x_iload 6 dX8_release_59 rfl ?_
      obtain ⟨c3, h⟩ := x_ckk h
      obtain ⟨c4, h⟩ := x_ckk h
      obtain ⟨c6, h⟩ := x_ckk h
      obtain ⟨p5, lp5, h⟩ := x_lt h
      have ep5 : gr Y p_5 v_7.toNatClampNeg = some p5 := by rw [lp5]; exact c6
      refine x_aald (j := 4) dX8_release_61 (by decide) c3 (xb_in c4) ep5 ?_
      refine x_astore (L' := [(0, .ref p_0), (1, .int v_1), (2, .int v_2), (4, .int v_4), (5, .ref p_5), (6, .int v_6), (7, .int v_7), (8, .ref p5)]) [1, 2, 3, 4, 5, 6, 7, 0] dX8_release_62 (by decide) rfl ?_
      refine x_aload 7 dX8_release_64 rfl ?_
      refine x_iconst (v := 3) dX8_release_66 rfl ?_
      obtain ⟨c7, h⟩ := x_ckk h
      obtain ⟨c8, h⟩ := x_ckk h
      refine x_iald dX8_release_67 c7 (xb_in c8) xj_3 ?_
      refine x_iconst (v := 1) dX8_release_68 rfl ?_
      rcases x_if h with ⟨c9, h⟩ | ⟨c9, h⟩
      · refine x_icmp_ne_f (tgt := 100) dX8_release_69 (by decide) c9 ?_
        refine x_aload 7 dX8_release_72 rfl ?_
        refine x_iconst (v := 0) dX8_release_74 rfl ?_
        obtain ⟨c10, h⟩ := x_ckk h
        refine x_iald dX8_release_75 c7 (xb_in c10) xj_0 ?_
        refine x_iload_n 2 dX8_release_76 rfl rfl ?_
        rcases x_if h with ⟨c11, h⟩ | ⟨c11, h⟩
        · refine x_icmp_ne_f (tgt := 100) dX8_release_77 (by decide) c11 ?_
          refine x_aload 7 dX8_release_80 rfl ?_
          refine x_iconst (v := 4) dX8_release_82 rfl ?_
          obtain ⟨c12, h⟩ := x_ckk h
          refine x_iald dX8_release_83 c7 (xb_in c12) xj_4 ?_
          refine x_iload_n 1 dX8_release_84 rfl rfl ?_
          rcases x_if h with ⟨c13, h⟩ | ⟨c13, h⟩
          · refine x_icmp_eq_t (tgt := 91) dX8_release_85 (by decide) c13 ?_
            refine x_aload_n 0 dX8_release_91 rfl rfl ?_
            refine x_aload 7 dX8_release_92 rfl ?_
            obtain ⟨c14, h⟩ := x_ckk h
            obtain ⟨c15, h⟩ := x_ckk h
            obtain ⟨N17, e16, h⟩ := x_bd1 h
            refine x_nV (b := p_0) (As := [.ref p5]) (ci := 8) (R' := xR 2 0 0) (zz := yX8_assign) dX8_release_94 ml_X8_58 wi_X8_assign wv_X8_assign wn_X8 wc_X8_assign hp_X8_assign ⟨Nat.le_of_ble_eq_true rfl, Nat.le_of_ble_eq_true rfl⟩ rfl (Nat.le_of_ble_eq_true rfl) c15 vc_X8 c14 (T_X8_assign (G := G) e16) ?_
            refine x_iinc (L' := [(0, .ref p_0), (1, .int v_1), (2, .int v_2), (4, .int (v_4 + 1)), (5, .ref p_5), (6, .int v_6), (7, .int v_7)]) 3 [1, 2, 3, 0, 4, 5, 6] dX8_release_97 rfl rfl (by decide) rfl ?_
            refine x_iinc (L' := [(0, .ref p_0), (1, .int v_1), (2, .int v_2), (4, .int (v_4 + 1)), (5, .ref p_5), (6, .int v_6), (7, .int (v_7 + 1))]) 6 [1, 2, 3, 4, 5, 6, 0] dX8_release_100 rfl rfl (by decide) rfl ?_
            refine x_goto (tgt := 50) dX8_release_103 (by decide) ?_
            exact ih Y q p_0 v_1 v_2 (v_4 + 1) p_5 v_6 (v_7 + 1) k n N17 h
          · refine x_icmp_eq_f (tgt := 91) dX8_release_85 (by decide) c13 ?_
            refine x_goto (tgt := 100) dX8_release_88 (by decide) ?_
            refine x_iinc (L' := [(0, .ref p_0), (1, .int v_1), (2, .int v_2), (4, .int v_4), (5, .ref p_5), (6, .int v_6), (7, .int (v_7 + 1))]) 6 [1, 2, 3, 4, 5, 6, 0] dX8_release_100 rfl rfl (by decide) rfl ?_
            refine x_goto (tgt := 50) dX8_release_103 (by decide) ?_
            exact ih Y q p_0 v_1 v_2 v_4 p_5 v_6 (v_7 + 1) k n N h
        · refine x_icmp_ne_t (tgt := 100) dX8_release_77 (by decide) c11 ?_
          refine x_iinc (L' := [(0, .ref p_0), (1, .int v_1), (2, .int v_2), (4, .int v_4), (5, .ref p_5), (6, .int v_6), (7, .int (v_7 + 1))]) 6 [1, 2, 3, 4, 5, 6, 0] dX8_release_100 rfl rfl (by decide) rfl ?_
          refine x_goto (tgt := 50) dX8_release_103 (by decide) ?_
          exact ih Y q p_0 v_1 v_2 v_4 p_5 v_6 (v_7 + 1) k n N h
      · refine x_icmp_ne_t (tgt := 100) dX8_release_69 (by decide) c9 ?_
        refine x_iinc (L' := [(0, .ref p_0), (1, .int v_1), (2, .int v_2), (4, .int v_4), (5, .ref p_5), (6, .int v_6), (7, .int (v_7 + 1))]) 6 [1, 2, 3, 4, 5, 6, 0] dX8_release_100 rfl rfl (by decide) rfl ?_
        refine x_goto (tgt := 50) dX8_release_103 (by decide) ?_
        exact ih Y q p_0 v_1 v_2 v_4 p_5 v_6 (v_7 + 1) k n N h
set_option maxHeartbeats 4000000 in
set_option maxRecDepth 100000 in
theorem T_X8_release {G : XG} {Y : XY} {q : Nat} {a0 : Nat} {a1 : Int32} {a2 : Int32} {N : XN} {rz : Int32} {Yz : XY} {qz : Nat} {Nz : XN} (h : f_X8_release Y q a0 a1 a2 N = some (rz, Yz, qz, Nz)) : Cn G yX8_release cX8_release 9 (some .int) (xR 3 1 4) [.ref a0, .int a1, .int a2] (some (.int rz)) Y N Yz Nz := by
  refine x_entryN (by decide) (Nat.le_of_ble_eq_true rfl) rfl fun tb => ?_
  rw [f_X8_release] at h
  refine x_aload_n 0 dX8_release_0 rfl rfl ?_
  obtain ⟨c1, h⟩ := x_ckk h
  obtain ⟨c3, h⟩ := x_ckk h
  obtain ⟨p2, lp2, h⟩ := x_lt h
  have ep2 : gr Y a0 5 = some p2 := by rw [lp2]; exact c3
  refine x_getr dX8_release_1 vc_X8 xin8 fb_X8_5 fl_X8_21 xr_X8_5 c1 ep2 ?_
  refine x_iload_n 2 dX8_release_4 rfl rfl ?_
  obtain ⟨c4, h⟩ := x_ckk h
  obtain ⟨c5, h⟩ := x_ckk h
  obtain ⟨c7, h⟩ := x_ckk h
  obtain ⟨p6, lp6, h⟩ := x_lt h
  have ep6 : gr Y p2 a2.toNatClampNeg = some p6 := by rw [lp6]; exact c7
  refine x_aald (j := 4) dX8_release_5 (by decide) c4 (xb_in c5) ep6 ?_
  refine x_iload_n 1 dX8_release_6 rfl rfl ?_
  obtain ⟨r8, N10, e9, h⟩ := x_bd2 h
  refine x_nSN (As := [.ref p6, .int a1]) (R' := xR 1 0 0) (zz := yL_placeIn) dX8_release_7 (by decide) wt_L_placeIn wn_L wc_L_placeIn hp_L_placeIn ⟨Nat.le_of_ble_eq_true rfl, Nat.le_of_ble_eq_true rfl⟩ rfl (Nat.le_of_ble_eq_true rfl) ⟨Nat.le_of_ble_eq_true rfl, Nat.le_of_ble_eq_true rfl⟩ (T_L_placeIn (G := G) e9) ?_
  refine x_istore_n (L' := [(0, .ref a0), (1, .int a1), (2, .int a2), (3, .int r8)]) [1, 2, 3, 0] dX8_release_10 rfl (by decide) rfl ?_
  refine x_iload_n 3 dX8_release_11 rfl rfl ?_
  rcases x_if h with ⟨c11, h⟩ | ⟨c11, h⟩
  · refine x_if_ge_t (tgt := 17) dX8_release_12 (by decide) c11 ?_
    refine x_aload_n 0 dX8_release_17 rfl rfl ?_
    refine x_getr dX8_release_18 vc_X8 xin8 fb_X8_5 fl_X8_21 xr_X8_5 c1 ep2 ?_
    refine x_iload_n 2 dX8_release_21 rfl rfl ?_
    refine x_aload_n 0 dX8_release_22 rfl rfl ?_
    refine x_getr dX8_release_23 vc_X8 xin8 fb_X8_5 fl_X8_21 xr_X8_5 c1 ep2 ?_
    refine x_iload_n 2 dX8_release_26 rfl rfl ?_
    obtain ⟨c12, h⟩ := x_ckk h
    refine x_aald (j := 4) dX8_release_27 (by decide) c4 (xb_in c12) ep6 ?_
    refine x_iload_n 3 dX8_release_28 rfl rfl ?_
    obtain ⟨r13, Y15, q16, N17, e14, h⟩ := x_bd4 h
    refine x_nSN (As := [.ref p6, .int r8]) (R' := xR 1 1 4) (zz := yL_without) dX8_release_29 (by decide) wt_L_without wn_L wc_L_without hp_L_without ⟨Nat.le_of_ble_eq_true rfl, Nat.le_of_ble_eq_true rfl⟩ rfl (Nat.le_of_ble_eq_true rfl) ⟨Nat.le_of_ble_eq_true rfl, Nat.le_of_ble_eq_true rfl⟩ (T_L_without (G := G) e14) ?_
    obtain ⟨c18, h⟩ := x_ckk h
    obtain ⟨c19, h⟩ := x_ckk h
    obtain ⟨c20, h⟩ := x_ckk h
    refine x_aast8 dX8_release_32 c18 (xb_in c20) c19 ?_
    obtain ⟨Y21, eY21, h⟩ := x_lt h
    refine x_nmY eY21 ?_
    refine x_iconst (v := 0) dX8_release_33 rfl ?_
    refine x_istore (L' := [(0, .ref a0), (1, .int a1), (2, .int a2), (4, .int 0)]) [1, 2, 3, 0] dX8_release_34 (by decide) rfl ?_
    refine x_aload_n 0 dX8_release_36 rfl rfl ?_
    obtain ⟨c22, h⟩ := x_ckk h
    obtain ⟨c24, h⟩ := x_ckk h
    obtain ⟨p23, lp23, h⟩ := x_lt h
    have ep23 : gr Y21 a0 6 = some p23 := by rw [lp23]; exact c24
    refine x_getr dX8_release_37 vc_X8 xin8 fb_X8_6 fl_X8_24 xr_X8_6 c22 ep23 ?_
    refine x_astore (L' := [(0, .ref a0), (1, .int a1), (2, .int a2), (4, .int 0), (5, .ref p23)]) [1, 2, 3, 4, 0] dX8_release_40 (by decide) rfl ?_
    refine x_aload 4 dX8_release_42 rfl ?_
    obtain ⟨c25, h⟩ := x_ckk h
    refine x_rlen (j := 4) dX8_release_44 (by decide) c25 rfl ?_
    obtain ⟨v26, ev26, h⟩ := x_lt h
    refine x_nmi ev26 ?_
    refine x_istore (L' := [(0, .ref a0), (1, .int a1), (2, .int a2), (4, .int 0), (5, .ref p23), (6, .int v26)]) [1, 2, 3, 4, 5, 0] dX8_release_45 (by decide) rfl ?_
    refine x_iconst (v := 0) dX8_release_47 rfl ?_
    refine x_istore (L' := [(0, .ref a0), (1, .int a1), (2, .int a2), (4, .int 0), (5, .ref p23), (6, .int v26), (7, .int 0)]) [1, 2, 3, 4, 5, 6, 0] dX8_release_48 (by decide) rfl ?_
    exact T_X8_release_50 (G := G) FU Y21 q16 a0 a1 a2 0 p23 v26 0 1 4 N17 h
  · refine x_if_ge_f (tgt := 17) dX8_release_12 (by decide) c11 ?_
    refine x_iconst (v := (-1)) dX8_release_15 rfl ?_
    refine x_wide (k' := 1) (n' := 4) ⟨Nat.le_of_ble_eq_true rfl, Nat.le_of_ble_eq_true rfl⟩ ?_
    obtain ⟨rfl, h8⟩ := Prod.mk.inj (x_so h)
    obtain ⟨rfl, h7⟩ := Prod.mk.inj h8
    obtain ⟨rfl, rfl⟩ := Prod.mk.inj h7
    exact x_niret dX8_release_16 rfl rfl rfl
set_option maxHeartbeats 4000000 in
set_option maxRecDepth 100000 in
theorem T_X8_count_14 {G : XG} {tb : List ExceptionTableEntry} {Y : XY} {rz : Int32} {Nz : XN} : ∀ (D9 : Nat) (v_1 : Int32) (v_2 : Int32) (p_3 : Nat) (v_4 : Int32) (v_5 : Int32) (N : XN), f_X8_count_14 Y D9 v_1 v_2 p_3 v_4 v_5 N = some (rz, Nz) → ExZ G yX8_count cX8_count 7 (some .int) tb (xR 1 0 0) (xZn G (xR 1 0 0) (some (.int rz)) Y Nz) 0 0 14 [(1, .int v_1), (2, .int v_2), (3, .ref p_3), (4, .int v_4), (5, .int v_5)] [] Y N := by
  intro D9
  induction D9 with
  | zero => intro v_1 v_2 p_3 v_4 v_5 N h; exact nomatch (show none = some _ from h)
  | succ D9 ih =>
    intro v_1 v_2 p_3 v_4 v_5 N h
    rw [f_X8_count_14] at h
    refine x_iload 4 dX8_count_14 rfl ?_
    refine x_iload 3 dX8_count_16 rfl ?_
    rcases x_if h with ⟨c1, h⟩ | ⟨c1, h⟩
    · refine x_icmp_ge_t (tgt := 44) dX8_count_18 (by decide) c1 ?_
      refine x_iload_n 1 dX8_count_44 rfl rfl ?_
      obtain ⟨rfl, rfl⟩ := Prod.mk.inj (x_so h)
      exact x_niret dX8_count_45 rfl rfl rfl
    · refine x_icmp_ge_f (tgt := 44) dX8_count_18 (by decide) c1 ?_
      refine x_aload_n 2 dX8_count_21 rfl rfl ?_
      refine x_iload 4 dX8_count_22 rfl ?_
      obtain ⟨c2, h⟩ := x_ckk h
      obtain ⟨c3, h⟩ := x_ckk h
      obtain ⟨c5, h⟩ := x_ckk h
      obtain ⟨p4, lp4, h⟩ := x_lt h
      have ep4 : gr Y p_3 v_5.toNatClampNeg = some p4 := by rw [lp4]; exact c5
      refine x_aald (j := 4) dX8_count_24 (by decide) c2 (xb_in c3) ep4 ?_
      refine x_astore (L' := [(1, .int v_1), (2, .int v_2), (3, .ref p_3), (4, .int v_4), (5, .int v_5), (6, .ref p4)]) [1, 2, 3, 4, 5, 0] dX8_count_25 (by decide) rfl ?_
      refine x_aload 5 dX8_count_27 rfl ?_
      refine x_iconst (v := 3) dX8_count_29 rfl ?_
      obtain ⟨c6, h⟩ := x_ckk h
      obtain ⟨c7, h⟩ := x_ckk h
      refine x_iald dX8_count_30 c6 (xb_in c7) xj_3 ?_
      refine x_iload_n 0 dX8_count_31 rfl rfl ?_
      rcases x_if h with ⟨c8, h⟩ | ⟨c8, h⟩
      · refine x_icmp_ne_f (tgt := 38) dX8_count_32 (by decide) c8 ?_
        refine x_iinc (L' := [(1, .int v_1), (2, .int (v_2 + 1)), (3, .ref p_3), (4, .int v_4), (5, .int v_5)]) 1 [1, 0, 2, 3, 4] dX8_count_35 rfl rfl (by decide) rfl ?_
        refine x_iinc (L' := [(1, .int v_1), (2, .int (v_2 + 1)), (3, .ref p_3), (4, .int v_4), (5, .int (v_5 + 1))]) 4 [1, 2, 3, 4, 0] dX8_count_38 rfl rfl (by decide) rfl ?_
        refine x_goto (tgt := 14) dX8_count_41 (by decide) ?_
        exact ih v_1 (v_2 + 1) p_3 v_4 (v_5 + 1) N h
      · refine x_icmp_ne_t (tgt := 38) dX8_count_32 (by decide) c8 ?_
        refine x_iinc (L' := [(1, .int v_1), (2, .int v_2), (3, .ref p_3), (4, .int v_4), (5, .int (v_5 + 1))]) 4 [1, 2, 3, 4, 0] dX8_count_38 rfl rfl (by decide) rfl ?_
        refine x_goto (tgt := 14) dX8_count_41 (by decide) ?_
        exact ih v_1 v_2 p_3 v_4 (v_5 + 1) N h
set_option maxHeartbeats 4000000 in
set_option maxRecDepth 100000 in
theorem T_X8_count {G : XG} {Y : XY} {a0 : Nat} {a1 : Int32} {N : XN} {rz : Int32} {Nz : XN} (h : f_X8_count Y a0 a1 N = some (rz, Nz)) : Cn G yX8_count cX8_count 7 (some .int) (xR 1 0 0) [.ref a0, .int a1] (some (.int rz)) Y N Y Nz := by
  refine x_entryN (by decide) (Nat.le_of_ble_eq_true rfl) rfl fun tb => ?_
  rw [f_X8_count] at h
  refine x_iconst (v := 0) dX8_count_0 rfl ?_
  refine x_istore_n (L' := [(0, .ref a0), (1, .int a1), (2, .int 0)]) [1, 2, 0] dX8_count_1 rfl (by decide) rfl ?_
  refine x_aload_n 0 dX8_count_2 rfl rfl ?_
  obtain ⟨c1, h⟩ := x_ckk h
  obtain ⟨c3, h⟩ := x_ckk h
  obtain ⟨p2, lp2, h⟩ := x_lt h
  have ep2 : gr Y a0 6 = some p2 := by rw [lp2]; exact c3
  refine x_getr dX8_count_3 vc_X8 xin8 fb_X8_6 fl_X8_24 xr_X8_6 c1 ep2 ?_
  refine x_astore_n (L' := [(1, .int a1), (2, .int 0), (3, .ref p2)]) [2, 3, 0] dX8_count_6 rfl (by decide) rfl ?_
  refine x_aload_n 2 dX8_count_7 rfl rfl ?_
  obtain ⟨c4, h⟩ := x_ckk h
  refine x_rlen (j := 4) dX8_count_8 (by decide) c4 rfl ?_
  refine x_istore (L' := [(1, .int a1), (2, .int 0), (3, .ref p2), (4, .int (Int32.ofNat (kn Y p2)))]) [1, 2, 3, 0] dX8_count_9 (by decide) rfl ?_
  refine x_iconst (v := 0) dX8_count_11 rfl ?_
  refine x_istore (L' := [(1, .int a1), (2, .int 0), (3, .ref p2), (4, .int (Int32.ofNat (kn Y p2))), (5, .int 0)]) [1, 2, 3, 4, 0] dX8_count_12 (by decide) rfl ?_
  exact T_X8_count_14 (G := G) FU a1 0 p2 (Int32.ofNat (kn Y p2)) 0 N h
set_option maxHeartbeats 4000000 in
set_option maxRecDepth 100000 in
theorem T_X8_told_69 {G : XG} {tb : List ExceptionTableEntry} {Y : XY} {rz : Int32} {Nz : XN} : ∀ (D9 : Nat) (p_0 : Nat) (v_1 : Int32) (v_2 : Int32) (v_3 : Int32) (p_4 : Nat) (v_5 : Int32) (v_6 : Int32) (N : XN), f_X8_told_69 Y D9 p_0 v_1 v_2 v_3 p_4 v_5 v_6 N = some (rz, Nz) → ExZ G yX8_told cX8_told 8 (some .int) tb (xR 2 0 0) (xZn G (xR 2 0 0) (some (.int rz)) Y Nz) 0 0 69 [(0, .ref p_0), (1, .int v_1), (2, .int v_2), (3, .int v_3), (4, .ref p_4), (5, .int v_5), (6, .int v_6)] [] Y N := by
  intro D9
  induction D9 with
  | zero => intro p_0 v_1 v_2 v_3 p_4 v_5 v_6 N h; exact nomatch (show none = some _ from h)
  | succ D9 ih =>
    intro p_0 v_1 v_2 v_3 p_4 v_5 v_6 N h
    rw [f_X8_told_69] at h
    refine x_iload 6 dX8_told_69 rfl ?_
    refine x_iload 5 dX8_told_71 rfl ?_
    rcases x_if h with ⟨c1, h⟩ | ⟨c1, h⟩
    · refine x_icmp_ge_t (tgt := 96) dX8_told_73 (by decide) c1 ?_
      refine x_iload_n 1 dX8_told_96 rfl rfl ?_
      rcases x_if h with ⟨c2, h⟩ | ⟨c2, h⟩
      · refine x_if_ne_f (tgt := 107) dX8_told_97 (by decide) c2 ?_
        refine x_aload_n 0 dX8_told_100 rfl rfl ?_
        obtain ⟨c3, h⟩ := x_ckk h
        refine x_geti dX8_told_101 vc_X8 xin8 fb_X8_0 fl_X8_28 xr_X8_0 c3 ?_
        refine x_goto (tgt := 185) dX8_told_104 (by decide) ?_
        obtain ⟨rfl, rfl⟩ := Prod.mk.inj (x_so h)
        exact x_niret dX8_told_185 rfl rfl rfl
      · refine x_if_ne_t (tgt := 107) dX8_told_97 (by decide) c2 ?_
        refine x_iload_n 1 dX8_told_107 rfl rfl ?_
        refine x_iconst (v := 1) dX8_told_108 rfl ?_
        rcases x_if h with ⟨c4, h⟩ | ⟨c4, h⟩
        · refine x_icmp_ne_f (tgt := 120) dX8_told_109 (by decide) c4 ?_
          refine x_aload_n 0 dX8_told_112 rfl rfl ?_
          obtain ⟨c5, h⟩ := x_ckk h
          obtain ⟨c7, h⟩ := x_ckk h
          obtain ⟨p6, lp6, h⟩ := x_lt h
          have ep6 : gr Y p_0 3 = some p6 := by rw [lp6]; exact c7
          refine x_getr dX8_told_113 vc_X8 xin8 fb_X8_3 fl_X8_14 xr_X8_3 c5 ep6 ?_
          obtain ⟨c8, h⟩ := x_ckk h
          refine x_rlen (j := 4) dX8_told_116 (by decide) c8 rfl ?_
          refine x_goto (tgt := 185) dX8_told_117 (by decide) ?_
          obtain ⟨rfl, rfl⟩ := Prod.mk.inj (x_so h)
          exact x_niret dX8_told_185 rfl rfl rfl
        · refine x_icmp_ne_t (tgt := 120) dX8_told_109 (by decide) c4 ?_
          refine x_iload_n 1 dX8_told_120 rfl rfl ?_
          refine x_iconst (v := 2) dX8_told_121 rfl ?_
          rcases x_if h with ⟨c9, h⟩ | ⟨c9, h⟩
          · refine x_icmp_ne_f (tgt := 133) dX8_told_122 (by decide) c9 ?_
            refine x_aload_n 0 dX8_told_125 rfl rfl ?_
            obtain ⟨c10, h⟩ := x_ckk h
            obtain ⟨c12, h⟩ := x_ckk h
            obtain ⟨p11, lp11, h⟩ := x_lt h
            have ep11 : gr Y p_0 4 = some p11 := by rw [lp11]; exact c12
            refine x_getr dX8_told_126 vc_X8 xin8 fb_X8_4 fl_X8_18 xr_X8_4 c10 ep11 ?_
            obtain ⟨c13, h⟩ := x_ckk h
            refine x_rlen (j := 4) dX8_told_129 (by decide) c13 rfl ?_
            refine x_goto (tgt := 185) dX8_told_130 (by decide) ?_
            obtain ⟨rfl, rfl⟩ := Prod.mk.inj (x_so h)
            exact x_niret dX8_told_185 rfl rfl rfl
          · refine x_icmp_ne_t (tgt := 133) dX8_told_122 (by decide) c9 ?_
            refine x_iload_n 1 dX8_told_133 rfl rfl ?_
            refine x_iconst (v := 3) dX8_told_134 rfl ?_
            rcases x_if h with ⟨c14, h⟩ | ⟨c14, h⟩
            · refine x_icmp_ne_f (tgt := 146) dX8_told_135 (by decide) c14 ?_
              refine x_aload_n 0 dX8_told_138 rfl rfl ?_
              obtain ⟨c15, h⟩ := x_ckk h
              obtain ⟨c17, h⟩ := x_ckk h
              obtain ⟨p16, lp16, h⟩ := x_lt h
              have ep16 : gr Y p_0 6 = some p16 := by rw [lp16]; exact c17
              refine x_getr dX8_told_139 vc_X8 xin8 fb_X8_6 fl_X8_24 xr_X8_6 c15 ep16 ?_
              obtain ⟨c18, h⟩ := x_ckk h
              refine x_rlen (j := 4) dX8_told_142 (by decide) c18 rfl ?_
              refine x_goto (tgt := 185) dX8_told_143 (by decide) ?_
              obtain ⟨rfl, rfl⟩ := Prod.mk.inj (x_so h)
              exact x_niret dX8_told_185 rfl rfl rfl
            · refine x_icmp_ne_t (tgt := 146) dX8_told_135 (by decide) c14 ?_
              refine x_iload_n 1 dX8_told_146 rfl rfl ?_
              refine x_iconst (v := 4) dX8_told_147 rfl ?_
              rcases x_if h with ⟨c19, h⟩ | ⟨c19, h⟩
              · refine x_icmp_ne_f (tgt := 158) dX8_told_148 (by decide) c19 ?_
                refine x_aload_n 0 dX8_told_151 rfl rfl ?_
                obtain ⟨c20, h⟩ := x_ckk h
                refine x_geti dX8_told_152 vc_X8 xin8 fb_X8_1 fl_X8_32 xr_X8_1 c20 ?_
                refine x_goto (tgt := 185) dX8_told_155 (by decide) ?_
                obtain ⟨rfl, rfl⟩ := Prod.mk.inj (x_so h)
                exact x_niret dX8_told_185 rfl rfl rfl
              · refine x_icmp_ne_t (tgt := 158) dX8_told_148 (by decide) c19 ?_
                refine x_iload_n 1 dX8_told_158 rfl rfl ?_
                refine x_bipush (v := 8) dX8_told_159 rfl ?_
                rcases x_if h with ⟨c21, h⟩ | ⟨c21, h⟩
                · refine x_icmp_ge_t (tgt := 174) dX8_told_161 (by decide) c21 ?_
                  refine x_iload_n 1 dX8_told_174 rfl rfl ?_
                  refine x_bipush (v := 8) dX8_told_175 rfl ?_
                  rcases x_if h with ⟨c22, h⟩ | ⟨c22, h⟩
                  · refine x_icmp_ne_f (tgt := 184) dX8_told_177 (by decide) c22 ?_
                    refine x_iload_n 2 dX8_told_180 rfl rfl ?_
                    refine x_goto (tgt := 185) dX8_told_181 (by decide) ?_
                    obtain ⟨rfl, rfl⟩ := Prod.mk.inj (x_so h)
                    exact x_niret dX8_told_185 rfl rfl rfl
                  · refine x_icmp_ne_t (tgt := 184) dX8_told_177 (by decide) c22 ?_
                    refine x_iload_n 3 dX8_told_184 rfl rfl ?_
                    obtain ⟨rfl, rfl⟩ := Prod.mk.inj (x_so h)
                    exact x_niret dX8_told_185 rfl rfl rfl
                · refine x_icmp_ge_f (tgt := 174) dX8_told_161 (by decide) c21 ?_
                  refine x_aload_n 0 dX8_told_164 rfl rfl ?_
                  refine x_iload_n 1 dX8_told_165 rfl rfl ?_
                  refine x_iconst (v := 4) dX8_told_166 rfl ?_
                  refine x_isub dX8_told_167 ?_
                  obtain ⟨c23, h⟩ := x_ckk h
                  obtain ⟨r24, N26, e25, h⟩ := x_bd2 h
                  refine x_nV (b := p_0) (As := [.int (v_1 - 4)]) (ci := 8) (R' := xR 1 0 0) (zz := yX8_count) dX8_told_168 ml_X8_104 wi_X8_count wv_X8_count wn_X8 wc_X8_count hp_X8_count ⟨Nat.le_of_ble_eq_true rfl, Nat.le_of_ble_eq_true rfl⟩ rfl (Nat.le_of_ble_eq_true rfl) ⟨Nat.le_refl _, Nat.le_refl _⟩ vc_X8 c23 (T_X8_count (G := G) e25) ?_
                  refine x_goto (tgt := 185) dX8_told_171 (by decide) ?_
                  obtain ⟨rfl, rfl⟩ := Prod.mk.inj (x_so h)
                  exact x_niret dX8_told_185 rfl rfl rfl
    · refine x_icmp_ge_f (tgt := 96) dX8_told_73 (by decide) c1 ?_
      refine x_aload 4 dX8_told_76 rfl ?_
      refine x_iload 6 dX8_told_78 rfl ?_
      obtain ⟨c27, h⟩ := x_ckk h
      obtain ⟨c28, h⟩ := x_ckk h
      obtain ⟨c30, h⟩ := x_ckk h
      obtain ⟨p29, lp29, h⟩ := x_lt h
      have ep29 : gr Y p_4 v_6.toNatClampNeg = some p29 := by rw [lp29]; exact c30
      refine x_aald (j := 4) dX8_told_80 (by decide) c27 (xb_in c28) ep29 ?_
      refine x_astore (L' := [(0, .ref p_0), (1, .int v_1), (2, .int v_2), (3, .int v_3), (4, .ref p_4), (5, .int v_5), (6, .int v_6), (7, .ref p29)]) [1, 2, 3, 4, 5, 6, 7, 0] dX8_told_81 (by decide) rfl ?_
      refine x_iload_n 3 dX8_told_83 rfl rfl ?_
      refine x_aload 7 dX8_told_84 rfl ?_
      refine x_iconst (v := 2) dX8_told_86 rfl ?_
      obtain ⟨c31, h⟩ := x_ckk h
      obtain ⟨c32, h⟩ := x_ckk h
      refine x_iald dX8_told_87 c31 (xb_in c32) xj_2 ?_
      refine x_iadd dX8_told_88 ?_
      refine x_istore_n (L' := [(0, .ref p_0), (1, .int v_1), (2, .int v_2), (3, .int (v_3 + (gi N p29 2))), (4, .ref p_4), (5, .int v_5), (6, .int v_6)]) [1, 2, 3, 0, 4, 5, 6] dX8_told_89 rfl (by decide) rfl ?_
      refine x_iinc (L' := [(0, .ref p_0), (1, .int v_1), (2, .int v_2), (3, .int (v_3 + (gi N p29 2))), (4, .ref p_4), (5, .int v_5), (6, .int (v_6 + 1))]) 6 [1, 2, 3, 4, 5, 6, 0] dX8_told_90 rfl rfl (by decide) rfl ?_
      refine x_goto (tgt := 69) dX8_told_93 (by decide) ?_
      exact ih p_0 v_1 v_2 (v_3 + (gi N p29 2)) p_4 v_5 (v_6 + 1) N h
set_option maxHeartbeats 4000000 in
set_option maxRecDepth 100000 in
theorem T_X8_told_21 {G : XG} {tb : List ExceptionTableEntry} {Y : XY} {rz : Int32} {Nz : XN} : ∀ (D9 : Nat) (p_0 : Nat) (v_1 : Int32) (v_2 : Int32) (v_3 : Int32) (p_4 : Nat) (v_5 : Int32) (v_6 : Int32) (N : XN), f_X8_told_21 Y D9 p_0 v_1 v_2 v_3 p_4 v_5 v_6 N = some (rz, Nz) → ExZ G yX8_told cX8_told 8 (some .int) tb (xR 2 0 0) (xZn G (xR 2 0 0) (some (.int rz)) Y Nz) 0 0 21 [(0, .ref p_0), (1, .int v_1), (2, .int v_2), (3, .int v_3), (4, .ref p_4), (5, .int v_5), (6, .int v_6)] [] Y N := by
  intro D9
  induction D9 with
  | zero => intro p_0 v_1 v_2 v_3 p_4 v_5 v_6 N h; exact nomatch (show none = some _ from h)
  | succ D9 ih =>
    intro p_0 v_1 v_2 v_3 p_4 v_5 v_6 N h
    rw [f_X8_told_21] at h
    refine x_iload 6 dX8_told_21 rfl ?_
    refine x_iload 5 dX8_told_23 rfl ?_
    rcases x_if h with ⟨c1, h⟩ | ⟨c1, h⟩
    · refine x_icmp_ge_t (tgt := 55) dX8_told_25 (by decide) c1 ?_
      refine x_aload_n 0 dX8_told_55 rfl rfl ?_
      obtain ⟨c2, h⟩ := x_ckk h
      obtain ⟨c4, h⟩ := x_ckk h
      obtain ⟨p3, lp3, h⟩ := x_lt h
      have ep3 : gr Y p_0 4 = some p3 := by rw [lp3]; exact c4
      refine x_getr dX8_told_56 vc_X8 xin8 fb_X8_4 fl_X8_18 xr_X8_4 c2 ep3 ?_
      refine x_astore (L' := [(0, .ref p_0), (1, .int v_1), (2, .int v_2), (3, .int v_3), (4, .ref p3)]) [1, 2, 3, 4, 0] dX8_told_59 (by decide) rfl ?_
      refine x_aload 4 dX8_told_61 rfl ?_
      obtain ⟨c5, h⟩ := x_ckk h
      refine x_rlen (j := 4) dX8_told_63 (by decide) c5 rfl ?_
      refine x_istore (L' := [(0, .ref p_0), (1, .int v_1), (2, .int v_2), (3, .int v_3), (4, .ref p3), (5, .int (Int32.ofNat (kn Y p3)))]) [1, 2, 3, 4, 5, 0] dX8_told_64 (by decide) rfl ?_
      refine x_iconst (v := 0) dX8_told_66 rfl ?_
      refine x_istore (L' := [(0, .ref p_0), (1, .int v_1), (2, .int v_2), (3, .int v_3), (4, .ref p3), (5, .int (Int32.ofNat (kn Y p3))), (6, .int 0)]) [1, 2, 3, 4, 5, 6, 0] dX8_told_67 (by decide) rfl ?_
      exact T_X8_told_69 (G := G) FU p_0 v_1 v_2 v_3 p3 (Int32.ofNat (kn Y p3)) 0 N h
    · refine x_icmp_ge_f (tgt := 55) dX8_told_25 (by decide) c1 ?_
      refine x_aload 4 dX8_told_28 rfl ?_
      refine x_iload 6 dX8_told_30 rfl ?_
      obtain ⟨c6, h⟩ := x_ckk h
      obtain ⟨c7, h⟩ := x_ckk h
      obtain ⟨c9, h⟩ := x_ckk h
      obtain ⟨p8, lp8, h⟩ := x_lt h
      have ep8 : gr Y p_4 v_6.toNatClampNeg = some p8 := by rw [lp8]; exact c9
      refine x_aald (j := 4) dX8_told_32 (by decide) c6 (xb_in c7) ep8 ?_
      refine x_astore (L' := [(0, .ref p_0), (1, .int v_1), (2, .int v_2), (3, .int v_3), (4, .ref p_4), (5, .int v_5), (6, .int v_6), (7, .ref p8)]) [1, 2, 3, 4, 5, 6, 7, 0] dX8_told_33 (by decide) rfl ?_
      refine x_iload_n 2 dX8_told_35 rfl rfl ?_
      refine x_aload 7 dX8_told_36 rfl ?_
      refine x_iconst (v := 2) dX8_told_38 rfl ?_
      obtain ⟨c10, h⟩ := x_ckk h
      obtain ⟨c11, h⟩ := x_ckk h
      refine x_iald dX8_told_39 c10 (xb_in c11) xj_2 ?_
      refine x_iadd dX8_told_40 ?_
      refine x_istore_n (L' := [(0, .ref p_0), (1, .int v_1), (2, .int (v_2 + (gi N p8 2))), (3, .int v_3), (4, .ref p_4), (5, .int v_5), (6, .int v_6), (7, .ref p8)]) [1, 2, 0, 3, 4, 5, 6, 7] dX8_told_41 rfl (by decide) rfl ?_
      refine x_iload_n 3 dX8_told_42 rfl rfl ?_
      refine x_aload 7 dX8_told_43 rfl ?_
      refine x_iconst (v := 0) dX8_told_45 rfl ?_
      obtain ⟨c12, h⟩ := x_ckk h
      refine x_iald dX8_told_46 c10 (xb_in c12) xj_0 ?_
      refine x_iadd dX8_told_47 ?_
      refine x_istore_n (L' := [(0, .ref p_0), (1, .int v_1), (2, .int (v_2 + (gi N p8 2))), (3, .int (v_3 + (gi N p8 0))), (4, .ref p_4), (5, .int v_5), (6, .int v_6)]) [1, 2, 3, 0, 4, 5, 6] dX8_told_48 rfl (by decide) rfl ?_
      refine x_iinc (L' := [(0, .ref p_0), (1, .int v_1), (2, .int (v_2 + (gi N p8 2))), (3, .int (v_3 + (gi N p8 0))), (4, .ref p_4), (5, .int v_5), (6, .int (v_6 + 1))]) 6 [1, 2, 3, 4, 5, 6, 0] dX8_told_49 rfl rfl (by decide) rfl ?_
      refine x_goto (tgt := 21) dX8_told_52 (by decide) ?_
      exact ih p_0 v_1 (v_2 + (gi N p8 2)) (v_3 + (gi N p8 0)) p_4 v_5 (v_6 + 1) N h
set_option maxHeartbeats 4000000 in
set_option maxRecDepth 100000 in
theorem T_X8_told {G : XG} {Y : XY} {a0 : Nat} {a1 : Int32} {N : XN} {rz : Int32} {Nz : XN} (h : f_X8_told Y a0 a1 N = some (rz, Nz)) : Cn G yX8_told cX8_told 8 (some .int) (xR 2 0 0) [.ref a0, .int a1] (some (.int rz)) Y N Y Nz := by
  refine x_entryN (by decide) (Nat.le_of_ble_eq_true rfl) rfl fun tb => ?_
  rw [f_X8_told] at h
  refine x_iconst (v := 0) dX8_told_0 rfl ?_
  refine x_istore_n (L' := [(0, .ref a0), (1, .int a1), (2, .int 0)]) [1, 2, 0] dX8_told_1 rfl (by decide) rfl ?_
  refine x_aload_n 0 dX8_told_2 rfl rfl ?_
  obtain ⟨c1, h⟩ := x_ckk h
  refine x_geti dX8_told_3 vc_X8 xin8 fb_X8_1 fl_X8_32 xr_X8_1 c1 ?_
  refine x_istore_n (L' := [(0, .ref a0), (1, .int a1), (2, .int 0), (3, .int (gi N a0 1))]) [1, 2, 3, 0] dX8_told_6 rfl (by decide) rfl ?_
  refine x_aload_n 0 dX8_told_7 rfl rfl ?_
  obtain ⟨c3, h⟩ := x_ckk h
  obtain ⟨p2, lp2, h⟩ := x_lt h
  have ep2 : gr Y a0 3 = some p2 := by rw [lp2]; exact c3
  refine x_getr dX8_told_8 vc_X8 xin8 fb_X8_3 fl_X8_14 xr_X8_3 c1 ep2 ?_
  refine x_astore (L' := [(0, .ref a0), (1, .int a1), (2, .int 0), (3, .int (gi N a0 1)), (4, .ref p2)]) [1, 2, 3, 4, 0] dX8_told_11 (by decide) rfl ?_
  refine x_aload 4 dX8_told_13 rfl ?_
  obtain ⟨c4, h⟩ := x_ckk h
  refine x_rlen (j := 4) dX8_told_15 (by decide) c4 rfl ?_
  refine x_istore (L' := [(0, .ref a0), (1, .int a1), (2, .int 0), (3, .int (gi N a0 1)), (4, .ref p2), (5, .int (Int32.ofNat (kn Y p2)))]) [1, 2, 3, 4, 5, 0] dX8_told_16 (by decide) rfl ?_
  refine x_iconst (v := 0) dX8_told_18 rfl ?_
  refine x_istore (L' := [(0, .ref a0), (1, .int a1), (2, .int 0), (3, .int (gi N a0 1)), (4, .ref p2), (5, .int (Int32.ofNat (kn Y p2))), (6, .int 0)]) [1, 2, 3, 4, 5, 6, 0] dX8_told_19 (by decide) rfl ?_
  exact T_X8_told_21 (G := G) FU a0 a1 0 (gi N a0 1) p2 (Int32.ofNat (kn Y p2)) 0 N h
set_option maxHeartbeats 4000000 in
set_option maxRecDepth 100000 in
theorem T_X8_ofHandler_16 {G : XG} {tb : List ExceptionTableEntry} {Y : XY} {rz : Int32} {Nz : XN} : ∀ (D9 : Nat) (p_0 : Nat) (v_1 : Int32) (v_2 : Int32) (v_3 : Int32) (p_4 : Nat) (v_5 : Int32) (v_6 : Int32) (N : XN), f_X8_ofHandler_16 Y D9 p_0 v_1 v_2 v_3 p_4 v_5 v_6 N = some (rz, Nz) → ExZ G yX8_ofHandler cX8_ofHandler 8 (some .int) tb (xR 2 0 0) (xZn G (xR 2 0 0) (some (.int rz)) Y Nz) 0 0 16 [(0, .ref p_0), (1, .int v_1), (2, .int v_2), (3, .int v_3), (4, .ref p_4), (5, .int v_5), (6, .int v_6)] [] Y N := by
  intro D9
  induction D9 with
  | zero => intro p_0 v_1 v_2 v_3 p_4 v_5 v_6 N h; exact nomatch (show none = some _ from h)
  | succ D9 ih =>
    intro p_0 v_1 v_2 v_3 p_4 v_5 v_6 N h
    rw [f_X8_ofHandler_16] at h
    refine x_iload 6 dX8_ofHandler_16 rfl ?_
    refine x_iload 5 dX8_ofHandler_18 rfl ?_
    rcases x_if h with ⟨c1, h⟩ | ⟨c1, h⟩
    · refine x_icmp_ge_t (tgt := 48) dX8_ofHandler_20 (by decide) c1 ?_
      refine x_iload_n 2 dX8_ofHandler_48 rfl rfl ?_
      refine x_iconst (v := 3) dX8_ofHandler_49 rfl ?_
      rcases x_if h with ⟨c2, h⟩ | ⟨c2, h⟩
      · refine x_icmp_ge_t (tgt := 64) dX8_ofHandler_50 (by decide) c2 ?_
        refine x_iload_n 2 dX8_ofHandler_64 rfl rfl ?_
        refine x_iconst (v := 3) dX8_ofHandler_65 rfl ?_
        rcases x_if h with ⟨c3, h⟩ | ⟨c3, h⟩
        · refine x_icmp_ne_f (tgt := 77) dX8_ofHandler_66 (by decide) c3 ?_
          refine x_aload_n 0 dX8_ofHandler_69 rfl rfl ?_
          refine x_iload_n 1 dX8_ofHandler_70 rfl rfl ?_
          obtain ⟨c4, h⟩ := x_ckk h
          obtain ⟨r5, N7, e6, h⟩ := x_bd2 h
          refine x_nV (b := p_0) (As := [.int v_1]) (ci := 8) (R' := xR 1 0 0) (zz := yX8_held) dX8_ofHandler_71 ml_X8_45 wi_X8_held wv_X8_held wn_X8 wc_X8_held hp_X8_held ⟨Nat.le_of_ble_eq_true rfl, Nat.le_of_ble_eq_true rfl⟩ rfl (Nat.le_of_ble_eq_true rfl) ⟨Nat.le_refl _, Nat.le_refl _⟩ vc_X8 c4 (T_X8_held (G := G) e6) ?_
          refine x_goto (tgt := 96) dX8_ofHandler_74 (by decide) ?_
          obtain ⟨rfl, rfl⟩ := Prod.mk.inj (x_so h)
          exact x_niret dX8_ofHandler_96 rfl rfl rfl
        · refine x_icmp_ne_t (tgt := 77) dX8_ofHandler_66 (by decide) c3 ?_
          refine x_iload_n 2 dX8_ofHandler_77 rfl rfl ?_
          refine x_iconst (v := 4) dX8_ofHandler_78 rfl ?_
          rcases x_if h with ⟨c8, h⟩ | ⟨c8, h⟩
          · refine x_icmp_ne_f (tgt := 86) dX8_ofHandler_79 (by decide) c8 ?_
            refine x_iload_n 3 dX8_ofHandler_82 rfl rfl ?_
            refine x_goto (tgt := 96) dX8_ofHandler_83 (by decide) ?_
            obtain ⟨rfl, rfl⟩ := Prod.mk.inj (x_so h)
            exact x_niret dX8_ofHandler_96 rfl rfl rfl
          · refine x_icmp_ne_t (tgt := 86) dX8_ofHandler_79 (by decide) c8 ?_
            refine x_aload_n 0 dX8_ofHandler_86 rfl rfl ?_
            obtain ⟨c9, h⟩ := x_ckk h
            obtain ⟨c11, h⟩ := x_ckk h
            obtain ⟨p10, lp10, h⟩ := x_lt h
            have ep10 : gr Y p_0 3 = some p10 := by rw [lp10]; exact c11
            refine x_getr dX8_ofHandler_87 vc_X8 xin8 fb_X8_3 fl_X8_14 xr_X8_3 c9 ep10 ?_
            refine x_iload_n 1 dX8_ofHandler_90 rfl rfl ?_
            obtain ⟨c12, h⟩ := x_ckk h
            obtain ⟨c13, h⟩ := x_ckk h
            obtain ⟨c15, h⟩ := x_ckk h
            obtain ⟨p14, lp14, h⟩ := x_lt h
            have ep14 : gr Y p10 v_1.toNatClampNeg = some p14 := by rw [lp14]; exact c15
            refine x_aald (j := 4) dX8_ofHandler_91 (by decide) c12 (xb_in c13) ep14 ?_
            refine x_iload_n 2 dX8_ofHandler_92 rfl rfl ?_
            refine x_iconst (v := 2) dX8_ofHandler_93 rfl ?_
            refine x_isub dX8_ofHandler_94 ?_
            obtain ⟨c16, h⟩ := x_ckk h
            obtain ⟨c17, h⟩ := x_ckk h
            refine x_iald dX8_ofHandler_95 c16 (xb_in c17) rfl ?_
            obtain ⟨rfl, rfl⟩ := Prod.mk.inj (x_so h)
            exact x_niret dX8_ofHandler_96 rfl rfl rfl
      · refine x_icmp_ge_f (tgt := 64) dX8_ofHandler_50 (by decide) c2 ?_
        refine x_aload_n 0 dX8_ofHandler_53 rfl rfl ?_
        obtain ⟨c18, h⟩ := x_ckk h
        obtain ⟨c20, h⟩ := x_ckk h
        obtain ⟨p19, lp19, h⟩ := x_lt h
        have ep19 : gr Y p_0 3 = some p19 := by rw [lp19]; exact c20
        refine x_getr dX8_ofHandler_54 vc_X8 xin8 fb_X8_3 fl_X8_14 xr_X8_3 c18 ep19 ?_
        refine x_iload_n 1 dX8_ofHandler_57 rfl rfl ?_
        obtain ⟨c21, h⟩ := x_ckk h
        obtain ⟨c22, h⟩ := x_ckk h
        obtain ⟨c24, h⟩ := x_ckk h
        obtain ⟨p23, lp23, h⟩ := x_lt h
        have ep23 : gr Y p19 v_1.toNatClampNeg = some p23 := by rw [lp23]; exact c24
        refine x_aald (j := 4) dX8_ofHandler_58 (by decide) c21 (xb_in c22) ep23 ?_
        refine x_iload_n 2 dX8_ofHandler_59 rfl rfl ?_
        obtain ⟨c25, h⟩ := x_ckk h
        obtain ⟨c26, h⟩ := x_ckk h
        refine x_iald dX8_ofHandler_60 c25 (xb_in c26) rfl ?_
        refine x_goto (tgt := 96) dX8_ofHandler_61 (by decide) ?_
        obtain ⟨rfl, rfl⟩ := Prod.mk.inj (x_so h)
        exact x_niret dX8_ofHandler_96 rfl rfl rfl
    · refine x_icmp_ge_f (tgt := 48) dX8_ofHandler_20 (by decide) c1 ?_
      refine x_aload 4 dX8_ofHandler_23 rfl ?_
      refine x_iload 6 dX8_ofHandler_25 rfl ?_
      obtain ⟨c27, h⟩ := x_ckk h
      obtain ⟨c28, h⟩ := x_ckk h
      obtain ⟨c30, h⟩ := x_ckk h
      obtain ⟨p29, lp29, h⟩ := x_lt h
      have ep29 : gr Y p_4 v_6.toNatClampNeg = some p29 := by rw [lp29]; exact c30
      refine x_aald (j := 4) dX8_ofHandler_27 (by decide) c27 (xb_in c28) ep29 ?_
      refine x_astore (L' := [(0, .ref p_0), (1, .int v_1), (2, .int v_2), (3, .int v_3), (4, .ref p_4), (5, .int v_5), (6, .int v_6), (7, .ref p29)]) [1, 2, 3, 4, 5, 6, 7, 0] dX8_ofHandler_28 (by decide) rfl ?_
      refine x_aload 7 dX8_ofHandler_30 rfl ?_
      refine x_iload_n 1 dX8_ofHandler_32 rfl rfl ?_
      obtain ⟨r31, N33, e32, h⟩ := x_bd2 h
      refine x_nSN (As := [.ref p29, .int v_1]) (R' := xR 1 0 0) (zz := yL_placeIn) dX8_ofHandler_33 (by decide) wt_L_placeIn wn_L wc_L_placeIn hp_L_placeIn ⟨Nat.le_of_ble_eq_true rfl, Nat.le_of_ble_eq_true rfl⟩ rfl (Nat.le_of_ble_eq_true rfl) ⟨Nat.le_refl _, Nat.le_refl _⟩ (T_L_placeIn (G := G) e32) ?_
      rcases x_if h with ⟨c34, h⟩ | ⟨c34, h⟩
      · refine x_if_lt_t (tgt := 42) dX8_ofHandler_36 (by decide) c34 ?_
        refine x_iinc (L' := [(0, .ref p_0), (1, .int v_1), (2, .int v_2), (3, .int v_3), (4, .ref p_4), (5, .int v_5), (6, .int (v_6 + 1))]) 6 [1, 2, 3, 4, 5, 6, 0] dX8_ofHandler_42 rfl rfl (by decide) rfl ?_
        refine x_goto (tgt := 16) dX8_ofHandler_45 (by decide) ?_
        exact ih p_0 v_1 v_2 v_3 p_4 v_5 (v_6 + 1) N33 h
      · refine x_if_lt_f (tgt := 42) dX8_ofHandler_36 (by decide) c34 ?_
        refine x_iinc (L' := [(0, .ref p_0), (1, .int v_1), (2, .int v_2), (3, .int (v_3 + 1)), (4, .ref p_4), (5, .int v_5), (6, .int v_6)]) 3 [1, 2, 3, 0, 4, 5, 6] dX8_ofHandler_39 rfl rfl (by decide) rfl ?_
        refine x_iinc (L' := [(0, .ref p_0), (1, .int v_1), (2, .int v_2), (3, .int (v_3 + 1)), (4, .ref p_4), (5, .int v_5), (6, .int (v_6 + 1))]) 6 [1, 2, 3, 4, 5, 6, 0] dX8_ofHandler_42 rfl rfl (by decide) rfl ?_
        refine x_goto (tgt := 16) dX8_ofHandler_45 (by decide) ?_
        exact ih p_0 v_1 v_2 (v_3 + 1) p_4 v_5 (v_6 + 1) N33 h
set_option maxHeartbeats 4000000 in
set_option maxRecDepth 100000 in
theorem T_X8_ofHandler {G : XG} {Y : XY} {a0 : Nat} {a1 : Int32} {a2 : Int32} {N : XN} {rz : Int32} {Nz : XN} (h : f_X8_ofHandler Y a0 a1 a2 N = some (rz, Nz)) : Cn G yX8_ofHandler cX8_ofHandler 8 (some .int) (xR 2 0 0) [.ref a0, .int a1, .int a2] (some (.int rz)) Y N Y Nz := by
  refine x_entryN (by decide) (Nat.le_of_ble_eq_true rfl) rfl fun tb => ?_
  rw [f_X8_ofHandler] at h
  refine x_iconst (v := 0) dX8_ofHandler_0 rfl ?_
  refine x_istore_n (L' := [(0, .ref a0), (1, .int a1), (2, .int a2), (3, .int 0)]) [1, 2, 3, 0] dX8_ofHandler_1 rfl (by decide) rfl ?_
  refine x_aload_n 0 dX8_ofHandler_2 rfl rfl ?_
  obtain ⟨c1, h⟩ := x_ckk h
  obtain ⟨c3, h⟩ := x_ckk h
  obtain ⟨p2, lp2, h⟩ := x_lt h
  have ep2 : gr Y a0 5 = some p2 := by rw [lp2]; exact c3
  refine x_getr dX8_ofHandler_3 vc_X8 xin8 fb_X8_5 fl_X8_21 xr_X8_5 c1 ep2 ?_
  refine x_astore (L' := [(0, .ref a0), (1, .int a1), (2, .int a2), (3, .int 0), (4, .ref p2)]) [1, 2, 3, 4, 0] dX8_ofHandler_6 (by decide) rfl ?_
  refine x_aload 4 dX8_ofHandler_8 rfl ?_
  obtain ⟨c4, h⟩ := x_ckk h
  refine x_rlen (j := 4) dX8_ofHandler_10 (by decide) c4 rfl ?_
  refine x_istore (L' := [(0, .ref a0), (1, .int a1), (2, .int a2), (3, .int 0), (4, .ref p2), (5, .int (Int32.ofNat (kn Y p2)))]) [1, 2, 3, 4, 5, 0] dX8_ofHandler_11 (by decide) rfl ?_
  refine x_iconst (v := 0) dX8_ofHandler_13 rfl ?_
  refine x_istore (L' := [(0, .ref a0), (1, .int a1), (2, .int a2), (3, .int 0), (4, .ref p2), (5, .int (Int32.ofNat (kn Y p2))), (6, .int 0)]) [1, 2, 3, 4, 5, 6, 0] dX8_ofHandler_14 (by decide) rfl ?_
  exact T_X8_ofHandler_16 (G := G) FU a0 a1 a2 0 p2 (Int32.ofNat (kn Y p2)) 0 N h
set_option maxHeartbeats 4000000 in
set_option maxRecDepth 100000 in
theorem T_X8_ofLine_16 {G : XG} {tb : List ExceptionTableEntry} {Y : XY} {rz : Int32} {Nz : XN} : ∀ (D9 : Nat) (p_0 : Nat) (v_1 : Int32) (v_2 : Int32) (v_3 : Int32) (p_4 : Nat) (v_5 : Int32) (v_6 : Int32) (N : XN), f_X8_ofLine_16 Y D9 p_0 v_1 v_2 v_3 p_4 v_5 v_6 N = some (rz, Nz) → ExZ G yX8_ofLine cX8_ofLine 8 (some .int) tb (xR 1 0 0) (xZn G (xR 1 0 0) (some (.int rz)) Y Nz) 0 0 16 [(0, .ref p_0), (1, .int v_1), (2, .int v_2), (3, .int v_3), (4, .ref p_4), (5, .int v_5), (6, .int v_6)] [] Y N := by
  intro D9
  induction D9 with
  | zero => intro p_0 v_1 v_2 v_3 p_4 v_5 v_6 N h; exact nomatch (show none = some _ from h)
  | succ D9 ih =>
    intro p_0 v_1 v_2 v_3 p_4 v_5 v_6 N h
    rw [f_X8_ofLine_16] at h
    refine x_iload 6 dX8_ofLine_16 rfl ?_
    refine x_iload 5 dX8_ofLine_18 rfl ?_
    rcases x_if h with ⟨c1, h⟩ | ⟨c1, h⟩
    · refine x_icmp_ge_t (tgt := 62) dX8_ofLine_20 (by decide) c1 ?_
      refine x_iload_n 2 dX8_ofLine_62 rfl rfl ?_
      refine x_iconst (v := 3) dX8_ofLine_63 rfl ?_
      rcases x_if h with ⟨c2, h⟩ | ⟨c2, h⟩
      · refine x_icmp_ge_t (tgt := 78) dX8_ofLine_64 (by decide) c2 ?_
        refine x_iload_n 2 dX8_ofLine_78 rfl rfl ?_
        refine x_iconst (v := 3) dX8_ofLine_79 rfl ?_
        rcases x_if h with ⟨c3, h⟩ | ⟨c3, h⟩
        · refine x_icmp_ne_f (tgt := 93) dX8_ofLine_80 (by decide) c3 ?_
          refine x_aload_n 0 dX8_ofLine_83 rfl rfl ?_
          obtain ⟨c4, h⟩ := x_ckk h
          obtain ⟨c6, h⟩ := x_ckk h
          obtain ⟨p5, lp5, h⟩ := x_lt h
          have ep5 : gr Y p_0 5 = some p5 := by rw [lp5]; exact c6
          refine x_getr dX8_ofLine_84 vc_X8 xin8 fb_X8_5 fl_X8_21 xr_X8_5 c4 ep5 ?_
          refine x_iload_n 1 dX8_ofLine_87 rfl rfl ?_
          obtain ⟨c7, h⟩ := x_ckk h
          obtain ⟨c8, h⟩ := x_ckk h
          obtain ⟨c10, h⟩ := x_ckk h
          obtain ⟨p9, lp9, h⟩ := x_lt h
          have ep9 : gr Y p5 v_1.toNatClampNeg = some p9 := by rw [lp9]; exact c10
          refine x_aald (j := 4) dX8_ofLine_88 (by decide) c7 (xb_in c8) ep9 ?_
          obtain ⟨c11, h⟩ := x_ckk h
          refine x_ilen dX8_ofLine_89 c11 rfl ?_
          refine x_goto (tgt := 94) dX8_ofLine_90 (by decide) ?_
          obtain ⟨rfl, rfl⟩ := Prod.mk.inj (x_so h)
          exact x_niret dX8_ofLine_94 rfl rfl rfl
        · refine x_icmp_ne_t (tgt := 93) dX8_ofLine_80 (by decide) c3 ?_
          refine x_iload_n 3 dX8_ofLine_93 rfl rfl ?_
          obtain ⟨rfl, rfl⟩ := Prod.mk.inj (x_so h)
          exact x_niret dX8_ofLine_94 rfl rfl rfl
      · refine x_icmp_ge_f (tgt := 78) dX8_ofLine_64 (by decide) c2 ?_
        refine x_aload_n 0 dX8_ofLine_67 rfl rfl ?_
        obtain ⟨c12, h⟩ := x_ckk h
        obtain ⟨c14, h⟩ := x_ckk h
        obtain ⟨p13, lp13, h⟩ := x_lt h
        have ep13 : gr Y p_0 4 = some p13 := by rw [lp13]; exact c14
        refine x_getr dX8_ofLine_68 vc_X8 xin8 fb_X8_4 fl_X8_18 xr_X8_4 c12 ep13 ?_
        refine x_iload_n 1 dX8_ofLine_71 rfl rfl ?_
        obtain ⟨c15, h⟩ := x_ckk h
        obtain ⟨c16, h⟩ := x_ckk h
        obtain ⟨c18, h⟩ := x_ckk h
        obtain ⟨p17, lp17, h⟩ := x_lt h
        have ep17 : gr Y p13 v_1.toNatClampNeg = some p17 := by rw [lp17]; exact c18
        refine x_aald (j := 4) dX8_ofLine_72 (by decide) c15 (xb_in c16) ep17 ?_
        refine x_iload_n 2 dX8_ofLine_73 rfl rfl ?_
        obtain ⟨c19, h⟩ := x_ckk h
        obtain ⟨c20, h⟩ := x_ckk h
        refine x_iald dX8_ofLine_74 c19 (xb_in c20) rfl ?_
        refine x_goto (tgt := 94) dX8_ofLine_75 (by decide) ?_
        obtain ⟨rfl, rfl⟩ := Prod.mk.inj (x_so h)
        exact x_niret dX8_ofLine_94 rfl rfl rfl
    · refine x_icmp_ge_f (tgt := 62) dX8_ofLine_20 (by decide) c1 ?_
      refine x_aload 4 dX8_ofLine_23 rfl ?_
      refine x_iload 6 dX8_ofLine_25 rfl ?_
      obtain ⟨c21, h⟩ := x_ckk h
      obtain ⟨c22, h⟩ := x_ckk h
      obtain ⟨c24, h⟩ := x_ckk h
      obtain ⟨p23, lp23, h⟩ := x_lt h
      have ep23 : gr Y p_4 v_6.toNatClampNeg = some p23 := by rw [lp23]; exact c24
      refine x_aald (j := 4) dX8_ofLine_27 (by decide) c21 (xb_in c22) ep23 ?_
      refine x_astore (L' := [(0, .ref p_0), (1, .int v_1), (2, .int v_2), (3, .int v_3), (4, .ref p_4), (5, .int v_5), (6, .int v_6), (7, .ref p23)]) [1, 2, 3, 4, 5, 6, 7, 0] dX8_ofLine_28 (by decide) rfl ?_
      refine x_aload 7 dX8_ofLine_30 rfl ?_
      refine x_iconst (v := 3) dX8_ofLine_32 rfl ?_
      obtain ⟨c25, h⟩ := x_ckk h
      obtain ⟨c26, h⟩ := x_ckk h
      refine x_iald dX8_ofLine_33 c25 (xb_in c26) xj_3 ?_
      refine x_iconst (v := 1) dX8_ofLine_34 rfl ?_
      rcases x_if h with ⟨c27, h⟩ | ⟨c27, h⟩
      · refine x_icmp_ne_f (tgt := 56) dX8_ofLine_35 (by decide) c27 ?_
        refine x_aload 7 dX8_ofLine_38 rfl ?_
        refine x_iconst (v := 0) dX8_ofLine_40 rfl ?_
        obtain ⟨c28, h⟩ := x_ckk h
        refine x_iald dX8_ofLine_41 c25 (xb_in c28) xj_0 ?_
        refine x_iload_n 1 dX8_ofLine_42 rfl rfl ?_
        rcases x_if h with ⟨c29, h⟩ | ⟨c29, h⟩
        · refine x_icmp_ne_f (tgt := 56) dX8_ofLine_43 (by decide) c29 ?_
          refine x_aload 7 dX8_ofLine_46 rfl ?_
          refine x_iconst (v := 4) dX8_ofLine_48 rfl ?_
          obtain ⟨c30, h⟩ := x_ckk h
          refine x_iald dX8_ofLine_49 c25 (xb_in c30) xj_4 ?_
          rcases x_if h with ⟨c31, h⟩ | ⟨c31, h⟩
          · refine x_if_ge_t (tgt := 56) dX8_ofLine_50 (by decide) c31 ?_
            refine x_iinc (L' := [(0, .ref p_0), (1, .int v_1), (2, .int v_2), (3, .int v_3), (4, .ref p_4), (5, .int v_5), (6, .int (v_6 + 1))]) 6 [1, 2, 3, 4, 5, 6, 0] dX8_ofLine_56 rfl rfl (by decide) rfl ?_
            refine x_goto (tgt := 16) dX8_ofLine_59 (by decide) ?_
            exact ih p_0 v_1 v_2 v_3 p_4 v_5 (v_6 + 1) N h
          · refine x_if_ge_f (tgt := 56) dX8_ofLine_50 (by decide) c31 ?_
            refine x_iinc (L' := [(0, .ref p_0), (1, .int v_1), (2, .int v_2), (3, .int (v_3 + 1)), (4, .ref p_4), (5, .int v_5), (6, .int v_6)]) 3 [1, 2, 3, 0, 4, 5, 6] dX8_ofLine_53 rfl rfl (by decide) rfl ?_
            refine x_iinc (L' := [(0, .ref p_0), (1, .int v_1), (2, .int v_2), (3, .int (v_3 + 1)), (4, .ref p_4), (5, .int v_5), (6, .int (v_6 + 1))]) 6 [1, 2, 3, 4, 5, 6, 0] dX8_ofLine_56 rfl rfl (by decide) rfl ?_
            refine x_goto (tgt := 16) dX8_ofLine_59 (by decide) ?_
            exact ih p_0 v_1 v_2 (v_3 + 1) p_4 v_5 (v_6 + 1) N h
        · refine x_icmp_ne_t (tgt := 56) dX8_ofLine_43 (by decide) c29 ?_
          refine x_iinc (L' := [(0, .ref p_0), (1, .int v_1), (2, .int v_2), (3, .int v_3), (4, .ref p_4), (5, .int v_5), (6, .int (v_6 + 1))]) 6 [1, 2, 3, 4, 5, 6, 0] dX8_ofLine_56 rfl rfl (by decide) rfl ?_
          refine x_goto (tgt := 16) dX8_ofLine_59 (by decide) ?_
          exact ih p_0 v_1 v_2 v_3 p_4 v_5 (v_6 + 1) N h
      · refine x_icmp_ne_t (tgt := 56) dX8_ofLine_35 (by decide) c27 ?_
        refine x_iinc (L' := [(0, .ref p_0), (1, .int v_1), (2, .int v_2), (3, .int v_3), (4, .ref p_4), (5, .int v_5), (6, .int (v_6 + 1))]) 6 [1, 2, 3, 4, 5, 6, 0] dX8_ofLine_56 rfl rfl (by decide) rfl ?_
        refine x_goto (tgt := 16) dX8_ofLine_59 (by decide) ?_
        exact ih p_0 v_1 v_2 v_3 p_4 v_5 (v_6 + 1) N h
set_option maxHeartbeats 4000000 in
set_option maxRecDepth 100000 in
theorem T_X8_ofLine {G : XG} {Y : XY} {a0 : Nat} {a1 : Int32} {a2 : Int32} {N : XN} {rz : Int32} {Nz : XN} (h : f_X8_ofLine Y a0 a1 a2 N = some (rz, Nz)) : Cn G yX8_ofLine cX8_ofLine 8 (some .int) (xR 1 0 0) [.ref a0, .int a1, .int a2] (some (.int rz)) Y N Y Nz := by
  refine x_entryN (by decide) (Nat.le_of_ble_eq_true rfl) rfl fun tb => ?_
  rw [f_X8_ofLine] at h
  refine x_iconst (v := 0) dX8_ofLine_0 rfl ?_
  refine x_istore_n (L' := [(0, .ref a0), (1, .int a1), (2, .int a2), (3, .int 0)]) [1, 2, 3, 0] dX8_ofLine_1 rfl (by decide) rfl ?_
  refine x_aload_n 0 dX8_ofLine_2 rfl rfl ?_
  obtain ⟨c1, h⟩ := x_ckk h
  obtain ⟨c3, h⟩ := x_ckk h
  obtain ⟨p2, lp2, h⟩ := x_lt h
  have ep2 : gr Y a0 6 = some p2 := by rw [lp2]; exact c3
  refine x_getr dX8_ofLine_3 vc_X8 xin8 fb_X8_6 fl_X8_24 xr_X8_6 c1 ep2 ?_
  refine x_astore (L' := [(0, .ref a0), (1, .int a1), (2, .int a2), (3, .int 0), (4, .ref p2)]) [1, 2, 3, 4, 0] dX8_ofLine_6 (by decide) rfl ?_
  refine x_aload 4 dX8_ofLine_8 rfl ?_
  obtain ⟨c4, h⟩ := x_ckk h
  refine x_rlen (j := 4) dX8_ofLine_10 (by decide) c4 rfl ?_
  refine x_istore (L' := [(0, .ref a0), (1, .int a1), (2, .int a2), (3, .int 0), (4, .ref p2), (5, .int (Int32.ofNat (kn Y p2)))]) [1, 2, 3, 4, 5, 0] dX8_ofLine_11 (by decide) rfl ?_
  refine x_iconst (v := 0) dX8_ofLine_13 rfl ?_
  refine x_istore (L' := [(0, .ref a0), (1, .int a1), (2, .int a2), (3, .int 0), (4, .ref p2), (5, .int (Int32.ofNat (kn Y p2))), (6, .int 0)]) [1, 2, 3, 4, 5, 6, 0] dX8_ofLine_14 (by decide) rfl ?_
  exact T_X8_ofLine_16 (G := G) FU a0 a1 a2 0 p2 (Int32.ofNat (kn Y p2)) 0 N h
set_option maxHeartbeats 4000000 in
set_option maxRecDepth 100000 in
theorem T_X8_checksum_198 {G : XG} {tb : List ExceptionTableEntry} {Y : XY} {rz : Int64} {Nz : XN} {K182 : Int64 → Nat → Int32 → Int32 → XN → Option (Int64 × XN)} (hK182 : ∀ (w_1 : Int64) (p_3 : Nat) (v_4 : Int32) (v_5 : Int32) (N : XN), K182 w_1 p_3 v_4 v_5 N = some (rz, Nz) → ExZ G yX8_checksum cX8_checksum 8 (some .long) tb (xR 3 0 0) (xZn G (xR 3 0 0) (some (.long rz)) Y Nz) 0 0 182 [(1, .long w_1), (3, .ref p_3), (4, .int v_4), (5, .int v_5)] [] Y N) : ∀ (D9 : Nat) (w_1 : Int64) (p_3 : Nat) (v_4 : Int32) (v_5 : Int32) (p_6 : Nat) (v_7 : Int32) (N : XN), f_X8_checksum_198 Y K182 D9 w_1 p_3 v_4 v_5 p_6 v_7 N = some (rz, Nz) → ExZ G yX8_checksum cX8_checksum 8 (some .long) tb (xR 3 0 0) (xZn G (xR 3 0 0) (some (.long rz)) Y Nz) 0 0 198 [(1, .long w_1), (3, .ref p_3), (4, .int v_4), (5, .int v_5), (6, .ref p_6), (7, .int v_7)] [] Y N := by
  intro D9
  induction D9 with
  | zero => intro w_1 p_3 v_4 v_5 p_6 v_7 N h; exact nomatch (show none = some _ from h)
  | succ D9 ih =>
    intro w_1 p_3 v_4 v_5 p_6 v_7 N h
    rw [f_X8_checksum_198] at h
    refine x_iload 5 dX8_checksum_198 rfl ?_
    refine x_bipush (v := 7) dX8_checksum_200 rfl ?_
    rcases x_if h with ⟨c1, h⟩ | ⟨c1, h⟩
    · refine x_icmp_ge_t (tgt := 224) dX8_checksum_202 (by decide) c1 ?_
      refine x_iinc (L' := [(1, .long w_1), (3, .ref p_3), (4, .int v_4), (5, .int (v_5 + 1))]) 3 [1, 2, 3, 0] dX8_checksum_224 rfl rfl (by decide) rfl ?_
      refine x_goto (tgt := 182) dX8_checksum_227 (by decide) ?_
      exact hK182 w_1 p_3 v_4 (v_5 + 1) N h
    · refine x_icmp_ge_f (tgt := 224) dX8_checksum_202 (by decide) c1 ?_
      refine x_ldc2 (v := 31) dX8_checksum_205 kl_X8_107 ?_
      refine x_lload_n 0 dX8_checksum_208 rfl rfl ?_
      refine x_lmul dX8_checksum_209 ?_
      refine x_aload 4 dX8_checksum_210 rfl ?_
      refine x_iload 5 dX8_checksum_212 rfl ?_
      obtain ⟨c2, h⟩ := x_ckk h
      obtain ⟨c3, h⟩ := x_ckk h
      refine x_iald dX8_checksum_214 c2 (xb_in c3) rfl ?_
      refine x_i2l dX8_checksum_215 ?_
      refine x_ladd dX8_checksum_216 ?_
      obtain ⟨w4, ew4, h⟩ := x_lt h
      refine x_nml ew4 ?_
      refine x_lstore_n (L' := [(1, .long w4), (3, .ref p_3), (4, .int v_4), (5, .int v_5), (6, .ref p_6), (7, .int v_7)]) [0, 1, 2, 3, 4, 5] dX8_checksum_217 rfl (by decide) rfl ?_
      refine x_iinc (L' := [(1, .long w4), (3, .ref p_3), (4, .int v_4), (5, .int v_5), (6, .ref p_6), (7, .int (v_7 + 1))]) 5 [1, 2, 3, 4, 5, 0] dX8_checksum_218 rfl rfl (by decide) rfl ?_
      refine x_goto (tgt := 198) dX8_checksum_221 (by decide) ?_
      exact ih w4 p_3 v_4 v_5 p_6 (v_7 + 1) N h
set_option maxHeartbeats 4000000 in
set_option maxRecDepth 100000 in
theorem T_X8_checksum_182 {G : XG} {tb : List ExceptionTableEntry} {Y : XY} {rz : Int64} {Nz : XN} : ∀ (D9 : Nat) (w_1 : Int64) (p_3 : Nat) (v_4 : Int32) (v_5 : Int32) (N : XN), f_X8_checksum_182 Y D9 w_1 p_3 v_4 v_5 N = some (rz, Nz) → ExZ G yX8_checksum cX8_checksum 8 (some .long) tb (xR 3 0 0) (xZn G (xR 3 0 0) (some (.long rz)) Y Nz) 0 0 182 [(1, .long w_1), (3, .ref p_3), (4, .int v_4), (5, .int v_5)] [] Y N := by
  intro D9
  induction D9 with
  | zero => intro w_1 p_3 v_4 v_5 N h; exact nomatch (show none = some _ from h)
  | succ D9 ih =>
    intro w_1 p_3 v_4 v_5 N h
    rw [f_X8_checksum_182] at h
    refine x_iload 3 dX8_checksum_182 rfl ?_
    refine x_iload 2 dX8_checksum_184 rfl ?_
    rcases x_if h with ⟨c1, h⟩ | ⟨c1, h⟩
    · refine x_icmp_ge_t (tgt := 230) dX8_checksum_186 (by decide) c1 ?_
      refine x_lload_n 0 dX8_checksum_230 rfl rfl ?_
      obtain ⟨rfl, rfl⟩ := Prod.mk.inj (x_so h)
      exact x_nlret dX8_checksum_231 rfl rfl rfl
    · refine x_icmp_ge_f (tgt := 230) dX8_checksum_186 (by decide) c1 ?_
      refine x_aload_n 1 dX8_checksum_189 rfl rfl ?_
      refine x_iload 3 dX8_checksum_190 rfl ?_
      obtain ⟨c2, h⟩ := x_ckk h
      obtain ⟨c3, h⟩ := x_ckk h
      obtain ⟨c5, h⟩ := x_ckk h
      obtain ⟨p4, lp4, h⟩ := x_lt h
      have ep4 : gr Y p_3 v_5.toNatClampNeg = some p4 := by rw [lp4]; exact c5
      refine x_aald (j := 4) dX8_checksum_192 (by decide) c2 (xb_in c3) ep4 ?_
      refine x_astore (L' := [(1, .long w_1), (3, .ref p_3), (4, .int v_4), (5, .int v_5), (6, .ref p4)]) [1, 2, 3, 4, 0] dX8_checksum_193 (by decide) rfl ?_
      refine x_iconst (v := 0) dX8_checksum_195 rfl ?_
      refine x_istore (L' := [(1, .long w_1), (3, .ref p_3), (4, .int v_4), (5, .int v_5), (6, .ref p4), (7, .int 0)]) [1, 2, 3, 4, 5, 0] dX8_checksum_196 (by decide) rfl ?_
      exact T_X8_checksum_198 (G := G) ih FU w_1 p_3 v_4 v_5 p4 0 N h
set_option maxHeartbeats 4000000 in
set_option maxRecDepth 100000 in
theorem T_X8_checksum_134 {G : XG} {tb : List ExceptionTableEntry} {Y : XY} {rz : Int64} {Nz : XN} {K79 : Nat → Int64 → Int32 → XN → Option (Int64 × XN)} (hK79 : ∀ (p_0 : Nat) (w_1 : Int64) (v_3 : Int32) (N : XN), K79 p_0 w_1 v_3 N = some (rz, Nz) → ExZ G yX8_checksum cX8_checksum 8 (some .long) tb (xR 3 0 0) (xZn G (xR 3 0 0) (some (.long rz)) Y Nz) 0 0 79 [(0, .ref p_0), (1, .long w_1), (3, .int v_3)] [] Y N) : ∀ (D9 : Nat) (p_0 : Nat) (w_1 : Int64) (v_3 : Int32) (p_4 : Nat) (v_5 : Int32) (v_6 : Int32) (N : XN), f_X8_checksum_134 Y K79 D9 p_0 w_1 v_3 p_4 v_5 v_6 N = some (rz, Nz) → ExZ G yX8_checksum cX8_checksum 8 (some .long) tb (xR 3 0 0) (xZn G (xR 3 0 0) (some (.long rz)) Y Nz) 0 0 134 [(0, .ref p_0), (1, .long w_1), (3, .int v_3), (4, .ref p_4), (5, .int v_5), (6, .int v_6)] [] Y N := by
  intro D9
  induction D9 with
  | zero => intro p_0 w_1 v_3 p_4 v_5 v_6 N h; exact nomatch (show none = some _ from h)
  | succ D9 ih =>
    intro p_0 w_1 v_3 p_4 v_5 v_6 N h
    rw [f_X8_checksum_134] at h
    refine x_iload 5 dX8_checksum_134 rfl ?_
    refine x_iload 4 dX8_checksum_136 rfl ?_
    rcases x_if h with ⟨c1, h⟩ | ⟨c1, h⟩
    · refine x_icmp_ge_t (tgt := 164) dX8_checksum_138 (by decide) c1 ?_
      refine x_iinc (L' := [(0, .ref p_0), (1, .long w_1), (3, .int (v_3 + 1))]) 2 [1, 2, 0] dX8_checksum_164 rfl rfl (by decide) rfl ?_
      refine x_goto (tgt := 79) dX8_checksum_167 (by decide) ?_
      exact hK79 p_0 w_1 (v_3 + 1) N h
    · refine x_icmp_ge_f (tgt := 164) dX8_checksum_138 (by decide) c1 ?_
      refine x_aload 3 dX8_checksum_141 rfl ?_
      refine x_iload 5 dX8_checksum_143 rfl ?_
      obtain ⟨c2, h⟩ := x_ckk h
      obtain ⟨c3, h⟩ := x_ckk h
      refine x_iald dX8_checksum_145 c2 (xb_in c3) rfl ?_
      obtain ⟨v4, ev4, h⟩ := x_lt h
      refine x_nmi ev4 ?_
      refine x_istore (L' := [(0, .ref p_0), (1, .long w_1), (3, .int v_3), (4, .ref p_4), (5, .int v_5), (6, .int v_6), (7, .int v4)]) [1, 2, 3, 4, 5, 6, 0] dX8_checksum_146 (by decide) rfl ?_
      refine x_ldc2 (v := 31) dX8_checksum_148 kl_X8_107 ?_
      refine x_lload_n 1 dX8_checksum_151 rfl rfl ?_
      refine x_lmul dX8_checksum_152 ?_
      refine x_iload 6 dX8_checksum_153 rfl ?_
      refine x_i2l dX8_checksum_155 ?_
      refine x_ladd dX8_checksum_156 ?_
      obtain ⟨w5, ew5, h⟩ := x_lt h
      refine x_nml ew5 ?_
      refine x_lstore_n (L' := [(0, .ref p_0), (1, .long w5), (3, .int v_3), (4, .ref p_4), (5, .int v_5), (6, .int v_6)]) [1, 0, 2, 3, 4, 5] dX8_checksum_157 rfl (by decide) rfl ?_
      refine x_iinc (L' := [(0, .ref p_0), (1, .long w5), (3, .int v_3), (4, .ref p_4), (5, .int v_5), (6, .int (v_6 + 1))]) 5 [1, 2, 3, 4, 5, 0] dX8_checksum_158 rfl rfl (by decide) rfl ?_
      refine x_goto (tgt := 134) dX8_checksum_161 (by decide) ?_
      exact ih p_0 w5 v_3 p_4 v_5 (v_6 + 1) N h
set_option maxHeartbeats 4000000 in
set_option maxRecDepth 100000 in
theorem T_X8_checksum_91 {G : XG} {tb : List ExceptionTableEntry} {Y : XY} {rz : Int64} {Nz : XN} {K79 : Nat → Int64 → Int32 → XN → Option (Int64 × XN)} (hK79 : ∀ (p_0 : Nat) (w_1 : Int64) (v_3 : Int32) (N : XN), K79 p_0 w_1 v_3 N = some (rz, Nz) → ExZ G yX8_checksum cX8_checksum 8 (some .long) tb (xR 3 0 0) (xZn G (xR 3 0 0) (some (.long rz)) Y Nz) 0 0 79 [(0, .ref p_0), (1, .long w_1), (3, .int v_3)] [] Y N) : ∀ (D9 : Nat) (p_0 : Nat) (w_1 : Int64) (v_3 : Int32) (v_4 : Int32) (N : XN), f_X8_checksum_91 Y K79 D9 p_0 w_1 v_3 v_4 N = some (rz, Nz) → ExZ G yX8_checksum cX8_checksum 8 (some .long) tb (xR 3 0 0) (xZn G (xR 3 0 0) (some (.long rz)) Y Nz) 0 0 91 [(0, .ref p_0), (1, .long w_1), (3, .int v_3), (4, .int v_4)] [] Y N := by
  intro D9
  induction D9 with
  | zero => intro p_0 w_1 v_3 v_4 N h; exact nomatch (show none = some _ from h)
  | succ D9 ih =>
    intro p_0 w_1 v_3 v_4 N h
    rw [f_X8_checksum_91] at h
    refine x_iload 3 dX8_checksum_91 rfl ?_
    refine x_iconst (v := 5) dX8_checksum_93 rfl ?_
    rcases x_if h with ⟨c1, h⟩ | ⟨c1, h⟩
    · refine x_icmp_ge_t (tgt := 118) dX8_checksum_94 (by decide) c1 ?_
      refine x_aload_n 0 dX8_checksum_118 rfl rfl ?_
      obtain ⟨c2, h⟩ := x_ckk h
      obtain ⟨c4, h⟩ := x_ckk h
      obtain ⟨p3, lp3, h⟩ := x_lt h
      have ep3 : gr Y p_0 5 = some p3 := by rw [lp3]; exact c4
      refine x_getr dX8_checksum_119 vc_X8 xin8 fb_X8_5 fl_X8_21 xr_X8_5 c2 ep3 ?_
      refine x_iload_n 2 dX8_checksum_122 rfl rfl ?_
      obtain ⟨c5, h⟩ := x_ckk h
      obtain ⟨c6, h⟩ := x_ckk h
      obtain ⟨c8, h⟩ := x_ckk h
      obtain ⟨p7, lp7, h⟩ := x_lt h
      have ep7 : gr Y p3 v_3.toNatClampNeg = some p7 := by rw [lp7]; exact c8
      refine x_aald (j := 4) dX8_checksum_123 (by decide) c5 (xb_in c6) ep7 ?_
      refine x_astore (L' := [(0, .ref p_0), (1, .long w_1), (3, .int v_3), (4, .ref p7)]) [1, 2, 3, 0] dX8_checksum_124 (by decide) rfl ?_
      refine x_aload 3 dX8_checksum_126 rfl ?_
      obtain ⟨c9, h⟩ := x_ckk h
      refine x_ilen dX8_checksum_128 c9 rfl ?_
      refine x_istore (L' := [(0, .ref p_0), (1, .long w_1), (3, .int v_3), (4, .ref p7), (5, .int (Int32.ofNat (kn Y p7)))]) [1, 2, 3, 4, 0] dX8_checksum_129 (by decide) rfl ?_
      refine x_iconst (v := 0) dX8_checksum_131 rfl ?_
      refine x_istore (L' := [(0, .ref p_0), (1, .long w_1), (3, .int v_3), (4, .ref p7), (5, .int (Int32.ofNat (kn Y p7))), (6, .int 0)]) [1, 2, 3, 4, 5, 0] dX8_checksum_132 (by decide) rfl ?_
      exact T_X8_checksum_134 (G := G) hK79 FU p_0 w_1 v_3 p7 (Int32.ofNat (kn Y p7)) 0 N h
    · refine x_icmp_ge_f (tgt := 118) dX8_checksum_94 (by decide) c1 ?_
      refine x_ldc2 (v := 31) dX8_checksum_97 kl_X8_107 ?_
      refine x_lload_n 1 dX8_checksum_100 rfl rfl ?_
      refine x_lmul dX8_checksum_101 ?_
      refine x_aload_n 0 dX8_checksum_102 rfl rfl ?_
      refine x_iload_n 2 dX8_checksum_103 rfl rfl ?_
      refine x_iload 3 dX8_checksum_104 rfl ?_
      obtain ⟨c10, h⟩ := x_ckk h
      obtain ⟨r11, N13, e12, h⟩ := x_bd2 h
      refine x_nV (b := p_0) (As := [.int v_3, .int v_4]) (ci := 8) (R' := xR 1 0 0) (zz := yX8_ofLine) dX8_checksum_106 ml_X8_115 wi_X8_ofLine wv_X8_ofLine wn_X8 wc_X8_ofLine hp_X8_ofLine ⟨Nat.le_of_ble_eq_true rfl, Nat.le_of_ble_eq_true rfl⟩ rfl (Nat.le_of_ble_eq_true rfl) ⟨Nat.le_refl _, Nat.le_refl _⟩ vc_X8 c10 (T_X8_ofLine (G := G) e12) ?_
      refine x_i2l dX8_checksum_109 ?_
      refine x_ladd dX8_checksum_110 ?_
      obtain ⟨w14, ew14, h⟩ := x_lt h
      refine x_nml ew14 ?_
      refine x_lstore_n (L' := [(0, .ref p_0), (1, .long w14), (3, .int v_3), (4, .int v_4)]) [1, 0, 2, 3] dX8_checksum_111 rfl (by decide) rfl ?_
      refine x_iinc (L' := [(0, .ref p_0), (1, .long w14), (3, .int v_3), (4, .int (v_4 + 1))]) 3 [1, 2, 3, 0] dX8_checksum_112 rfl rfl (by decide) rfl ?_
      refine x_goto (tgt := 91) dX8_checksum_115 (by decide) ?_
      exact ih p_0 w14 v_3 (v_4 + 1) N13 h
set_option maxHeartbeats 4000000 in
set_option maxRecDepth 100000 in
theorem T_X8_checksum_79 {G : XG} {tb : List ExceptionTableEntry} {Y : XY} {rz : Int64} {Nz : XN} : ∀ (D9 : Nat) (p_0 : Nat) (w_1 : Int64) (v_3 : Int32) (N : XN), f_X8_checksum_79 Y D9 p_0 w_1 v_3 N = some (rz, Nz) → ExZ G yX8_checksum cX8_checksum 8 (some .long) tb (xR 3 0 0) (xZn G (xR 3 0 0) (some (.long rz)) Y Nz) 0 0 79 [(0, .ref p_0), (1, .long w_1), (3, .int v_3)] [] Y N := by
  intro D9
  induction D9 with
  | zero => intro p_0 w_1 v_3 N h; exact nomatch (show none = some _ from h)
  | succ D9 ih =>
    intro p_0 w_1 v_3 N h
    rw [f_X8_checksum_79] at h
    refine x_iload_n 2 dX8_checksum_79 rfl rfl ?_
    refine x_aload_n 0 dX8_checksum_80 rfl rfl ?_
    obtain ⟨c1, h⟩ := x_ckk h
    obtain ⟨c3, h⟩ := x_ckk h
    obtain ⟨p2, lp2, h⟩ := x_lt h
    have ep2 : gr Y p_0 4 = some p2 := by rw [lp2]; exact c3
    refine x_getr dX8_checksum_81 vc_X8 xin8 fb_X8_4 fl_X8_18 xr_X8_4 c1 ep2 ?_
    obtain ⟨c4, h⟩ := x_ckk h
    refine x_rlen (j := 4) dX8_checksum_84 (by decide) c4 rfl ?_
    rcases x_if h with ⟨c5, h⟩ | ⟨c5, h⟩
    · refine x_icmp_ge_t (tgt := 170) dX8_checksum_85 (by decide) c5 ?_
      refine x_aload_n 0 dX8_checksum_170 rfl rfl ?_
      obtain ⟨c7, h⟩ := x_ckk h
      obtain ⟨p6, lp6, h⟩ := x_lt h
      have ep6 : gr Y p_0 6 = some p6 := by rw [lp6]; exact c7
      refine x_getr dX8_checksum_171 vc_X8 xin8 fb_X8_6 fl_X8_24 xr_X8_6 c1 ep6 ?_
      refine x_astore_n (L' := [(1, .long w_1), (3, .ref p6)]) [2, 0] dX8_checksum_174 rfl (by decide) rfl ?_
      refine x_aload_n 1 dX8_checksum_175 rfl rfl ?_
      obtain ⟨c8, h⟩ := x_ckk h
      refine x_rlen (j := 4) dX8_checksum_176 (by decide) c8 rfl ?_
      refine x_istore (L' := [(1, .long w_1), (3, .ref p6), (4, .int (Int32.ofNat (kn Y p6)))]) [1, 2, 0] dX8_checksum_177 (by decide) rfl ?_
      refine x_iconst (v := 0) dX8_checksum_179 rfl ?_
      refine x_istore (L' := [(1, .long w_1), (3, .ref p6), (4, .int (Int32.ofNat (kn Y p6))), (5, .int 0)]) [1, 2, 3, 0] dX8_checksum_180 (by decide) rfl ?_
      exact T_X8_checksum_182 (G := G) FU w_1 p6 (Int32.ofNat (kn Y p6)) 0 N h
    · refine x_icmp_ge_f (tgt := 170) dX8_checksum_85 (by decide) c5 ?_
      refine x_iconst (v := 0) dX8_checksum_88 rfl ?_
      refine x_istore (L' := [(0, .ref p_0), (1, .long w_1), (3, .int v_3), (4, .int 0)]) [1, 2, 3, 0] dX8_checksum_89 (by decide) rfl ?_
      exact T_X8_checksum_91 (G := G) ih FU p_0 w_1 v_3 0 N h
set_option maxHeartbeats 4000000 in
set_option maxRecDepth 100000 in
theorem T_X8_checksum_43 {G : XG} {tb : List ExceptionTableEntry} {Y : XY} {rz : Int64} {Nz : XN} {K31 : Nat → Int64 → Int32 → XN → Option (Int64 × XN)} (hK31 : ∀ (p_0 : Nat) (w_1 : Int64) (v_3 : Int32) (N : XN), K31 p_0 w_1 v_3 N = some (rz, Nz) → ExZ G yX8_checksum cX8_checksum 8 (some .long) tb (xR 3 0 0) (xZn G (xR 3 0 0) (some (.long rz)) Y Nz) 0 0 31 [(0, .ref p_0), (1, .long w_1), (3, .int v_3)] [] Y N) : ∀ (D9 : Nat) (p_0 : Nat) (w_1 : Int64) (v_3 : Int32) (v_4 : Int32) (N : XN), f_X8_checksum_43 Y K31 D9 p_0 w_1 v_3 v_4 N = some (rz, Nz) → ExZ G yX8_checksum cX8_checksum 8 (some .long) tb (xR 3 0 0) (xZn G (xR 3 0 0) (some (.long rz)) Y Nz) 0 0 43 [(0, .ref p_0), (1, .long w_1), (3, .int v_3), (4, .int v_4)] [] Y N := by
  intro D9
  induction D9 with
  | zero => intro p_0 w_1 v_3 v_4 N h; exact nomatch (show none = some _ from h)
  | succ D9 ih =>
    intro p_0 w_1 v_3 v_4 N h
    rw [f_X8_checksum_43] at h
    refine x_iload 3 dX8_checksum_43 rfl ?_
    refine x_bipush (v := 8) dX8_checksum_45 rfl ?_
    rcases x_if h with ⟨c1, h⟩ | ⟨c1, h⟩
    · refine x_icmp_ge_t (tgt := 71) dX8_checksum_47 (by decide) c1 ?_
      refine x_iinc (L' := [(0, .ref p_0), (1, .long w_1), (3, .int (v_3 + 1))]) 2 [1, 2, 0] dX8_checksum_71 rfl rfl (by decide) rfl ?_
      refine x_goto (tgt := 31) dX8_checksum_74 (by decide) ?_
      exact hK31 p_0 w_1 (v_3 + 1) N h
    · refine x_icmp_ge_f (tgt := 71) dX8_checksum_47 (by decide) c1 ?_
      refine x_ldc2 (v := 31) dX8_checksum_50 kl_X8_107 ?_
      refine x_lload_n 1 dX8_checksum_53 rfl rfl ?_
      refine x_lmul dX8_checksum_54 ?_
      refine x_aload_n 0 dX8_checksum_55 rfl rfl ?_
      refine x_iload_n 2 dX8_checksum_56 rfl rfl ?_
      refine x_iload 3 dX8_checksum_57 rfl ?_
      obtain ⟨c2, h⟩ := x_ckk h
      obtain ⟨r3, N5, e4, h⟩ := x_bd2 h
      refine x_nV (b := p_0) (As := [.int v_3, .int v_4]) (ci := 8) (R' := xR 2 0 0) (zz := yX8_ofHandler) dX8_checksum_59 ml_X8_112 wi_X8_ofHandler wv_X8_ofHandler wn_X8 wc_X8_ofHandler hp_X8_ofHandler ⟨Nat.le_of_ble_eq_true rfl, Nat.le_of_ble_eq_true rfl⟩ rfl (Nat.le_of_ble_eq_true rfl) ⟨Nat.le_refl _, Nat.le_refl _⟩ vc_X8 c2 (T_X8_ofHandler (G := G) e4) ?_
      refine x_i2l dX8_checksum_62 ?_
      refine x_ladd dX8_checksum_63 ?_
      obtain ⟨w6, ew6, h⟩ := x_lt h
      refine x_nml ew6 ?_
      refine x_lstore_n (L' := [(0, .ref p_0), (1, .long w6), (3, .int v_3), (4, .int v_4)]) [1, 0, 2, 3] dX8_checksum_64 rfl (by decide) rfl ?_
      refine x_iinc (L' := [(0, .ref p_0), (1, .long w6), (3, .int v_3), (4, .int (v_4 + 1))]) 3 [1, 2, 3, 0] dX8_checksum_65 rfl rfl (by decide) rfl ?_
      refine x_goto (tgt := 43) dX8_checksum_68 (by decide) ?_
      exact ih p_0 w6 v_3 (v_4 + 1) N5 h
set_option maxHeartbeats 4000000 in
set_option maxRecDepth 100000 in
theorem T_X8_checksum_31 {G : XG} {tb : List ExceptionTableEntry} {Y : XY} {rz : Int64} {Nz : XN} : ∀ (D9 : Nat) (p_0 : Nat) (w_1 : Int64) (v_3 : Int32) (N : XN), f_X8_checksum_31 Y D9 p_0 w_1 v_3 N = some (rz, Nz) → ExZ G yX8_checksum cX8_checksum 8 (some .long) tb (xR 3 0 0) (xZn G (xR 3 0 0) (some (.long rz)) Y Nz) 0 0 31 [(0, .ref p_0), (1, .long w_1), (3, .int v_3)] [] Y N := by
  intro D9
  induction D9 with
  | zero => intro p_0 w_1 v_3 N h; exact nomatch (show none = some _ from h)
  | succ D9 ih =>
    intro p_0 w_1 v_3 N h
    rw [f_X8_checksum_31] at h
    refine x_iload_n 2 dX8_checksum_31 rfl rfl ?_
    refine x_aload_n 0 dX8_checksum_32 rfl rfl ?_
    obtain ⟨c1, h⟩ := x_ckk h
    obtain ⟨c3, h⟩ := x_ckk h
    obtain ⟨p2, lp2, h⟩ := x_lt h
    have ep2 : gr Y p_0 3 = some p2 := by rw [lp2]; exact c3
    refine x_getr dX8_checksum_33 vc_X8 xin8 fb_X8_3 fl_X8_14 xr_X8_3 c1 ep2 ?_
    obtain ⟨c4, h⟩ := x_ckk h
    refine x_rlen (j := 4) dX8_checksum_36 (by decide) c4 rfl ?_
    rcases x_if h with ⟨c5, h⟩ | ⟨c5, h⟩
    · refine x_icmp_ge_t (tgt := 77) dX8_checksum_37 (by decide) c5 ?_
      refine x_iconst (v := 0) dX8_checksum_77 rfl ?_
      refine x_istore_n (L' := [(0, .ref p_0), (1, .long w_1), (3, .int 0)]) [1, 2, 0] dX8_checksum_78 rfl (by decide) rfl ?_
      exact T_X8_checksum_79 (G := G) FU p_0 w_1 0 N h
    · refine x_icmp_ge_f (tgt := 77) dX8_checksum_37 (by decide) c5 ?_
      refine x_iconst (v := 0) dX8_checksum_40 rfl ?_
      refine x_istore (L' := [(0, .ref p_0), (1, .long w_1), (3, .int v_3), (4, .int 0)]) [1, 2, 3, 0] dX8_checksum_41 (by decide) rfl ?_
      exact T_X8_checksum_43 (G := G) ih FU p_0 w_1 v_3 0 N h
set_option maxHeartbeats 4000000 in
set_option maxRecDepth 100000 in
theorem T_X8_checksum_4 {G : XG} {tb : List ExceptionTableEntry} {Y : XY} {rz : Int64} {Nz : XN} : ∀ (D9 : Nat) (p_0 : Nat) (w_1 : Int64) (v_3 : Int32) (N : XN), f_X8_checksum_4 Y D9 p_0 w_1 v_3 N = some (rz, Nz) → ExZ G yX8_checksum cX8_checksum 8 (some .long) tb (xR 3 0 0) (xZn G (xR 3 0 0) (some (.long rz)) Y Nz) 0 0 4 [(0, .ref p_0), (1, .long w_1), (3, .int v_3)] [] Y N := by
  intro D9
  induction D9 with
  | zero => intro p_0 w_1 v_3 N h; exact nomatch (show none = some _ from h)
  | succ D9 ih =>
    intro p_0 w_1 v_3 N h
    rw [f_X8_checksum_4] at h
    refine x_iload_n 2 dX8_checksum_4 rfl rfl ?_
    refine x_bipush (v := 10) dX8_checksum_5 rfl ?_
    rcases x_if h with ⟨c1, h⟩ | ⟨c1, h⟩
    · refine x_icmp_ge_t (tgt := 29) dX8_checksum_7 (by decide) c1 ?_
      refine x_iconst (v := 0) dX8_checksum_29 rfl ?_
      refine x_istore_n (L' := [(0, .ref p_0), (1, .long w_1), (3, .int 0)]) [1, 2, 0] dX8_checksum_30 rfl (by decide) rfl ?_
      exact T_X8_checksum_31 (G := G) FU p_0 w_1 0 N h
    · refine x_icmp_ge_f (tgt := 29) dX8_checksum_7 (by decide) c1 ?_
      refine x_ldc2 (v := 31) dX8_checksum_10 kl_X8_107 ?_
      refine x_lload_n 1 dX8_checksum_13 rfl rfl ?_
      refine x_lmul dX8_checksum_14 ?_
      refine x_aload_n 0 dX8_checksum_15 rfl rfl ?_
      refine x_iload_n 2 dX8_checksum_16 rfl rfl ?_
      obtain ⟨c2, h⟩ := x_ckk h
      obtain ⟨r3, N5, e4, h⟩ := x_bd2 h
      refine x_nV (b := p_0) (As := [.int v_3]) (ci := 8) (R' := xR 2 0 0) (zz := yX8_told) dX8_checksum_17 ml_X8_109 wi_X8_told wv_X8_told wn_X8 wc_X8_told hp_X8_told ⟨Nat.le_of_ble_eq_true rfl, Nat.le_of_ble_eq_true rfl⟩ rfl (Nat.le_of_ble_eq_true rfl) ⟨Nat.le_refl _, Nat.le_refl _⟩ vc_X8 c2 (T_X8_told (G := G) e4) ?_
      refine x_i2l dX8_checksum_20 ?_
      refine x_ladd dX8_checksum_21 ?_
      obtain ⟨w6, ew6, h⟩ := x_lt h
      refine x_nml ew6 ?_
      refine x_lstore_n (L' := [(0, .ref p_0), (1, .long w6), (3, .int v_3)]) [1, 0, 2] dX8_checksum_22 rfl (by decide) rfl ?_
      refine x_iinc (L' := [(0, .ref p_0), (1, .long w6), (3, .int (v_3 + 1))]) 2 [1, 2, 0] dX8_checksum_23 rfl rfl (by decide) rfl ?_
      refine x_goto (tgt := 4) dX8_checksum_26 (by decide) ?_
      exact ih p_0 w6 (v_3 + 1) N5 h
set_option maxHeartbeats 4000000 in
set_option maxRecDepth 100000 in
theorem T_X8_checksum {G : XG} {Y : XY} {a0 : Nat} {N : XN} {rz : Int64} {Nz : XN} (h : f_X8_checksum Y a0 N = some (rz, Nz)) : Cn G yX8_checksum cX8_checksum 8 (some .long) (xR 3 0 0) [.ref a0] (some (.long rz)) Y N Y Nz := by
  refine x_entryN (by decide) (Nat.le_of_ble_eq_true rfl) rfl fun tb => ?_
  rw [f_X8_checksum] at h
  refine x_lconst (v := 0) dX8_checksum_0 rfl ?_
  refine x_lstore_n (L' := [(0, .ref a0), (1, .long 0)]) [1, 0] dX8_checksum_1 rfl (by decide) rfl ?_
  refine x_iconst (v := 0) dX8_checksum_2 rfl ?_
  refine x_istore_n (L' := [(0, .ref a0), (1, .long 0), (3, .int 0)]) [1, 2, 0] dX8_checksum_3 rfl (by decide) rfl ?_
  exact T_X8_checksum_4 (G := G) FU a0 0 0 N h
