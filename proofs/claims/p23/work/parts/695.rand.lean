set_option maxHeartbeats 4000000 in
set_option maxRecDepth 100000 in
theorem T_L_randomDesk_636 {G : XG} {tb : List ExceptionTableEntry} {rz : Nat} {Yz : XY} {qz : Nat} {Nz : XN} {K597 : XY → Nat → Nat → Nat → Nat → Nat → Int32 → Nat → Nat → XN → Option (Nat × XY × Nat × XN)} (hK597 : ∀ (Y : XY) (q : Nat) (p_0 : Nat) (p_1 : Nat) (p_2 : Nat) (p_3 : Nat) (v_5 : Int32) (k : Nat) (n : Nat) (N : XN), K597 Y q p_0 p_1 p_2 p_3 v_5 k n N = some (rz, Yz, qz, Nz) → ExZ G yL_randomDesk cL_randomDesk 10 (some (.object "LineLeasesLaw$Desk")) tb (xR 33 400 40000) (xZn G (xR 33 400 40000) (some (.ref rz)) Yz Nz) k n 597 [(0, .ref p_0), (1, .ref p_1), (2, .ref p_2), (3, .ref p_3), (5, .int v_5)] [] Y N) (Y : XY) (q : Nat) (p_0 : Nat) (p_1 : Nat) (p_2 : Nat) (p_3 : Nat) (v_5 : Int32) (s0 : Int32) (o1 : Nat) (s2 : Int32) (s3 : Int32) (o4 : Nat) (k : Nat) (n : Nat) (N : XN) (h : f_L_randomDesk_636 (xS G) (xSv G) K597 Y q p_0 p_1 p_2 p_3 v_5 s0 o1 s2 s3 o4 k n N = some (rz, Yz, qz, Nz)) : ExZ G yL_randomDesk cL_randomDesk 10 (some (.object "LineLeasesLaw$Desk")) tb (xR 33 400 40000) (xZn G (xR 33 400 40000) (some (.ref rz)) Yz Nz) k n 636 [(0, .ref p_0), (1, .ref p_1), (2, .ref p_2), (3, .ref p_3), (5, .int v_5)] [.int s0, .ref o1, .int s2, .int s3, .ref o4] Y N := by
  rw [f_L_randomDesk_636] at h
  obtain ⟨c1, h⟩ := x_ckk h
  obtain ⟨c2, h⟩ := x_ckk h
  obtain ⟨r3, N5, e4, h⟩ := x_bd2 h
  refine x_nV (b := o1) (As := [.int s0]) (ci := 10) (R' := xR 1 0 0) (zz := yX10_below) dL_randomDesk_636 ml_L_118 wi_X10_below wv_X10_below wn_X10 wc_X10_below hp_X10_below ⟨Nat.le_of_ble_eq_true rfl, Nat.le_of_ble_eq_true rfl⟩ rfl (Nat.le_of_ble_eq_true rfl) c2 vc_X10 c1 (T_X10_below (G := G) e4) ?_
  refine x_iadd dL_randomDesk_639 ?_
  obtain ⟨c6, h⟩ := x_ckk h
  obtain ⟨c7, h⟩ := x_ckk h
  refine x_iast dL_randomDesk_640 c6 (xb_in c7) rfl ?_
  obtain ⟨N8, eN8, h⟩ := x_lt h
  refine x_nmM eN8 ?_
  refine x_aload_n 0 dL_randomDesk_641 rfl rfl ?_
  refine x_aload_n 1 dL_randomDesk_642 rfl rfl ?_
  refine x_getsJ (i := 103) dL_randomDesk_643 (by decide) fs_L_159 ?_
  refine x_iload 4 dL_randomDesk_646 rfl ?_
  obtain ⟨c9, h⟩ := x_ckk h
  obtain ⟨c10, h⟩ := x_ckk h
  obtain ⟨c12, h⟩ := x_ckk h
  obtain ⟨p11, lp11, h⟩ := x_lt h
  have ep11 : gr Y (xSv G 103) v_5.toNatClampNeg = some p11 := by rw [lp11]; exact c12
  refine x_aaldF dL_randomDesk_648 c9 (xb_in c10) ep11 ?_
  refine x_iconst (v := 1) dL_randomDesk_649 rfl ?_
  obtain ⟨c13, h⟩ := x_ckk h
  obtain ⟨c14, h⟩ := x_ckk h
  refine x_newP (q := q) (M := 1) (kd := 1) dL_randomDesk_650 rfl ac9_int (by decide) rfl (by decide) (Or.inl ⟨rfl, rfl, rfl⟩) c13.1 c14 ?_
  obtain ⟨Y15, eY15, h⟩ := x_lt h
  refine x_nmY eY15 ?_
  obtain ⟨N16, eN16, h⟩ := x_lt h
  refine x_nmM eN16 ?_
  have k17 : kc Y15 q = 1 := by rw [eY15]; exact kcq rfl
  refine x_dup dL_randomDesk_652 rfl ?_
  refine x_iconst (v := 0) dL_randomDesk_653 rfl ?_
  refine x_aload_n 3 dL_randomDesk_654 rfl rfl ?_
  obtain ⟨c18, h⟩ := x_ckk h
  obtain ⟨c20, h⟩ := x_ckk h
  obtain ⟨p19, lp19, h⟩ := x_lt h
  have ep19 : gr Y15 p_3 2 = some p19 := by rw [lp19]; exact c20
  refine x_getr dL_randomDesk_655 vc_X8 xin8 fb_X8_2 fl_L_156 xr_X8_2 c18 ep19 ?_
  refine x_iload 4 dL_randomDesk_658 rfl ?_
  obtain ⟨c21, h⟩ := x_ckk h
  obtain ⟨c22, h⟩ := x_ckk h
  refine x_iald dL_randomDesk_660 c21 (xb_in c22) rfl ?_
  obtain ⟨c23, h⟩ := x_ckk h
  refine x_iast dL_randomDesk_661 k17 (xb_in c23) xj_0 ?_
  obtain ⟨N24, eN24, h⟩ := x_lt h
  refine x_nmM eN24 ?_
  obtain ⟨w25, h⟩ := x_ckW h
  obtain ⟨N27, e26, h⟩ := x_bd1 h
  refine x_nS (As := [.ref p_0, .ref p_1, .ref p11, .ref q]) (R' := xR 6 0 0) (zz := yL_writeNumbers) dL_randomDesk_662 ml_L_132 wt_L_writeNumbers wn_L wc_L_writeNumbers hp_L_writeNumbers ⟨Nat.le_of_ble_eq_true rfl, Nat.le_of_ble_eq_true rfl⟩ rfl (Nat.le_of_ble_eq_true rfl) c14 (T_L_writeNumbers (G := G) w25 e26) ?_
  refine x_aload_n 0 dL_randomDesk_665 rfl rfl ?_
  refine x_aload_n 1 dL_randomDesk_666 rfl rfl ?_
  refine x_ldcS (tx := ";") (i := 16) dL_randomDesk_667 (by decide) ?_
  obtain ⟨w28, h⟩ := x_ckW h
  obtain ⟨N30, e29, h⟩ := x_bd1 h
  refine x_nS (As := [.ref p_0, .ref p_1, .ref (xS G 16)]) (R' := xR 5 0 0) (zz := yL_write) dL_randomDesk_669 ml_L_104 wt_L_write wn_L wc_L_write hp_L_write ⟨Nat.le_of_ble_eq_true rfl, Nat.le_of_ble_eq_true rfl⟩ rfl (Nat.le_of_ble_eq_true rfl) c14 (T_L_write (G := G) w28 e29) ?_
  refine x_iinc (L' := [(0, .ref p_0), (1, .ref p_1), (2, .ref p_2), (3, .ref p_3), (5, .int (v_5 + 1))]) 4 [1, 2, 3, 4, 0] dL_randomDesk_672 rfl rfl (by decide) rfl ?_
  refine x_goto (tgt := 597) dL_randomDesk_675 (by decide) ?_
  exact hK597 Y15 (q + 1) p_0 p_1 p_2 p_3 (v_5 + 1) (k + 1) (n + 1) N30 h
set_option maxHeartbeats 4000000 in
set_option maxRecDepth 100000 in
theorem T_L_randomDesk_597 {G : XG} {tb : List ExceptionTableEntry} {rz : Nat} {Yz : XY} {qz : Nat} {Nz : XN} : ∀ (D9 : Nat) (Y : XY) (q : Nat) (p_0 : Nat) (p_1 : Nat) (p_2 : Nat) (p_3 : Nat) (v_5 : Int32) (k : Nat) (n : Nat) (N : XN), f_L_randomDesk_597 (xS G) (xSv G) D9 Y q p_0 p_1 p_2 p_3 v_5 k n N = some (rz, Yz, qz, Nz) → ExZ G yL_randomDesk cL_randomDesk 10 (some (.object "LineLeasesLaw$Desk")) tb (xR 33 400 40000) (xZn G (xR 33 400 40000) (some (.ref rz)) Yz Nz) k n 597 [(0, .ref p_0), (1, .ref p_1), (2, .ref p_2), (3, .ref p_3), (5, .int v_5)] [] Y N := by
  intro D9
  induction D9 with
  | zero => intro Y q p_0 p_1 p_2 p_3 v_5 k n N h; exact nomatch (show none = some _ from h)
  | succ D9 ih =>
    intro Y q p_0 p_1 p_2 p_3 v_5 k n N h
    rw [f_L_randomDesk_597] at h
    refine x_iload 4 dL_randomDesk_597 rfl ?_
    refine x_iconst (v := 5) dL_randomDesk_599 rfl ?_
    rcases x_if h with ⟨c1, h⟩ | ⟨c1, h⟩
    · refine x_icmp_ge_t (tgt := 678) dL_randomDesk_600 (by decide) c1 ?_
      refine x_aload_n 2 dL_randomDesk_678 rfl rfl ?_
      refine x_iconst (v := 2) dL_randomDesk_679 rfl ?_
      obtain ⟨c2, h⟩ := x_ckk h
      obtain ⟨c3, h⟩ := x_ckk h
      obtain ⟨r4, N6, e5, h⟩ := x_bd2 h
      refine x_nV (b := p_2) (As := [.int 2]) (ci := 10) (R' := xR 1 0 0) (zz := yX10_below) dL_randomDesk_680 ml_L_118 wi_X10_below wv_X10_below wn_X10 wc_X10_below hp_X10_below ⟨Nat.le_of_ble_eq_true rfl, Nat.le_of_ble_eq_true rfl⟩ rfl (Nat.le_of_ble_eq_true rfl) c3 vc_X10 c2 (T_X10_below (G := G) e5) ?_
      rcases x_if h with ⟨c7, h⟩ | ⟨c7, h⟩
      · refine x_if_ne_f (tgt := 726) dL_randomDesk_683 (by decide) c7 ?_
        refine x_aload_n 3 dL_randomDesk_686 rfl rfl ?_
        refine x_aload_n 2 dL_randomDesk_687 rfl rfl ?_
        refine x_aload_n 2 dL_randomDesk_688 rfl rfl ?_
        refine x_iconst (v := 3) dL_randomDesk_689 rfl ?_
        obtain ⟨r8, N10, e9, h⟩ := x_bd2 h
        refine x_nV (b := p_2) (As := [.int 3]) (ci := 10) (R' := xR 1 0 0) (zz := yX10_below) dL_randomDesk_690 ml_L_118 wi_X10_below wv_X10_below wn_X10 wc_X10_below hp_X10_below ⟨Nat.le_of_ble_eq_true rfl, Nat.le_of_ble_eq_true rfl⟩ rfl (Nat.le_of_ble_eq_true rfl) c3 vc_X10 c2 (T_X10_below (G := G) e9) ?_
        obtain ⟨c11, h⟩ := x_ckk h
        obtain ⟨r12, Y14, q15, N16, e13, h⟩ := x_bd4 h
        refine x_nS (As := [.ref p_2, .int r8]) (R' := xR 5 7 28) (zz := yX9_random) dL_randomDesk_693 ml_L_163 wt_X9_random wn_X9 wc_X9_random hp_X9_random ⟨Nat.le_of_ble_eq_true rfl, Nat.le_of_ble_eq_true rfl⟩ rfl (Nat.le_of_ble_eq_true rfl) c11 (T_X9_random_at (G := G) e13) ?_
        obtain ⟨c17, h⟩ := x_ckk h
        refine x_putr dL_randomDesk_696 vc_X8 xin8 tyX8_ok nmX8 fb_X8_7 fl_L_169 ff_X8_7 xr_X8_7 rfl rfl c17 ?_
        obtain ⟨Y18, eY18, h⟩ := x_lt h
        refine x_nmY eY18 ?_
        refine x_aload_n 0 dL_randomDesk_699 rfl rfl ?_
        refine x_aload_n 1 dL_randomDesk_700 rfl rfl ?_
        refine x_ldcS (tx := "fine ") (i := 20) dL_randomDesk_701 (by decide) ?_
        obtain ⟨w19, h⟩ := x_ckW h
        obtain ⟨N21, e20, h⟩ := x_bd1 h
        refine x_nS (As := [.ref p_0, .ref p_1, .ref (xS G 20)]) (R' := xR 5 0 0) (zz := yL_write) dL_randomDesk_703 ml_L_104 wt_L_write wn_L wc_L_write hp_L_write ⟨Nat.le_of_ble_eq_true rfl, Nat.le_of_ble_eq_true rfl⟩ rfl (Nat.le_of_ble_eq_true rfl) c11 (T_L_write (G := G) w19 e20) ?_
        refine x_aload_n 0 dL_randomDesk_706 rfl rfl ?_
        refine x_aload_n 1 dL_randomDesk_707 rfl rfl ?_
        refine x_aload_n 3 dL_randomDesk_708 rfl rfl ?_
        have k22 : kc Y18 p_3 = 18 := by rw [eY18]; exact c17
        obtain ⟨c24, h⟩ := x_ckk h
        obtain ⟨p23, lp23, h⟩ := x_lt h
        have ep23 : gr Y18 p_3 7 = some p23 := by rw [lp23]; exact c24
        refine x_getr dL_randomDesk_709 vc_X8 xin8 fb_X8_7 fl_L_169 xr_X8_7 k22 ep23 ?_
        refine x_iconst (v := 0) dL_randomDesk_712 rfl ?_
        obtain ⟨c25, h⟩ := x_ckk h
        obtain ⟨c26, h⟩ := x_ckk h
        obtain ⟨r27, Y29, q30, N31, e28, h⟩ := x_bd4 h
        refine x_nV (b := p23) (As := [.int 0]) (ci := 9) (R' := xR 10 119 23100) (zz := yX9_text) dL_randomDesk_713 ml_L_175 wi_X9_text wv_X9_text wn_X9 wc_X9_text hp_X9_text ⟨Nat.le_of_ble_eq_true rfl, Nat.le_of_ble_eq_true rfl⟩ rfl (Nat.le_of_ble_eq_true rfl) c26 vc_X9 c25 (T_X9_text_at (G := G) e28) ?_
        obtain ⟨w32, h⟩ := x_ckW h
        obtain ⟨N34, e33, h⟩ := x_bd1 h
        refine x_nS (As := [.ref p_0, .ref p_1, .ref r27]) (R' := xR 5 0 0) (zz := yL_write) dL_randomDesk_716 ml_L_104 wt_L_write wn_L wc_L_write hp_L_write ⟨Nat.le_of_ble_eq_true rfl, Nat.le_of_ble_eq_true rfl⟩ rfl (Nat.le_of_ble_eq_true rfl) c26 (T_L_write (G := G) w32 e33) ?_
        refine x_aload_n 0 dL_randomDesk_719 rfl rfl ?_
        refine x_aload_n 1 dL_randomDesk_720 rfl rfl ?_
        refine x_ldcS (tx := " ;") (i := 21) dL_randomDesk_721 (by decide) ?_
        obtain ⟨w35, h⟩ := x_ckW h
        obtain ⟨N37, e36, h⟩ := x_bd1 h
        refine x_nS (As := [.ref p_0, .ref p_1, .ref (xS G 21)]) (R' := xR 5 0 0) (zz := yL_write) dL_randomDesk_723 ml_L_104 wt_L_write wn_L wc_L_write hp_L_write ⟨Nat.le_of_ble_eq_true rfl, Nat.le_of_ble_eq_true rfl⟩ rfl (Nat.le_of_ble_eq_true rfl) c26 (T_L_write (G := G) w35 e36) ?_
        refine x_aload_n 0 dL_randomDesk_726 rfl rfl ?_
        refine x_aload_n 1 dL_randomDesk_727 rfl rfl ?_
        obtain ⟨w38, h⟩ := x_ckW h
        obtain ⟨r39, Y41, q42, N43, e40, h⟩ := x_bd4 h
        refine x_nS (As := [.ref p_0, .ref p_1]) (R' := xR 32 0 0) (zz := yL_loadText) dL_randomDesk_728 ml_L_181 wt_L_loadText wn_L wc_L_loadText hp_L_loadText ⟨Nat.le_of_ble_eq_true rfl, Nat.le_of_ble_eq_true rfl⟩ rfl (Nat.le_of_ble_eq_true rfl) c26 (T_L_loadText (G := G) e40) ?_
        refine x_aload_n 3 dL_randomDesk_731 rfl rfl ?_
        obtain ⟨c44, h⟩ := x_ckk h
        obtain ⟨c46, h⟩ := x_ckk h
        obtain ⟨p45, lp45, h⟩ := x_lt h
        have ep45 : gr Y41 p_3 6 = some p45 := by rw [lp45]; exact c46
        refine x_getr dL_randomDesk_732 vc_X8 xin8 fb_X8_6 fl_L_152 xr_X8_6 c44 ep45 ?_
        obtain ⟨c47, h⟩ := x_ckk h
        refine x_rlen (j := 4) dL_randomDesk_735 (by decide) c47 rfl ?_
        obtain ⟨c48, h⟩ := x_ckk h
        refine x_icmp_ne_f (tgt := 743) dL_randomDesk_736 (by decide) c48 ?_
        refine x_aload_n 3 dL_randomDesk_739 rfl rfl ?_
        refine x_goto (tgt := 744) dL_randomDesk_740 (by decide) ?_
        refine x_wide (k' := 400) (n' := 40000) c26 ?_
        obtain ⟨rfl, h8⟩ := Prod.mk.inj (x_so h)
        obtain ⟨rfl, h7⟩ := Prod.mk.inj h8
        obtain ⟨rfl, rfl⟩ := Prod.mk.inj h7
        exact x_naret dL_randomDesk_744 rfl (Or.inl ⟨_, rfl⟩) rfl rfl
      · refine x_if_ne_t (tgt := 726) dL_randomDesk_683 (by decide) c7 ?_
        refine x_aload_n 0 dL_randomDesk_726 rfl rfl ?_
        refine x_aload_n 1 dL_randomDesk_727 rfl rfl ?_
        obtain ⟨w49, h⟩ := x_ckW h
        obtain ⟨r50, Y52, q53, N54, e51, h⟩ := x_bd4 h
        refine x_nS (As := [.ref p_0, .ref p_1]) (R' := xR 32 0 0) (zz := yL_loadText) dL_randomDesk_728 ml_L_181 wt_L_loadText wn_L wc_L_loadText hp_L_loadText ⟨Nat.le_of_ble_eq_true rfl, Nat.le_of_ble_eq_true rfl⟩ rfl (Nat.le_of_ble_eq_true rfl) c3 (T_L_loadText (G := G) e51) ?_
        refine x_aload_n 3 dL_randomDesk_731 rfl rfl ?_
        obtain ⟨c55, h⟩ := x_ckk h
        obtain ⟨c57, h⟩ := x_ckk h
        obtain ⟨p56, lp56, h⟩ := x_lt h
        have ep56 : gr Y52 p_3 6 = some p56 := by rw [lp56]; exact c57
        refine x_getr dL_randomDesk_732 vc_X8 xin8 fb_X8_6 fl_L_152 xr_X8_6 c55 ep56 ?_
        obtain ⟨c58, h⟩ := x_ckk h
        refine x_rlen (j := 4) dL_randomDesk_735 (by decide) c58 rfl ?_
        obtain ⟨c59, h⟩ := x_ckk h
        refine x_icmp_ne_f (tgt := 743) dL_randomDesk_736 (by decide) c59 ?_
        refine x_aload_n 3 dL_randomDesk_739 rfl rfl ?_
        refine x_goto (tgt := 744) dL_randomDesk_740 (by decide) ?_
        refine x_wide (k' := 400) (n' := 40000) c3 ?_
        obtain ⟨rfl, h8⟩ := Prod.mk.inj (x_so h)
        obtain ⟨rfl, h7⟩ := Prod.mk.inj h8
        obtain ⟨rfl, rfl⟩ := Prod.mk.inj h7
        exact x_naret dL_randomDesk_744 rfl (Or.inl ⟨_, rfl⟩) rfl rfl
    · refine x_icmp_ge_f (tgt := 678) dL_randomDesk_600 (by decide) c1 ?_
      refine x_aload_n 2 dL_randomDesk_603 rfl rfl ?_
      refine x_iconst (v := 2) dL_randomDesk_604 rfl ?_
      obtain ⟨c60, h⟩ := x_ckk h
      obtain ⟨c61, h⟩ := x_ckk h
      obtain ⟨r62, N64, e63, h⟩ := x_bd2 h
      refine x_nV (b := p_2) (As := [.int 2]) (ci := 10) (R' := xR 1 0 0) (zz := yX10_below) dL_randomDesk_605 ml_L_118 wi_X10_below wv_X10_below wn_X10 wc_X10_below hp_X10_below ⟨Nat.le_of_ble_eq_true rfl, Nat.le_of_ble_eq_true rfl⟩ rfl (Nat.le_of_ble_eq_true rfl) c61 vc_X10 c60 (T_X10_below (G := G) e63) ?_
      rcases x_if h with ⟨c65, h⟩ | ⟨c65, h⟩
      · refine x_if_ne_f (tgt := 614) dL_randomDesk_608 (by decide) c65 ?_
        refine x_goto (tgt := 672) dL_randomDesk_611 (by decide) ?_
        refine x_iinc (L' := [(0, .ref p_0), (1, .ref p_1), (2, .ref p_2), (3, .ref p_3), (5, .int (v_5 + 1))]) 4 [1, 2, 3, 4, 0] dL_randomDesk_672 rfl rfl (by decide) rfl ?_
        refine x_goto (tgt := 597) dL_randomDesk_675 (by decide) ?_
        exact ih Y q p_0 p_1 p_2 p_3 (v_5 + 1) k n N64 h
      · refine x_if_ne_t (tgt := 614) dL_randomDesk_608 (by decide) c65 ?_
        refine x_aload_n 3 dL_randomDesk_614 rfl rfl ?_
        obtain ⟨c66, h⟩ := x_ckk h
        obtain ⟨c68, h⟩ := x_ckk h
        obtain ⟨p67, lp67, h⟩ := x_lt h
        have ep67 : gr Y p_3 2 = some p67 := by rw [lp67]; exact c68
        refine x_getr dL_randomDesk_615 vc_X8 xin8 fb_X8_2 fl_L_156 xr_X8_2 c66 ep67 ?_
        refine x_iload 4 dL_randomDesk_618 rfl ?_
        refine x_iconst (v := 1) dL_randomDesk_620 rfl ?_
        refine x_aload_n 2 dL_randomDesk_621 rfl rfl ?_
        refine x_aload_n 2 dL_randomDesk_622 rfl rfl ?_
        refine x_iconst (v := 3) dL_randomDesk_623 rfl ?_
        obtain ⟨r69, N71, e70, h⟩ := x_bd2 h
        refine x_nV (b := p_2) (As := [.int 3]) (ci := 10) (R' := xR 1 0 0) (zz := yX10_below) dL_randomDesk_624 ml_L_118 wi_X10_below wv_X10_below wn_X10 wc_X10_below hp_X10_below ⟨Nat.le_of_ble_eq_true rfl, Nat.le_of_ble_eq_true rfl⟩ rfl (Nat.le_of_ble_eq_true rfl) c61 vc_X10 c60 (T_X10_below (G := G) e70) ?_
        rcases x_if h with ⟨c72, h⟩ | ⟨c72, h⟩
        · refine x_if_ne_f (tgt := 635) dL_randomDesk_627 (by decide) c72 ?_
          refine x_bipush (v := 20) dL_randomDesk_630 rfl ?_
          refine x_goto (tgt := 636) dL_randomDesk_632 (by decide) ?_
          exact T_L_randomDesk_636 (G := G) ih Y q p_0 p_1 p_2 p_3 v_5 20 p_2 1 v_5 p67 k n N71 h
        · refine x_if_ne_t (tgt := 635) dL_randomDesk_627 (by decide) c72 ?_
          refine x_iconst (v := 5) dL_randomDesk_635 rfl ?_
          exact T_L_randomDesk_636 (G := G) ih Y q p_0 p_1 p_2 p_3 v_5 5 p_2 1 v_5 p67 k n N71 h
set_option maxHeartbeats 4000000 in
set_option maxRecDepth 100000 in
theorem T_L_randomDesk_473 {G : XG} {tb : List ExceptionTableEntry} {rz : Nat} {Yz : XY} {qz : Nat} {Nz : XN} {K406 : XY → Nat → Nat → Nat → Nat → Nat → Int32 → Nat → Nat → XN → Option (Nat × XY × Nat × XN)} (hK406 : ∀ (Y : XY) (q : Nat) (p_0 : Nat) (p_1 : Nat) (p_2 : Nat) (p_3 : Nat) (v_5 : Int32) (k : Nat) (n : Nat) (N : XN), K406 Y q p_0 p_1 p_2 p_3 v_5 k n N = some (rz, Yz, qz, Nz) → ExZ G yL_randomDesk cL_randomDesk 10 (some (.object "LineLeasesLaw$Desk")) tb (xR 33 400 40000) (xZn G (xR 33 400 40000) (some (.ref rz)) Yz Nz) k n 406 [(0, .ref p_0), (1, .ref p_1), (2, .ref p_2), (3, .ref p_3), (5, .int v_5)] [] Y N) (Y : XY) (q : Nat) (p_0 : Nat) (p_1 : Nat) (p_2 : Nat) (p_3 : Nat) (v_5 : Int32) (s0 : Int32) (o1 : Nat) (s2 : Int32) (s3 : Int32) (o4 : Nat) (o5 : Nat) (o6 : Nat) (o7 : Nat) (k : Nat) (n : Nat) (N : XN) (h : f_L_randomDesk_473 (xS G) (xSv G) K406 Y q p_0 p_1 p_2 p_3 v_5 s0 o1 s2 s3 o4 o5 o6 o7 k n N = some (rz, Yz, qz, Nz)) : ExZ G yL_randomDesk cL_randomDesk 10 (some (.object "LineLeasesLaw$Desk")) tb (xR 33 400 40000) (xZn G (xR 33 400 40000) (some (.ref rz)) Yz Nz) k n 473 [(0, .ref p_0), (1, .ref p_1), (2, .ref p_2), (3, .ref p_3), (5, .int v_5)] [.int s0, .ref o1, .int s2, .int s3, .ref o4, .ref o5, .ref o6, .ref o7] Y N := by
  rw [f_L_randomDesk_473] at h
  obtain ⟨c1, h⟩ := x_ckk h
  obtain ⟨c2, h⟩ := x_ckk h
  obtain ⟨r3, N5, e4, h⟩ := x_bd2 h
  refine x_nV (b := o1) (As := [.int s0]) (ci := 10) (R' := xR 1 0 0) (zz := yX10_below) dL_randomDesk_473 ml_L_118 wi_X10_below wv_X10_below wn_X10 wc_X10_below hp_X10_below ⟨Nat.le_of_ble_eq_true rfl, Nat.le_of_ble_eq_true rfl⟩ rfl (Nat.le_of_ble_eq_true rfl) c2 vc_X10 c1 (T_X10_below (G := G) e4) ?_
  refine x_iadd dL_randomDesk_476 ?_
  obtain ⟨c6, h⟩ := x_ckk h
  obtain ⟨c7, h⟩ := x_ckk h
  refine x_iast dL_randomDesk_477 c6 (xb_in c7) rfl ?_
  obtain ⟨N8, eN8, h⟩ := x_lt h
  refine x_nmM eN8 ?_
  refine x_dup dL_randomDesk_478 rfl ?_
  refine x_iconst (v := 3) dL_randomDesk_479 rfl ?_
  refine x_iconst (v := 0) dL_randomDesk_480 rfl ?_
  obtain ⟨c9, h⟩ := x_ckk h
  obtain ⟨c10, h⟩ := x_ckk h
  refine x_iast dL_randomDesk_481 c9 (xb_in c10) xj_3 ?_
  obtain ⟨N11, eN11, h⟩ := x_lt h
  refine x_nmM eN11 ?_
  refine x_dup dL_randomDesk_482 rfl ?_
  refine x_iconst (v := 4) dL_randomDesk_483 rfl ?_
  refine x_iconst (v := (-1)) dL_randomDesk_484 rfl ?_
  obtain ⟨c12, h⟩ := x_ckk h
  refine x_iast dL_randomDesk_485 c9 (xb_in c12) xj_4 ?_
  obtain ⟨N13, eN13, h⟩ := x_lt h
  refine x_nmM eN13 ?_
  refine x_dup dL_randomDesk_486 rfl ?_
  refine x_iconst (v := 5) dL_randomDesk_487 rfl ?_
  refine x_iconst (v := 0) dL_randomDesk_488 rfl ?_
  obtain ⟨c14, h⟩ := x_ckk h
  refine x_iast dL_randomDesk_489 c9 (xb_in c14) xj_5 ?_
  obtain ⟨N15, eN15, h⟩ := x_lt h
  refine x_nmM eN15 ?_
  refine x_dup dL_randomDesk_490 rfl ?_
  refine x_bipush (v := 6) dL_randomDesk_491 rfl ?_
  refine x_iconst (v := (-1)) dL_randomDesk_493 rfl ?_
  obtain ⟨c16, h⟩ := x_ckk h
  refine x_iast dL_randomDesk_494 c9 (xb_in c16) xj_6 ?_
  obtain ⟨N17, eN17, h⟩ := x_lt h
  refine x_nmM eN17 ?_
  refine x_dup dL_randomDesk_495 rfl ?_
  refine x_bipush (v := 7) dL_randomDesk_496 rfl ?_
  refine x_iconst (v := 0) dL_randomDesk_498 rfl ?_
  obtain ⟨c18, h⟩ := x_ckk h
  refine x_iast dL_randomDesk_499 c9 (xb_in c18) xj_7 ?_
  obtain ⟨N19, eN19, h⟩ := x_lt h
  refine x_nmM eN19 ?_
  obtain ⟨c20, h⟩ := x_ckk h
  obtain ⟨r21, Y23, q24, N25, e22, h⟩ := x_bd4 h
  refine x_nS (As := [.ref o6, .ref o5]) (R' := xR 1 1 64) (zz := yL_with) dL_randomDesk_500 ml_L_127 wt_L_with wn_L wc_L_with hp_L_with ⟨Nat.le_of_ble_eq_true rfl, Nat.le_of_ble_eq_true rfl⟩ rfl (Nat.le_of_ble_eq_true rfl) c20 (T_L_with (G := G) e22) ?_
  obtain ⟨c26, h⟩ := x_ckk h
  refine x_putr dL_randomDesk_503 vc_X8 xin8 tyX8_ok nmX8 fb_X8_6 fl_L_152 ff_X8_6 xr_X8_6 rfl rfl c26 ?_
  obtain ⟨Y27, eY27, h⟩ := x_lt h
  refine x_nmY eY27 ?_
  refine x_aload_n 3 dL_randomDesk_506 rfl rfl ?_
  obtain ⟨c28, h⟩ := x_ckk h
  obtain ⟨c30, h⟩ := x_ckk h
  obtain ⟨p29, lp29, h⟩ := x_lt h
  have ep29 : gr Y27 p_3 6 = some p29 := by rw [lp29]; exact c30
  refine x_getr dL_randomDesk_507 vc_X8 xin8 fb_X8_6 fl_L_152 xr_X8_6 c28 ep29 ?_
  refine x_aload_n 3 dL_randomDesk_510 rfl rfl ?_
  refine x_getr dL_randomDesk_511 vc_X8 xin8 fb_X8_6 fl_L_152 xr_X8_6 c28 ep29 ?_
  obtain ⟨c31, h⟩ := x_ckk h
  refine x_rlen (j := 4) dL_randomDesk_514 (by decide) c31 rfl ?_
  refine x_iconst (v := 1) dL_randomDesk_515 rfl ?_
  refine x_isub dL_randomDesk_516 ?_
  obtain ⟨c32, h⟩ := x_ckk h
  obtain ⟨c34, h⟩ := x_ckk h
  obtain ⟨p33, lp33, h⟩ := x_lt h
  have ep33 : gr Y27 p29 ((Int32.ofNat (kn Y27 p29)) - 1).toNatClampNeg = some p33 := by rw [lp33]; exact c34
  refine x_aald (j := 4) dL_randomDesk_517 (by decide) c31 (xb_in c32) ep33 ?_
  refine x_astore (L' := [(0, .ref p_0), (1, .ref p_1), (2, .ref p_2), (3, .ref p_3), (5, .int v_5), (6, .ref p33)]) [1, 2, 3, 4, 5, 0] dL_randomDesk_518 (by decide) rfl ?_
  refine x_aload_n 0 dL_randomDesk_520 rfl rfl ?_
  refine x_aload_n 1 dL_randomDesk_521 rfl rfl ?_
  refine x_ldcS (tx := "raise") (i := 19) dL_randomDesk_522 (by decide) ?_
  refine x_iconst (v := 3) dL_randomDesk_524 rfl ?_
  obtain ⟨c35, h⟩ := x_ckk h
  obtain ⟨c36, h⟩ := x_ckk h
  refine x_newP (q := q24) (M := 3) (kd := 1) dL_randomDesk_525 rfl ac9_int (by decide) rfl (by decide) (Or.inl ⟨rfl, rfl, rfl⟩) c35.1 c36 ?_
  obtain ⟨Y37, eY37, h⟩ := x_lt h
  refine x_nmY eY37 ?_
  obtain ⟨N38, eN38, h⟩ := x_lt h
  refine x_nmM eN38 ?_
  have k39 : kc Y37 q24 = 1 := by rw [eY37]; exact kcq rfl
  refine x_dup dL_randomDesk_527 rfl ?_
  refine x_iconst (v := 0) dL_randomDesk_528 rfl ?_
  refine x_aload 5 dL_randomDesk_529 rfl ?_
  refine x_iconst (v := 0) dL_randomDesk_531 rfl ?_
  obtain ⟨c40, h⟩ := x_ckk h
  obtain ⟨c41, h⟩ := x_ckk h
  refine x_iald dL_randomDesk_532 c40 (xb_in c41) xj_0 ?_
  obtain ⟨c42, h⟩ := x_ckk h
  refine x_iast dL_randomDesk_533 k39 (xb_in c42) xj_0 ?_
  obtain ⟨N43, eN43, h⟩ := x_lt h
  refine x_nmM eN43 ?_
  refine x_dup dL_randomDesk_534 rfl ?_
  refine x_iconst (v := 1) dL_randomDesk_535 rfl ?_
  refine x_aload 5 dL_randomDesk_536 rfl ?_
  refine x_iconst (v := 1) dL_randomDesk_538 rfl ?_
  obtain ⟨c44, h⟩ := x_ckk h
  refine x_iald dL_randomDesk_539 c40 (xb_in c44) xj_1 ?_
  obtain ⟨c45, h⟩ := x_ckk h
  refine x_iast dL_randomDesk_540 k39 (xb_in c45) xj_1 ?_
  obtain ⟨N46, eN46, h⟩ := x_lt h
  refine x_nmM eN46 ?_
  refine x_dup dL_randomDesk_541 rfl ?_
  refine x_iconst (v := 2) dL_randomDesk_542 rfl ?_
  refine x_aload 5 dL_randomDesk_543 rfl ?_
  refine x_iconst (v := 2) dL_randomDesk_545 rfl ?_
  obtain ⟨c47, h⟩ := x_ckk h
  refine x_iald dL_randomDesk_546 c40 (xb_in c47) xj_2 ?_
  obtain ⟨c48, h⟩ := x_ckk h
  refine x_iast dL_randomDesk_547 k39 (xb_in c48) xj_2 ?_
  obtain ⟨N49, eN49, h⟩ := x_lt h
  refine x_nmM eN49 ?_
  obtain ⟨w50, h⟩ := x_ckW h
  obtain ⟨N52, e51, h⟩ := x_bd1 h
  refine x_nS (As := [.ref p_0, .ref p_1, .ref (xS G 19), .ref q24]) (R' := xR 6 0 0) (zz := yL_writeNumbers) dL_randomDesk_548 ml_L_132 wt_L_writeNumbers wn_L wc_L_writeNumbers hp_L_writeNumbers ⟨Nat.le_of_ble_eq_true rfl, Nat.le_of_ble_eq_true rfl⟩ rfl (Nat.le_of_ble_eq_true rfl) c36 (T_L_writeNumbers (G := G) w50 e51) ?_
  refine x_aload_n 0 dL_randomDesk_551 rfl rfl ?_
  refine x_aload_n 1 dL_randomDesk_552 rfl rfl ?_
  refine x_ldcS (tx := ";") (i := 16) dL_randomDesk_553 (by decide) ?_
  obtain ⟨w53, h⟩ := x_ckW h
  obtain ⟨N55, e54, h⟩ := x_bd1 h
  refine x_nS (As := [.ref p_0, .ref p_1, .ref (xS G 16)]) (R' := xR 5 0 0) (zz := yL_write) dL_randomDesk_555 ml_L_104 wt_L_write wn_L wc_L_write hp_L_write ⟨Nat.le_of_ble_eq_true rfl, Nat.le_of_ble_eq_true rfl⟩ rfl (Nat.le_of_ble_eq_true rfl) c36 (T_L_write (G := G) w53 e54) ?_
  refine x_iinc (L' := [(0, .ref p_0), (1, .ref p_1), (2, .ref p_2), (3, .ref p_3), (5, .int (v_5 + (-1)))]) 4 [1, 2, 3, 4, 0] dL_randomDesk_558 rfl rfl (by decide) rfl ?_
  refine x_goto (tgt := 406) dL_randomDesk_561 (by decide) ?_
  exact hK406 Y37 (q24 + 1) p_0 p_1 p_2 p_3 (v_5 + (-1)) (k + 1 + 1) (n + 64 + 3) N55 h
set_option maxHeartbeats 4000000 in
set_option maxRecDepth 100000 in
theorem T_L_randomDesk_450 {G : XG} {tb : List ExceptionTableEntry} {rz : Nat} {Yz : XY} {qz : Nat} {Nz : XN} {K406 : XY → Nat → Nat → Nat → Nat → Nat → Int32 → Nat → Nat → XN → Option (Nat × XY × Nat × XN)} (hK406 : ∀ (Y : XY) (q : Nat) (p_0 : Nat) (p_1 : Nat) (p_2 : Nat) (p_3 : Nat) (v_5 : Int32) (k : Nat) (n : Nat) (N : XN), K406 Y q p_0 p_1 p_2 p_3 v_5 k n N = some (rz, Yz, qz, Nz) → ExZ G yL_randomDesk cL_randomDesk 10 (some (.object "LineLeasesLaw$Desk")) tb (xR 33 400 40000) (xZn G (xR 33 400 40000) (some (.ref rz)) Yz Nz) k n 406 [(0, .ref p_0), (1, .ref p_1), (2, .ref p_2), (3, .ref p_3), (5, .int v_5)] [] Y N) (Y : XY) (q : Nat) (p_0 : Nat) (p_1 : Nat) (p_2 : Nat) (p_3 : Nat) (v_5 : Int32) (s0 : Int32) (o1 : Nat) (s2 : Int32) (o3 : Nat) (o4 : Nat) (o5 : Nat) (o6 : Nat) (k : Nat) (n : Nat) (N : XN) (h : f_L_randomDesk_450 (xS G) (xSv G) K406 Y q p_0 p_1 p_2 p_3 v_5 s0 o1 s2 o3 o4 o5 o6 k n N = some (rz, Yz, qz, Nz)) : ExZ G yL_randomDesk cL_randomDesk 10 (some (.object "LineLeasesLaw$Desk")) tb (xR 33 400 40000) (xZn G (xR 33 400 40000) (some (.ref rz)) Yz Nz) k n 450 [(0, .ref p_0), (1, .ref p_1), (2, .ref p_2), (3, .ref p_3), (5, .int v_5)] [.int s0, .ref o1, .int s2, .ref o3, .ref o4, .ref o5, .ref o6] Y N := by
  rw [f_L_randomDesk_450] at h
  obtain ⟨c1, h⟩ := x_ckk h
  obtain ⟨c2, h⟩ := x_ckk h
  obtain ⟨r3, N5, e4, h⟩ := x_bd2 h
  refine x_nV (b := o1) (As := [.int s0]) (ci := 10) (R' := xR 1 0 0) (zz := yX10_below) dL_randomDesk_450 ml_L_118 wi_X10_below wv_X10_below wn_X10 wc_X10_below hp_X10_below ⟨Nat.le_of_ble_eq_true rfl, Nat.le_of_ble_eq_true rfl⟩ rfl (Nat.le_of_ble_eq_true rfl) c2 vc_X10 c1 (T_X10_below (G := G) e4) ?_
  obtain ⟨c6, h⟩ := x_ckk h
  obtain ⟨c7, h⟩ := x_ckk h
  refine x_iast dL_randomDesk_453 c6 (xb_in c7) rfl ?_
  obtain ⟨N8, eN8, h⟩ := x_lt h
  refine x_nmM eN8 ?_
  refine x_dup dL_randomDesk_454 rfl ?_
  refine x_iconst (v := 2) dL_randomDesk_455 rfl ?_
  refine x_iconst (v := 1) dL_randomDesk_456 rfl ?_
  refine x_aload_n 2 dL_randomDesk_457 rfl rfl ?_
  refine x_aload_n 2 dL_randomDesk_458 rfl rfl ?_
  refine x_iconst (v := 3) dL_randomDesk_459 rfl ?_
  obtain ⟨c9, h⟩ := x_ckk h
  obtain ⟨r10, N12, e11, h⟩ := x_bd2 h
  refine x_nV (b := p_2) (As := [.int 3]) (ci := 10) (R' := xR 1 0 0) (zz := yX10_below) dL_randomDesk_460 ml_L_118 wi_X10_below wv_X10_below wn_X10 wc_X10_below hp_X10_below ⟨Nat.le_of_ble_eq_true rfl, Nat.le_of_ble_eq_true rfl⟩ rfl (Nat.le_of_ble_eq_true rfl) c2 vc_X10 c9 (T_X10_below (G := G) e11) ?_
  rcases x_if h with ⟨c13, h⟩ | ⟨c13, h⟩
  · refine x_if_ne_f (tgt := 471) dL_randomDesk_463 (by decide) c13 ?_
    refine x_bipush (v := 99) dL_randomDesk_466 rfl ?_
    refine x_goto (tgt := 473) dL_randomDesk_468 (by decide) ?_
    exact T_L_randomDesk_473 (G := G) hK406 Y q p_0 p_1 p_2 p_3 v_5 99 p_2 1 2 o4 o4 o5 o6 k n N12 h
  · refine x_if_ne_t (tgt := 471) dL_randomDesk_463 (by decide) c13 ?_
    refine x_bipush (v := 20) dL_randomDesk_471 rfl ?_
    exact T_L_randomDesk_473 (G := G) hK406 Y q p_0 p_1 p_2 p_3 v_5 20 p_2 1 2 o4 o4 o5 o6 k n N12 h
set_option maxHeartbeats 4000000 in
set_option maxRecDepth 100000 in
theorem T_L_randomDesk_406 {G : XG} {tb : List ExceptionTableEntry} {rz : Nat} {Yz : XY} {qz : Nat} {Nz : XN} : ∀ (D9 : Nat) (Y : XY) (q : Nat) (p_0 : Nat) (p_1 : Nat) (p_2 : Nat) (p_3 : Nat) (v_5 : Int32) (k : Nat) (n : Nat) (N : XN), f_L_randomDesk_406 (xS G) (xSv G) D9 Y q p_0 p_1 p_2 p_3 v_5 k n N = some (rz, Yz, qz, Nz) → ExZ G yL_randomDesk cL_randomDesk 10 (some (.object "LineLeasesLaw$Desk")) tb (xR 33 400 40000) (xZn G (xR 33 400 40000) (some (.ref rz)) Yz Nz) k n 406 [(0, .ref p_0), (1, .ref p_1), (2, .ref p_2), (3, .ref p_3), (5, .int v_5)] [] Y N := by
  intro D9
  induction D9 with
  | zero => intro Y q p_0 p_1 p_2 p_3 v_5 k n N h; exact nomatch (show none = some _ from h)
  | succ D9 ih =>
    intro Y q p_0 p_1 p_2 p_3 v_5 k n N h
    rw [f_L_randomDesk_406] at h
    refine x_iload 4 dL_randomDesk_406 rfl ?_
    rcases x_if h with ⟨c1, h⟩ | ⟨c1, h⟩
    · refine x_if_le_t (tgt := 564) dL_randomDesk_408 (by decide) c1 ?_
      refine x_aload_n 3 dL_randomDesk_564 rfl rfl ?_
      refine x_iconst (v := 5) dL_randomDesk_565 rfl ?_
      obtain ⟨c2, h⟩ := x_ckk h
      obtain ⟨c3, h⟩ := x_ckk h
      refine x_newP (q := q) (M := 5) (kd := 1) dL_randomDesk_566 rfl ac9_int (by decide) rfl (by decide) (Or.inl ⟨rfl, rfl, rfl⟩) c2.1 c3 ?_
      obtain ⟨Y4, eY4, h⟩ := x_lt h
      refine x_nmY eY4 ?_
      obtain ⟨N5, eN5, h⟩ := x_lt h
      refine x_nmM eN5 ?_
      have k6 : kc Y4 q = 1 := by rw [eY4]; exact kcq rfl
      refine x_dup dL_randomDesk_568 rfl ?_
      refine x_iconst (v := 0) dL_randomDesk_569 rfl ?_
      refine x_iconst (v := 5) dL_randomDesk_570 rfl ?_
      obtain ⟨c7, h⟩ := x_ckk h
      refine x_iast dL_randomDesk_571 k6 (xb_in c7) xj_0 ?_
      obtain ⟨N8, eN8, h⟩ := x_lt h
      refine x_nmM eN8 ?_
      refine x_dup dL_randomDesk_572 rfl ?_
      refine x_iconst (v := 1) dL_randomDesk_573 rfl ?_
      refine x_bipush (v := 10) dL_randomDesk_574 rfl ?_
      obtain ⟨c9, h⟩ := x_ckk h
      refine x_iast dL_randomDesk_576 k6 (xb_in c9) xj_1 ?_
      obtain ⟨N10, eN10, h⟩ := x_lt h
      refine x_nmM eN10 ?_
      refine x_dup dL_randomDesk_577 rfl ?_
      refine x_iconst (v := 2) dL_randomDesk_578 rfl ?_
      refine x_bipush (v := 10) dL_randomDesk_579 rfl ?_
      obtain ⟨c11, h⟩ := x_ckk h
      refine x_iast dL_randomDesk_581 k6 (xb_in c11) xj_2 ?_
      obtain ⟨N12, eN12, h⟩ := x_lt h
      refine x_nmM eN12 ?_
      refine x_dup dL_randomDesk_582 rfl ?_
      refine x_iconst (v := 3) dL_randomDesk_583 rfl ?_
      refine x_bipush (v := 10) dL_randomDesk_584 rfl ?_
      obtain ⟨c13, h⟩ := x_ckk h
      refine x_iast dL_randomDesk_586 k6 (xb_in c13) xj_3 ?_
      obtain ⟨N14, eN14, h⟩ := x_lt h
      refine x_nmM eN14 ?_
      refine x_dup dL_randomDesk_587 rfl ?_
      refine x_iconst (v := 4) dL_randomDesk_588 rfl ?_
      refine x_iconst (v := 1) dL_randomDesk_589 rfl ?_
      obtain ⟨c15, h⟩ := x_ckk h
      refine x_iast dL_randomDesk_590 k6 (xb_in c15) xj_4 ?_
      obtain ⟨N16, eN16, h⟩ := x_lt h
      refine x_nmM eN16 ?_
      obtain ⟨c17, h⟩ := x_ckk h
      refine x_putr dL_randomDesk_591 vc_X8 xin8 tyX8_ok nmX8 fb_X8_2 fl_L_156 ff_X8_2 xr_X8_2 rfl rfl c17 ?_
      obtain ⟨Y18, eY18, h⟩ := x_lt h
      refine x_nmY eY18 ?_
      refine x_iconst (v := 0) dL_randomDesk_594 rfl ?_
      refine x_istore (L' := [(0, .ref p_0), (1, .ref p_1), (2, .ref p_2), (3, .ref p_3), (5, .int 0)]) [1, 2, 3, 4, 0] dL_randomDesk_595 (by decide) rfl ?_
      exact T_L_randomDesk_597 (G := G) FU Y18 (q + 1) p_0 p_1 p_2 p_3 0 (k + 1) (n + 5) N16 h
    · refine x_if_le_f (tgt := 564) dL_randomDesk_408 (by decide) c1 ?_
      refine x_aload_n 3 dL_randomDesk_411 rfl rfl ?_
      refine x_aload_n 3 dL_randomDesk_412 rfl rfl ?_
      obtain ⟨c19, h⟩ := x_ckk h
      obtain ⟨c21, h⟩ := x_ckk h
      obtain ⟨p20, lp20, h⟩ := x_lt h
      have ep20 : gr Y p_3 6 = some p20 := by rw [lp20]; exact c21
      refine x_getr dL_randomDesk_413 vc_X8 xin8 fb_X8_6 fl_L_152 xr_X8_6 c19 ep20 ?_
      refine x_bipush (v := 8) dL_randomDesk_416 rfl ?_
      obtain ⟨c22, h⟩ := x_ckk h
      obtain ⟨c23, h⟩ := x_ckk h
      refine x_newP (q := q) (M := 8) (kd := 1) dL_randomDesk_418 rfl ac9_int (by decide) rfl (by decide) (Or.inl ⟨rfl, rfl, rfl⟩) c22.1 c23 ?_
      obtain ⟨Y24, eY24, h⟩ := x_lt h
      refine x_nmY eY24 ?_
      obtain ⟨N25, eN25, h⟩ := x_lt h
      refine x_nmM eN25 ?_
      have k26 : kc Y24 q = 1 := by rw [eY24]; exact kcq rfl
      refine x_dup dL_randomDesk_420 rfl ?_
      refine x_iconst (v := 0) dL_randomDesk_421 rfl ?_
      refine x_aload_n 2 dL_randomDesk_422 rfl rfl ?_
      refine x_aload_n 3 dL_randomDesk_423 rfl rfl ?_
      have k27 : kc Y24 p_3 = 18 := by rw [eY24]; exact kc_yK c22.1 c22.2 (by decide) (by decide) c19
      obtain ⟨c29, h⟩ := x_ckk h
      obtain ⟨p28, lp28, h⟩ := x_lt h
      have ep28 : gr Y24 p_3 4 = some p28 := by rw [lp28]; exact c29
      refine x_getr dL_randomDesk_424 vc_X8 xin8 fb_X8_4 fl_L_138 xr_X8_4 k27 ep28 ?_
      obtain ⟨c30, h⟩ := x_ckk h
      refine x_rlen (j := 4) dL_randomDesk_427 (by decide) c30 rfl ?_
      obtain ⟨c31, h⟩ := x_ckk h
      obtain ⟨r32, N34, e33, h⟩ := x_bd2 h
      refine x_nV (b := p_2) (As := [.int (Int32.ofNat (kn Y24 p28))]) (ci := 10) (R' := xR 1 0 0) (zz := yX10_below) dL_randomDesk_428 ml_L_118 wi_X10_below wv_X10_below wn_X10 wc_X10_below hp_X10_below ⟨Nat.le_of_ble_eq_true rfl, Nat.le_of_ble_eq_true rfl⟩ rfl (Nat.le_of_ble_eq_true rfl) c23 vc_X10 c31 (T_X10_below (G := G) e33) ?_
      obtain ⟨c35, h⟩ := x_ckk h
      refine x_iast dL_randomDesk_431 k26 (xb_in c35) xj_0 ?_
      obtain ⟨N36, eN36, h⟩ := x_lt h
      refine x_nmM eN36 ?_
      refine x_dup dL_randomDesk_432 rfl ?_
      refine x_iconst (v := 1) dL_randomDesk_433 rfl ?_
      refine x_aload_n 2 dL_randomDesk_434 rfl rfl ?_
      refine x_aload_n 2 dL_randomDesk_435 rfl rfl ?_
      refine x_iconst (v := 4) dL_randomDesk_436 rfl ?_
      obtain ⟨r37, N39, e38, h⟩ := x_bd2 h
      refine x_nV (b := p_2) (As := [.int 4]) (ci := 10) (R' := xR 1 0 0) (zz := yX10_below) dL_randomDesk_437 ml_L_118 wi_X10_below wv_X10_below wn_X10 wc_X10_below hp_X10_below ⟨Nat.le_of_ble_eq_true rfl, Nat.le_of_ble_eq_true rfl⟩ rfl (Nat.le_of_ble_eq_true rfl) c23 vc_X10 c31 (T_X10_below (G := G) e38) ?_
      rcases x_if h with ⟨c40, h⟩ | ⟨c40, h⟩
      · refine x_if_ne_f (tgt := 448) dL_randomDesk_440 (by decide) c40 ?_
        refine x_bipush (v := 60) dL_randomDesk_443 rfl ?_
        refine x_goto (tgt := 450) dL_randomDesk_445 (by decide) ?_
        exact T_L_randomDesk_450 (G := G) ih Y24 (q + 1) p_0 p_1 p_2 p_3 v_5 60 p_2 1 q q p20 p_3 (k + 1) (n + 8) N39 h
      · refine x_if_ne_t (tgt := 448) dL_randomDesk_440 (by decide) c40 ?_
        refine x_bipush (v := 8) dL_randomDesk_448 rfl ?_
        exact T_L_randomDesk_450 (G := G) ih Y24 (q + 1) p_0 p_1 p_2 p_3 v_5 8 p_2 1 q q p20 p_3 (k + 1) (n + 8) N39 h
set_option maxHeartbeats 4000000 in
set_option maxRecDepth 100000 in
theorem T_L_randomDesk_324 {G : XG} {tb : List ExceptionTableEntry} {rz : Nat} {Yz : XY} {qz : Nat} {Nz : XN} {K169 : XY → Nat → Nat → Nat → Nat → Nat → Int32 → Int32 → Nat → Nat → XN → Option (Nat × XY × Nat × XN)} (hK169 : ∀ (Y : XY) (q : Nat) (p_0 : Nat) (p_1 : Nat) (p_2 : Nat) (p_3 : Nat) (v_4 : Int32) (v_5 : Int32) (k : Nat) (n : Nat) (N : XN), K169 Y q p_0 p_1 p_2 p_3 v_4 v_5 k n N = some (rz, Yz, qz, Nz) → ExZ G yL_randomDesk cL_randomDesk 10 (some (.object "LineLeasesLaw$Desk")) tb (xR 33 400 40000) (xZn G (xR 33 400 40000) (some (.ref rz)) Yz Nz) k n 169 [(0, .ref p_0), (1, .ref p_1), (2, .ref p_2), (3, .ref p_3), (4, .int v_4), (5, .int v_5)] [] Y N) : ∀ (D9 : Nat) (Y : XY) (q : Nat) (p_0 : Nat) (p_1 : Nat) (p_2 : Nat) (p_3 : Nat) (v_4 : Int32) (v_5 : Int32) (p_7 : Nat) (v_8 : Int32) (v_9 : Int32) (k : Nat) (n : Nat) (N : XN), f_L_randomDesk_324 (xS G) (xSv G) K169 D9 Y q p_0 p_1 p_2 p_3 v_4 v_5 p_7 v_8 v_9 k n N = some (rz, Yz, qz, Nz) → ExZ G yL_randomDesk cL_randomDesk 10 (some (.object "LineLeasesLaw$Desk")) tb (xR 33 400 40000) (xZn G (xR 33 400 40000) (some (.ref rz)) Yz Nz) k n 324 [(0, .ref p_0), (1, .ref p_1), (2, .ref p_2), (3, .ref p_3), (4, .int v_4), (5, .int v_5), (7, .ref p_7), (8, .int v_8), (9, .int v_9)] [] Y N := by
  intro D9
  induction D9 with
  | zero => intro Y q p_0 p_1 p_2 p_3 v_4 v_5 p_7 v_8 v_9 k n N h; exact nomatch (show none = some _ from h)
  | succ D9 ih =>
    intro Y q p_0 p_1 p_2 p_3 v_4 v_5 p_7 v_8 v_9 k n N h
    rw [f_L_randomDesk_324] at h
    refine x_iload 8 dL_randomDesk_324 rfl ?_
    refine x_aload 6 dL_randomDesk_326 rfl ?_
    obtain ⟨c1, h⟩ := x_ckk h
    refine x_ilen dL_randomDesk_328 c1 rfl ?_
    rcases x_if h with ⟨c2, h⟩ | ⟨c2, h⟩
    · refine x_icmp_ge_t (tgt := 351) dL_randomDesk_329 (by decide) c2 ?_
      refine x_aload_n 3 dL_randomDesk_351 rfl rfl ?_
      refine x_aload_n 3 dL_randomDesk_352 rfl rfl ?_
      obtain ⟨c3, h⟩ := x_ckk h
      obtain ⟨c5, h⟩ := x_ckk h
      obtain ⟨p4, lp4, h⟩ := x_lt h
      have ep4 : gr Y p_3 5 = some p4 := by rw [lp4]; exact c5
      refine x_getr dL_randomDesk_353 vc_X8 xin8 fb_X8_5 fl_L_147 xr_X8_5 c3 ep4 ?_
      refine x_aload 6 dL_randomDesk_356 rfl ?_
      obtain ⟨c6, h⟩ := x_ckk h
      obtain ⟨r7, Y9, q10, N11, e8, h⟩ := x_bd4 h
      refine x_nS (As := [.ref p4, .ref p_7]) (R' := xR 1 1 64) (zz := yL_with) dL_randomDesk_358 ml_L_127 wt_L_with wn_L wc_L_with hp_L_with ⟨Nat.le_of_ble_eq_true rfl, Nat.le_of_ble_eq_true rfl⟩ rfl (Nat.le_of_ble_eq_true rfl) c6 (T_L_with (G := G) e8) ?_
      obtain ⟨c12, h⟩ := x_ckk h
      refine x_putr dL_randomDesk_361 vc_X8 xin8 tyX8_ok nmX8 fb_X8_5 fl_L_147 ff_X8_5 xr_X8_5 rfl rfl c12 ?_
      obtain ⟨Y13, eY13, h⟩ := x_lt h
      refine x_nmY eY13 ?_
      refine x_aload_n 0 dL_randomDesk_364 rfl rfl ?_
      refine x_aload_n 1 dL_randomDesk_365 rfl rfl ?_
      refine x_ldcS (tx := "") (i := 18) dL_randomDesk_366 (by decide) ?_
      refine x_aload 6 dL_randomDesk_368 rfl ?_
      obtain ⟨w14, h⟩ := x_ckW h
      obtain ⟨N16, e15, h⟩ := x_bd1 h
      refine x_nS (As := [.ref p_0, .ref p_1, .ref (xS G 18), .ref p_7]) (R' := xR 6 0 0) (zz := yL_writeNumbers) dL_randomDesk_370 ml_L_132 wt_L_writeNumbers wn_L wc_L_writeNumbers hp_L_writeNumbers ⟨Nat.le_of_ble_eq_true rfl, Nat.le_of_ble_eq_true rfl⟩ rfl (Nat.le_of_ble_eq_true rfl) c6 (T_L_writeNumbers (G := G) w14 e15) ?_
      refine x_aload_n 0 dL_randomDesk_373 rfl rfl ?_
      refine x_aload_n 1 dL_randomDesk_374 rfl rfl ?_
      refine x_ldcS (tx := ";") (i := 16) dL_randomDesk_375 (by decide) ?_
      obtain ⟨w17, h⟩ := x_ckW h
      obtain ⟨N19, e18, h⟩ := x_bd1 h
      refine x_nS (As := [.ref p_0, .ref p_1, .ref (xS G 16)]) (R' := xR 5 0 0) (zz := yL_write) dL_randomDesk_377 ml_L_104 wt_L_write wn_L wc_L_write hp_L_write ⟨Nat.le_of_ble_eq_true rfl, Nat.le_of_ble_eq_true rfl⟩ rfl (Nat.le_of_ble_eq_true rfl) c6 (T_L_write (G := G) w17 e18) ?_
      refine x_iinc (L' := [(0, .ref p_0), (1, .ref p_1), (2, .ref p_2), (3, .ref p_3), (4, .int v_4), (5, .int (v_5 + (-1)))]) 5 [1, 2, 3, 4, 5, 0] dL_randomDesk_380 rfl rfl (by decide) rfl ?_
      refine x_goto (tgt := 169) dL_randomDesk_383 (by decide) ?_
      exact hK169 Y13 q10 p_0 p_1 p_2 p_3 v_4 (v_5 + (-1)) (k + 1) (n + 64) N19 h
    · refine x_icmp_ge_f (tgt := 351) dL_randomDesk_329 (by decide) c2 ?_
      refine x_aload 6 dL_randomDesk_332 rfl ?_
      refine x_iload 8 dL_randomDesk_334 rfl ?_
      refine x_iload 7 dL_randomDesk_336 rfl ?_
      refine x_iload 8 dL_randomDesk_338 rfl ?_
      refine x_iadd dL_randomDesk_340 ?_
      refine x_iload 4 dL_randomDesk_341 rfl ?_
      obtain ⟨c20, h⟩ := x_ckk h
      refine x_irem dL_randomDesk_343 c20 ?_
      obtain ⟨c21, h⟩ := x_ckk h
      refine x_iast dL_randomDesk_344 c1 (xb_in c21) rfl ?_
      obtain ⟨N22, eN22, h⟩ := x_lt h
      refine x_nmM eN22 ?_
      refine x_iinc (L' := [(0, .ref p_0), (1, .ref p_1), (2, .ref p_2), (3, .ref p_3), (4, .int v_4), (5, .int v_5), (7, .ref p_7), (8, .int v_8), (9, .int (v_9 + 1))]) 8 [1, 2, 3, 4, 5, 6, 7, 8, 0] dL_randomDesk_345 rfl rfl (by decide) rfl ?_
      refine x_goto (tgt := 324) dL_randomDesk_348 (by decide) ?_
      exact ih Y q p_0 p_1 p_2 p_3 v_4 v_5 p_7 v_8 (v_9 + 1) k n N22 h
set_option maxHeartbeats 4000000 in
set_option maxRecDepth 100000 in
theorem T_L_randomDesk_300 {G : XG} {tb : List ExceptionTableEntry} {rz : Nat} {Yz : XY} {qz : Nat} {Nz : XN} {K169 : XY → Nat → Nat → Nat → Nat → Nat → Int32 → Int32 → Nat → Nat → XN → Option (Nat × XY × Nat × XN)} (hK169 : ∀ (Y : XY) (q : Nat) (p_0 : Nat) (p_1 : Nat) (p_2 : Nat) (p_3 : Nat) (v_4 : Int32) (v_5 : Int32) (k : Nat) (n : Nat) (N : XN), K169 Y q p_0 p_1 p_2 p_3 v_4 v_5 k n N = some (rz, Yz, qz, Nz) → ExZ G yL_randomDesk cL_randomDesk 10 (some (.object "LineLeasesLaw$Desk")) tb (xR 33 400 40000) (xZn G (xR 33 400 40000) (some (.ref rz)) Yz Nz) k n 169 [(0, .ref p_0), (1, .ref p_1), (2, .ref p_2), (3, .ref p_3), (4, .int v_4), (5, .int v_5)] [] Y N) (Y : XY) (q : Nat) (p_0 : Nat) (p_1 : Nat) (p_2 : Nat) (p_3 : Nat) (v_4 : Int32) (v_5 : Int32) (s0 : Int32) (k : Nat) (n : Nat) (N : XN) (h : f_L_randomDesk_300 (xS G) (xSv G) K169 Y q p_0 p_1 p_2 p_3 v_4 v_5 s0 k n N = some (rz, Yz, qz, Nz)) : ExZ G yL_randomDesk cL_randomDesk 10 (some (.object "LineLeasesLaw$Desk")) tb (xR 33 400 40000) (xZn G (xR 33 400 40000) (some (.ref rz)) Yz Nz) k n 300 [(0, .ref p_0), (1, .ref p_1), (2, .ref p_2), (3, .ref p_3), (4, .int v_4), (5, .int v_5)] [.int s0] Y N := by
  rw [f_L_randomDesk_300] at h
  obtain ⟨c1, h⟩ := x_ckk h
  obtain ⟨c2, h⟩ := x_ckk h
  obtain ⟨c3, h⟩ := x_ckk h
  refine x_newP (q := q) (M := s0.toNatClampNeg) (kd := 1) dL_randomDesk_300 rfl ac9_int c1.1 rfl (by have h8 := c1.2; show s0.toNatClampNeg * 4 ≤ 536870912; omega) (Or.inl ⟨rfl, rfl, rfl⟩) c2.1 c3 ?_
  obtain ⟨Y4, eY4, h⟩ := x_lt h
  refine x_nmY eY4 ?_
  obtain ⟨N5, eN5, h⟩ := x_lt h
  refine x_nmM eN5 ?_
  have k6 : kc Y4 q = 1 := by rw [eY4]; exact kcq rfl
  refine x_astore (L' := [(0, .ref p_0), (1, .ref p_1), (2, .ref p_2), (3, .ref p_3), (4, .int v_4), (5, .int v_5), (7, .ref q)]) [1, 2, 3, 4, 5, 6, 0] dL_randomDesk_302 (by decide) rfl ?_
  refine x_iload 4 dL_randomDesk_304 rfl ?_
  rcases x_if h with ⟨c7, h⟩ | ⟨c7, h⟩
  · refine x_if_ne_f (tgt := 313) dL_randomDesk_306 (by decide) c7 ?_
    refine x_iconst (v := 0) dL_randomDesk_309 rfl ?_
    refine x_goto (tgt := 319) dL_randomDesk_310 (by decide) ?_
    refine x_istore (L' := [(0, .ref p_0), (1, .ref p_1), (2, .ref p_2), (3, .ref p_3), (4, .int v_4), (5, .int v_5), (7, .ref q), (8, .int 0)]) [1, 2, 3, 4, 5, 6, 7, 0] dL_randomDesk_319 (by decide) rfl ?_
    refine x_iconst (v := 0) dL_randomDesk_321 rfl ?_
    refine x_istore (L' := [(0, .ref p_0), (1, .ref p_1), (2, .ref p_2), (3, .ref p_3), (4, .int v_4), (5, .int v_5), (7, .ref q), (8, .int 0), (9, .int 0)]) [1, 2, 3, 4, 5, 6, 7, 8, 0] dL_randomDesk_322 (by decide) rfl ?_
    exact T_L_randomDesk_324 (G := G) hK169 FU Y4 (q + 1) p_0 p_1 p_2 p_3 v_4 v_5 q 0 0 (k + 1) (n + s0.toNatClampNeg) N5 h
  · refine x_if_ne_t (tgt := 313) dL_randomDesk_306 (by decide) c7 ?_
    refine x_aload_n 2 dL_randomDesk_313 rfl rfl ?_
    refine x_iload 4 dL_randomDesk_314 rfl ?_
    obtain ⟨c8, h⟩ := x_ckk h
    obtain ⟨r9, N11, e10, h⟩ := x_bd2 h
    refine x_nV (b := p_2) (As := [.int v_4]) (ci := 10) (R' := xR 1 0 0) (zz := yX10_below) dL_randomDesk_316 ml_L_118 wi_X10_below wv_X10_below wn_X10 wc_X10_below hp_X10_below ⟨Nat.le_of_ble_eq_true rfl, Nat.le_of_ble_eq_true rfl⟩ rfl (Nat.le_of_ble_eq_true rfl) c3 vc_X10 c8 (T_X10_below (G := G) e10) ?_
    refine x_istore (L' := [(0, .ref p_0), (1, .ref p_1), (2, .ref p_2), (3, .ref p_3), (4, .int v_4), (5, .int v_5), (7, .ref q), (8, .int r9)]) [1, 2, 3, 4, 5, 6, 7, 0] dL_randomDesk_319 (by decide) rfl ?_
    refine x_iconst (v := 0) dL_randomDesk_321 rfl ?_
    refine x_istore (L' := [(0, .ref p_0), (1, .ref p_1), (2, .ref p_2), (3, .ref p_3), (4, .int v_4), (5, .int v_5), (7, .ref q), (8, .int r9), (9, .int 0)]) [1, 2, 3, 4, 5, 6, 7, 8, 0] dL_randomDesk_322 (by decide) rfl ?_
    exact T_L_randomDesk_324 (G := G) hK169 FU Y4 (q + 1) p_0 p_1 p_2 p_3 v_4 v_5 q r9 0 (k + 1) (n + s0.toNatClampNeg) N11 h
set_option maxHeartbeats 4000000 in
set_option maxRecDepth 100000 in
theorem T_L_randomDesk_246 {G : XG} {tb : List ExceptionTableEntry} {rz : Nat} {Yz : XY} {qz : Nat} {Nz : XN} {K169 : XY → Nat → Nat → Nat → Nat → Nat → Int32 → Int32 → Nat → Nat → XN → Option (Nat × XY × Nat × XN)} (hK169 : ∀ (Y : XY) (q : Nat) (p_0 : Nat) (p_1 : Nat) (p_2 : Nat) (p_3 : Nat) (v_4 : Int32) (v_5 : Int32) (k : Nat) (n : Nat) (N : XN), K169 Y q p_0 p_1 p_2 p_3 v_4 v_5 k n N = some (rz, Yz, qz, Nz) → ExZ G yL_randomDesk cL_randomDesk 10 (some (.object "LineLeasesLaw$Desk")) tb (xR 33 400 40000) (xZn G (xR 33 400 40000) (some (.ref rz)) Yz Nz) k n 169 [(0, .ref p_0), (1, .ref p_1), (2, .ref p_2), (3, .ref p_3), (4, .int v_4), (5, .int v_5)] [] Y N) (Y : XY) (q : Nat) (p_0 : Nat) (p_1 : Nat) (p_2 : Nat) (p_3 : Nat) (v_4 : Int32) (v_5 : Int32) (s0 : Int32) (o1 : Nat) (s2 : Int32) (o3 : Nat) (o4 : Nat) (o5 : Nat) (o6 : Nat) (k : Nat) (n : Nat) (N : XN) (h : f_L_randomDesk_246 (xS G) (xSv G) K169 Y q p_0 p_1 p_2 p_3 v_4 v_5 s0 o1 s2 o3 o4 o5 o6 k n N = some (rz, Yz, qz, Nz)) : ExZ G yL_randomDesk cL_randomDesk 10 (some (.object "LineLeasesLaw$Desk")) tb (xR 33 400 40000) (xZn G (xR 33 400 40000) (some (.ref rz)) Yz Nz) k n 246 [(0, .ref p_0), (1, .ref p_1), (2, .ref p_2), (3, .ref p_3), (4, .int v_4), (5, .int v_5)] [.int s0, .ref o1, .int s2, .ref o3, .ref o4, .ref o5, .ref o6] Y N := by
  rw [f_L_randomDesk_246] at h
  obtain ⟨c1, h⟩ := x_ckk h
  obtain ⟨c2, h⟩ := x_ckk h
  obtain ⟨r3, N5, e4, h⟩ := x_bd2 h
  refine x_nV (b := o1) (As := [.int s0]) (ci := 10) (R' := xR 1 0 0) (zz := yX10_below) dL_randomDesk_246 ml_L_118 wi_X10_below wv_X10_below wn_X10 wc_X10_below hp_X10_below ⟨Nat.le_of_ble_eq_true rfl, Nat.le_of_ble_eq_true rfl⟩ rfl (Nat.le_of_ble_eq_true rfl) c2 vc_X10 c1 (T_X10_below (G := G) e4) ?_
  obtain ⟨c6, h⟩ := x_ckk h
  obtain ⟨c7, h⟩ := x_ckk h
  refine x_iast dL_randomDesk_249 c6 (xb_in c7) rfl ?_
  obtain ⟨N8, eN8, h⟩ := x_lt h
  refine x_nmM eN8 ?_
  obtain ⟨c9, h⟩ := x_ckk h
  obtain ⟨r10, Y12, q13, N14, e11, h⟩ := x_bd4 h
  refine x_nS (As := [.ref o5, .ref o4]) (R' := xR 1 1 64) (zz := yL_with) dL_randomDesk_250 ml_L_127 wt_L_with wn_L wc_L_with hp_L_with ⟨Nat.le_of_ble_eq_true rfl, Nat.le_of_ble_eq_true rfl⟩ rfl (Nat.le_of_ble_eq_true rfl) c9 (T_L_with (G := G) e11) ?_
  obtain ⟨c15, h⟩ := x_ckk h
  refine x_putr dL_randomDesk_253 vc_X8 xin8 tyX8_ok nmX8 fb_X8_4 fl_L_138 ff_X8_4 xr_X8_4 rfl rfl c15 ?_
  obtain ⟨Y16, eY16, h⟩ := x_lt h
  refine x_nmY eY16 ?_
  refine x_aload_n 3 dL_randomDesk_256 rfl rfl ?_
  obtain ⟨c17, h⟩ := x_ckk h
  obtain ⟨c19, h⟩ := x_ckk h
  obtain ⟨p18, lp18, h⟩ := x_lt h
  have ep18 : gr Y16 p_3 4 = some p18 := by rw [lp18]; exact c19
  refine x_getr dL_randomDesk_257 vc_X8 xin8 fb_X8_4 fl_L_138 xr_X8_4 c17 ep18 ?_
  refine x_aload_n 3 dL_randomDesk_260 rfl rfl ?_
  refine x_getr dL_randomDesk_261 vc_X8 xin8 fb_X8_4 fl_L_138 xr_X8_4 c17 ep18 ?_
  obtain ⟨c20, h⟩ := x_ckk h
  refine x_rlen (j := 4) dL_randomDesk_264 (by decide) c20 rfl ?_
  refine x_iconst (v := 1) dL_randomDesk_265 rfl ?_
  refine x_isub dL_randomDesk_266 ?_
  obtain ⟨c21, h⟩ := x_ckk h
  obtain ⟨c23, h⟩ := x_ckk h
  obtain ⟨p22, lp22, h⟩ := x_lt h
  have ep22 : gr Y16 p18 ((Int32.ofNat (kn Y16 p18)) - 1).toNatClampNeg = some p22 := by rw [lp22]; exact c23
  refine x_aald (j := 4) dL_randomDesk_267 (by decide) c20 (xb_in c21) ep22 ?_
  refine x_astore (L' := [(0, .ref p_0), (1, .ref p_1), (2, .ref p_2), (3, .ref p_3), (4, .int v_4), (5, .int v_5), (6, .ref p22)]) [1, 2, 3, 4, 5, 6, 0] dL_randomDesk_268 (by decide) rfl ?_
  refine x_aload_n 0 dL_randomDesk_270 rfl rfl ?_
  refine x_aload_n 1 dL_randomDesk_271 rfl rfl ?_
  refine x_ldcS (tx := "line") (i := 17) dL_randomDesk_272 (by decide) ?_
  refine x_aload 6 dL_randomDesk_274 rfl ?_
  obtain ⟨w24, h⟩ := x_ckW h
  obtain ⟨N26, e25, h⟩ := x_bd1 h
  refine x_nS (As := [.ref p_0, .ref p_1, .ref (xS G 17), .ref p22]) (R' := xR 6 0 0) (zz := yL_writeNumbers) dL_randomDesk_276 ml_L_132 wt_L_writeNumbers wn_L wc_L_writeNumbers hp_L_writeNumbers ⟨Nat.le_of_ble_eq_true rfl, Nat.le_of_ble_eq_true rfl⟩ rfl (Nat.le_of_ble_eq_true rfl) c9 (T_L_writeNumbers (G := G) w24 e25) ?_
  refine x_iload 4 dL_randomDesk_279 rfl ?_
  rcases x_if h with ⟨c27, h⟩ | ⟨c27, h⟩
  · refine x_if_ne_f (tgt := 288) dL_randomDesk_281 (by decide) c27 ?_
    refine x_iconst (v := 0) dL_randomDesk_284 rfl ?_
    refine x_goto (tgt := 300) dL_randomDesk_285 (by decide) ?_
    refine x_sub (L' := [(0, .ref p_0), (1, .ref p_1), (2, .ref p_2), (3, .ref p_3), (4, .int v_4), (5, .int v_5)]) [0, 1, 2, 3, 4, 5] rfl ?_
    exact T_L_randomDesk_300 (G := G) hK169 Y16 q13 p_0 p_1 p_2 p_3 v_4 v_5 0 (k + 1) (n + 64) N26 h
  · refine x_if_ne_t (tgt := 288) dL_randomDesk_281 (by decide) c27 ?_
    refine x_aload_n 2 dL_randomDesk_288 rfl rfl ?_
    refine x_iconst (v := 3) dL_randomDesk_289 rfl ?_
    refine x_iload 4 dL_randomDesk_290 rfl ?_
    obtain ⟨r28, N29, e30, h⟩ := x_bd2 h
    refine x_J9_min_7cf53 dL_randomDesk_292 ml_L_142 e30 (Nat.le_of_ble_eq_true rfl) (Nat.le_of_ble_eq_true rfl) (Nat.le_of_ble_eq_true rfl) c9 ?_
    refine x_iconst (v := 1) dL_randomDesk_295 rfl ?_
    refine x_iadd dL_randomDesk_296 ?_
    obtain ⟨c31, h⟩ := x_ckk h
    obtain ⟨r32, N34, e33, h⟩ := x_bd2 h
    refine x_nV (b := p_2) (As := [.int (r28 + 1)]) (ci := 10) (R' := xR 1 0 0) (zz := yX10_below) dL_randomDesk_297 ml_L_118 wi_X10_below wv_X10_below wn_X10 wc_X10_below hp_X10_below ⟨Nat.le_of_ble_eq_true rfl, Nat.le_of_ble_eq_true rfl⟩ rfl (Nat.le_of_ble_eq_true rfl) c9 vc_X10 c31 (T_X10_below (G := G) e33) ?_
    refine x_sub (L' := [(0, .ref p_0), (1, .ref p_1), (2, .ref p_2), (3, .ref p_3), (4, .int v_4), (5, .int v_5)]) [0, 1, 2, 3, 4, 5] rfl ?_
    exact T_L_randomDesk_300 (G := G) hK169 Y16 q13 p_0 p_1 p_2 p_3 v_4 v_5 r32 (k + 1) (n + 64) N34 h
set_option maxHeartbeats 4000000 in
set_option maxRecDepth 100000 in
theorem T_L_randomDesk_222 {G : XG} {tb : List ExceptionTableEntry} {rz : Nat} {Yz : XY} {qz : Nat} {Nz : XN} {K169 : XY → Nat → Nat → Nat → Nat → Nat → Int32 → Int32 → Nat → Nat → XN → Option (Nat × XY × Nat × XN)} (hK169 : ∀ (Y : XY) (q : Nat) (p_0 : Nat) (p_1 : Nat) (p_2 : Nat) (p_3 : Nat) (v_4 : Int32) (v_5 : Int32) (k : Nat) (n : Nat) (N : XN), K169 Y q p_0 p_1 p_2 p_3 v_4 v_5 k n N = some (rz, Yz, qz, Nz) → ExZ G yL_randomDesk cL_randomDesk 10 (some (.object "LineLeasesLaw$Desk")) tb (xR 33 400 40000) (xZn G (xR 33 400 40000) (some (.ref rz)) Yz Nz) k n 169 [(0, .ref p_0), (1, .ref p_1), (2, .ref p_2), (3, .ref p_3), (4, .int v_4), (5, .int v_5)] [] Y N) (Y : XY) (q : Nat) (p_0 : Nat) (p_1 : Nat) (p_2 : Nat) (p_3 : Nat) (v_4 : Int32) (v_5 : Int32) (s0 : Int32) (o1 : Nat) (s2 : Int32) (s3 : Int32) (o4 : Nat) (o5 : Nat) (o6 : Nat) (o7 : Nat) (k : Nat) (n : Nat) (N : XN) (h : f_L_randomDesk_222 (xS G) (xSv G) K169 Y q p_0 p_1 p_2 p_3 v_4 v_5 s0 o1 s2 s3 o4 o5 o6 o7 k n N = some (rz, Yz, qz, Nz)) : ExZ G yL_randomDesk cL_randomDesk 10 (some (.object "LineLeasesLaw$Desk")) tb (xR 33 400 40000) (xZn G (xR 33 400 40000) (some (.ref rz)) Yz Nz) k n 222 [(0, .ref p_0), (1, .ref p_1), (2, .ref p_2), (3, .ref p_3), (4, .int v_4), (5, .int v_5)] [.int s0, .ref o1, .int s2, .int s3, .ref o4, .ref o5, .ref o6, .ref o7] Y N := by
  rw [f_L_randomDesk_222] at h
  obtain ⟨c1, h⟩ := x_ckk h
  obtain ⟨c2, h⟩ := x_ckk h
  obtain ⟨r3, N5, e4, h⟩ := x_bd2 h
  refine x_nV (b := o1) (As := [.int s0]) (ci := 10) (R' := xR 1 0 0) (zz := yX10_below) dL_randomDesk_222 ml_L_118 wi_X10_below wv_X10_below wn_X10 wc_X10_below hp_X10_below ⟨Nat.le_of_ble_eq_true rfl, Nat.le_of_ble_eq_true rfl⟩ rfl (Nat.le_of_ble_eq_true rfl) c2 vc_X10 c1 (T_X10_below (G := G) e4) ?_
  refine x_iadd dL_randomDesk_225 ?_
  obtain ⟨c6, h⟩ := x_ckk h
  obtain ⟨c7, h⟩ := x_ckk h
  refine x_iast dL_randomDesk_226 c6 (xb_in c7) rfl ?_
  obtain ⟨N8, eN8, h⟩ := x_lt h
  refine x_nmM eN8 ?_
  refine x_dup dL_randomDesk_227 rfl ?_
  refine x_iconst (v := 2) dL_randomDesk_228 rfl ?_
  refine x_aload_n 2 dL_randomDesk_229 rfl rfl ?_
  refine x_aload_n 2 dL_randomDesk_230 rfl rfl ?_
  refine x_iconst (v := 2) dL_randomDesk_231 rfl ?_
  obtain ⟨c9, h⟩ := x_ckk h
  obtain ⟨r10, N12, e11, h⟩ := x_bd2 h
  refine x_nV (b := p_2) (As := [.int 2]) (ci := 10) (R' := xR 1 0 0) (zz := yX10_below) dL_randomDesk_232 ml_L_118 wi_X10_below wv_X10_below wn_X10 wc_X10_below hp_X10_below ⟨Nat.le_of_ble_eq_true rfl, Nat.le_of_ble_eq_true rfl⟩ rfl (Nat.le_of_ble_eq_true rfl) c2 vc_X10 c9 (T_X10_below (G := G) e11) ?_
  rcases x_if h with ⟨c13, h⟩ | ⟨c13, h⟩
  · refine x_if_ne_f (tgt := 244) dL_randomDesk_235 (by decide) c13 ?_
    refine x_sipush (v := 1000) dL_randomDesk_238 rfl ?_
    refine x_goto (tgt := 246) dL_randomDesk_241 (by decide) ?_
    exact T_L_randomDesk_246 (G := G) hK169 Y q p_0 p_1 p_2 p_3 v_4 v_5 1000 p_2 2 o5 o5 o6 o7 k n N12 h
  · refine x_if_ne_t (tgt := 244) dL_randomDesk_235 (by decide) c13 ?_
    refine x_bipush (v := 30) dL_randomDesk_244 rfl ?_
    exact T_L_randomDesk_246 (G := G) hK169 Y q p_0 p_1 p_2 p_3 v_4 v_5 30 p_2 2 o5 o5 o6 o7 k n N12 h
set_option maxHeartbeats 4000000 in
set_option maxRecDepth 100000 in
theorem T_L_randomDesk_200 {G : XG} {tb : List ExceptionTableEntry} {rz : Nat} {Yz : XY} {qz : Nat} {Nz : XN} {K169 : XY → Nat → Nat → Nat → Nat → Nat → Int32 → Int32 → Nat → Nat → XN → Option (Nat × XY × Nat × XN)} (hK169 : ∀ (Y : XY) (q : Nat) (p_0 : Nat) (p_1 : Nat) (p_2 : Nat) (p_3 : Nat) (v_4 : Int32) (v_5 : Int32) (k : Nat) (n : Nat) (N : XN), K169 Y q p_0 p_1 p_2 p_3 v_4 v_5 k n N = some (rz, Yz, qz, Nz) → ExZ G yL_randomDesk cL_randomDesk 10 (some (.object "LineLeasesLaw$Desk")) tb (xR 33 400 40000) (xZn G (xR 33 400 40000) (some (.ref rz)) Yz Nz) k n 169 [(0, .ref p_0), (1, .ref p_1), (2, .ref p_2), (3, .ref p_3), (4, .int v_4), (5, .int v_5)] [] Y N) (Y : XY) (q : Nat) (p_0 : Nat) (p_1 : Nat) (p_2 : Nat) (p_3 : Nat) (v_4 : Int32) (v_5 : Int32) (s0 : Int32) (o1 : Nat) (s2 : Int32) (o3 : Nat) (o4 : Nat) (o5 : Nat) (o6 : Nat) (k : Nat) (n : Nat) (N : XN) (h : f_L_randomDesk_200 (xS G) (xSv G) K169 Y q p_0 p_1 p_2 p_3 v_4 v_5 s0 o1 s2 o3 o4 o5 o6 k n N = some (rz, Yz, qz, Nz)) : ExZ G yL_randomDesk cL_randomDesk 10 (some (.object "LineLeasesLaw$Desk")) tb (xR 33 400 40000) (xZn G (xR 33 400 40000) (some (.ref rz)) Yz Nz) k n 200 [(0, .ref p_0), (1, .ref p_1), (2, .ref p_2), (3, .ref p_3), (4, .int v_4), (5, .int v_5)] [.int s0, .ref o1, .int s2, .ref o3, .ref o4, .ref o5, .ref o6] Y N := by
  rw [f_L_randomDesk_200] at h
  obtain ⟨c1, h⟩ := x_ckk h
  obtain ⟨c2, h⟩ := x_ckk h
  obtain ⟨r3, N5, e4, h⟩ := x_bd2 h
  refine x_nV (b := o1) (As := [.int s0]) (ci := 10) (R' := xR 1 0 0) (zz := yX10_below) dL_randomDesk_200 ml_L_118 wi_X10_below wv_X10_below wn_X10 wc_X10_below hp_X10_below ⟨Nat.le_of_ble_eq_true rfl, Nat.le_of_ble_eq_true rfl⟩ rfl (Nat.le_of_ble_eq_true rfl) c2 vc_X10 c1 (T_X10_below (G := G) e4) ?_
  obtain ⟨c6, h⟩ := x_ckk h
  obtain ⟨c7, h⟩ := x_ckk h
  refine x_iast dL_randomDesk_203 c6 (xb_in c7) rfl ?_
  obtain ⟨N8, eN8, h⟩ := x_lt h
  refine x_nmM eN8 ?_
  refine x_dup dL_randomDesk_204 rfl ?_
  refine x_iconst (v := 1) dL_randomDesk_205 rfl ?_
  refine x_iconst (v := 1) dL_randomDesk_206 rfl ?_
  refine x_aload_n 2 dL_randomDesk_207 rfl rfl ?_
  refine x_aload_n 2 dL_randomDesk_208 rfl rfl ?_
  refine x_iconst (v := 2) dL_randomDesk_209 rfl ?_
  obtain ⟨c9, h⟩ := x_ckk h
  obtain ⟨r10, N12, e11, h⟩ := x_bd2 h
  refine x_nV (b := p_2) (As := [.int 2]) (ci := 10) (R' := xR 1 0 0) (zz := yX10_below) dL_randomDesk_210 ml_L_118 wi_X10_below wv_X10_below wn_X10 wc_X10_below hp_X10_below ⟨Nat.le_of_ble_eq_true rfl, Nat.le_of_ble_eq_true rfl⟩ rfl (Nat.le_of_ble_eq_true rfl) c2 vc_X10 c9 (T_X10_below (G := G) e11) ?_
  rcases x_if h with ⟨c13, h⟩ | ⟨c13, h⟩
  · refine x_if_ne_f (tgt := 221) dL_randomDesk_213 (by decide) c13 ?_
    refine x_bipush (v := 20) dL_randomDesk_216 rfl ?_
    refine x_goto (tgt := 222) dL_randomDesk_218 (by decide) ?_
    exact T_L_randomDesk_222 (G := G) hK169 Y q p_0 p_1 p_2 p_3 v_4 v_5 20 p_2 1 1 o4 o4 o5 o6 k n N12 h
  · refine x_if_ne_t (tgt := 221) dL_randomDesk_213 (by decide) c13 ?_
    refine x_iconst (v := 3) dL_randomDesk_221 rfl ?_
    exact T_L_randomDesk_222 (G := G) hK169 Y q p_0 p_1 p_2 p_3 v_4 v_5 3 p_2 1 1 o4 o4 o5 o6 k n N12 h
set_option maxHeartbeats 4000000 in
set_option maxRecDepth 100000 in
theorem T_L_randomDesk_169 {G : XG} {tb : List ExceptionTableEntry} {rz : Nat} {Yz : XY} {qz : Nat} {Nz : XN} : ∀ (D9 : Nat) (Y : XY) (q : Nat) (p_0 : Nat) (p_1 : Nat) (p_2 : Nat) (p_3 : Nat) (v_4 : Int32) (v_5 : Int32) (k : Nat) (n : Nat) (N : XN), f_L_randomDesk_169 (xS G) (xSv G) D9 Y q p_0 p_1 p_2 p_3 v_4 v_5 k n N = some (rz, Yz, qz, Nz) → ExZ G yL_randomDesk cL_randomDesk 10 (some (.object "LineLeasesLaw$Desk")) tb (xR 33 400 40000) (xZn G (xR 33 400 40000) (some (.ref rz)) Yz Nz) k n 169 [(0, .ref p_0), (1, .ref p_1), (2, .ref p_2), (3, .ref p_3), (4, .int v_4), (5, .int v_5)] [] Y N := by
  intro D9
  induction D9 with
  | zero => intro Y q p_0 p_1 p_2 p_3 v_4 v_5 k n N h; exact nomatch (show none = some _ from h)
  | succ D9 ih =>
    intro Y q p_0 p_1 p_2 p_3 v_4 v_5 k n N h
    rw [f_L_randomDesk_169] at h
    refine x_iload 5 dL_randomDesk_169 rfl ?_
    rcases x_if h with ⟨c1, h⟩ | ⟨c1, h⟩
    · refine x_if_le_t (tgt := 386) dL_randomDesk_171 (by decide) c1 ?_
      refine x_aload_n 3 dL_randomDesk_386 rfl rfl ?_
      obtain ⟨c2, h⟩ := x_ckk h
      obtain ⟨c4, h⟩ := x_ckk h
      obtain ⟨p3, lp3, h⟩ := x_lt h
      have ep3 : gr Y p_3 4 = some p3 := by rw [lp3]; exact c4
      refine x_getr dL_randomDesk_387 vc_X8 xin8 fb_X8_4 fl_L_138 xr_X8_4 c2 ep3 ?_
      obtain ⟨c5, h⟩ := x_ckk h
      refine x_rlen (j := 4) dL_randomDesk_390 (by decide) c5 rfl ?_
      rcases x_if h with ⟨c6, h⟩ | ⟨c6, h⟩
      · refine x_if_ne_f (tgt := 398) dL_randomDesk_391 (by decide) c6 ?_
        refine x_iconst (v := 0) dL_randomDesk_394 rfl ?_
        refine x_goto (tgt := 404) dL_randomDesk_395 (by decide) ?_
        refine x_istore (L' := [(0, .ref p_0), (1, .ref p_1), (2, .ref p_2), (3, .ref p_3), (5, .int 0)]) [1, 2, 3, 4, 0] dL_randomDesk_404 (by decide) rfl ?_
        exact T_L_randomDesk_406 (G := G) FU Y q p_0 p_1 p_2 p_3 0 k n N h
      · refine x_if_ne_t (tgt := 398) dL_randomDesk_391 (by decide) c6 ?_
        refine x_aload_n 2 dL_randomDesk_398 rfl rfl ?_
        refine x_bipush (v := 10) dL_randomDesk_399 rfl ?_
        obtain ⟨c7, h⟩ := x_ckk h
        obtain ⟨c8, h⟩ := x_ckk h
        obtain ⟨r9, N11, e10, h⟩ := x_bd2 h
        refine x_nV (b := p_2) (As := [.int 10]) (ci := 10) (R' := xR 1 0 0) (zz := yX10_below) dL_randomDesk_401 ml_L_118 wi_X10_below wv_X10_below wn_X10 wc_X10_below hp_X10_below ⟨Nat.le_of_ble_eq_true rfl, Nat.le_of_ble_eq_true rfl⟩ rfl (Nat.le_of_ble_eq_true rfl) c8 vc_X10 c7 (T_X10_below (G := G) e10) ?_
        refine x_istore (L' := [(0, .ref p_0), (1, .ref p_1), (2, .ref p_2), (3, .ref p_3), (5, .int r9)]) [1, 2, 3, 4, 0] dL_randomDesk_404 (by decide) rfl ?_
        exact T_L_randomDesk_406 (G := G) FU Y q p_0 p_1 p_2 p_3 r9 k n N11 h
    · refine x_if_le_f (tgt := 386) dL_randomDesk_171 (by decide) c1 ?_
      refine x_aload_n 3 dL_randomDesk_174 rfl rfl ?_
      refine x_aload_n 3 dL_randomDesk_175 rfl rfl ?_
      obtain ⟨c12, h⟩ := x_ckk h
      obtain ⟨c14, h⟩ := x_ckk h
      obtain ⟨p13, lp13, h⟩ := x_lt h
      have ep13 : gr Y p_3 4 = some p13 := by rw [lp13]; exact c14
      refine x_getr dL_randomDesk_176 vc_X8 xin8 fb_X8_4 fl_L_138 xr_X8_4 c12 ep13 ?_
      refine x_iconst (v := 3) dL_randomDesk_179 rfl ?_
      obtain ⟨c15, h⟩ := x_ckk h
      obtain ⟨c16, h⟩ := x_ckk h
      refine x_newP (q := q) (M := 3) (kd := 1) dL_randomDesk_180 rfl ac9_int (by decide) rfl (by decide) (Or.inl ⟨rfl, rfl, rfl⟩) c15.1 c16 ?_
      obtain ⟨Y17, eY17, h⟩ := x_lt h
      refine x_nmY eY17 ?_
      obtain ⟨N18, eN18, h⟩ := x_lt h
      refine x_nmM eN18 ?_
      have k19 : kc Y17 q = 1 := by rw [eY17]; exact kcq rfl
      refine x_dup dL_randomDesk_182 rfl ?_
      refine x_iconst (v := 0) dL_randomDesk_183 rfl ?_
      refine x_aload_n 2 dL_randomDesk_184 rfl rfl ?_
      refine x_aload_n 2 dL_randomDesk_185 rfl rfl ?_
      refine x_iconst (v := 3) dL_randomDesk_186 rfl ?_
      obtain ⟨c20, h⟩ := x_ckk h
      obtain ⟨r21, N23, e22, h⟩ := x_bd2 h
      refine x_nV (b := p_2) (As := [.int 3]) (ci := 10) (R' := xR 1 0 0) (zz := yX10_below) dL_randomDesk_187 ml_L_118 wi_X10_below wv_X10_below wn_X10 wc_X10_below hp_X10_below ⟨Nat.le_of_ble_eq_true rfl, Nat.le_of_ble_eq_true rfl⟩ rfl (Nat.le_of_ble_eq_true rfl) c16 vc_X10 c20 (T_X10_below (G := G) e22) ?_
      rcases x_if h with ⟨c24, h⟩ | ⟨c24, h⟩
      · refine x_if_ne_f (tgt := 198) dL_randomDesk_190 (by decide) c24 ?_
        refine x_bipush (v := 100) dL_randomDesk_193 rfl ?_
        refine x_goto (tgt := 200) dL_randomDesk_195 (by decide) ?_
        exact T_L_randomDesk_200 (G := G) ih Y17 (q + 1) p_0 p_1 p_2 p_3 v_4 v_5 100 p_2 0 q q p13 p_3 (k + 1) (n + 3) N23 h
      · refine x_if_ne_t (tgt := 198) dL_randomDesk_190 (by decide) c24 ?_
        refine x_bipush (v := 12) dL_randomDesk_198 rfl ?_
        exact T_L_randomDesk_200 (G := G) ih Y17 (q + 1) p_0 p_1 p_2 p_3 v_4 v_5 12 p_2 0 q q p13 p_3 (k + 1) (n + 3) N23 h
set_option maxHeartbeats 4000000 in
set_option maxRecDepth 100000 in
theorem T_L_randomDesk_77 {G : XG} {tb : List ExceptionTableEntry} {rz : Nat} {Yz : XY} {qz : Nat} {Nz : XN} {K22 : XY → Nat → Nat → Nat → Nat → Nat → Int32 → Nat → Nat → XN → Option (Nat × XY × Nat × XN)} (hK22 : ∀ (Y : XY) (q : Nat) (p_0 : Nat) (p_1 : Nat) (p_2 : Nat) (p_3 : Nat) (v_4 : Int32) (k : Nat) (n : Nat) (N : XN), K22 Y q p_0 p_1 p_2 p_3 v_4 k n N = some (rz, Yz, qz, Nz) → ExZ G yL_randomDesk cL_randomDesk 10 (some (.object "LineLeasesLaw$Desk")) tb (xR 33 400 40000) (xZn G (xR 33 400 40000) (some (.ref rz)) Yz Nz) k n 22 [(0, .ref p_0), (1, .ref p_1), (2, .ref p_2), (3, .ref p_3), (4, .int v_4)] [] Y N) (Y : XY) (q : Nat) (p_0 : Nat) (p_1 : Nat) (p_2 : Nat) (p_3 : Nat) (v_4 : Int32) (s0 : Int32) (o1 : Nat) (s2 : Int32) (s3 : Int32) (o4 : Nat) (o5 : Nat) (o6 : Nat) (o7 : Nat) (k : Nat) (n : Nat) (N : XN) (h : f_L_randomDesk_77 (xS G) (xSv G) K22 Y q p_0 p_1 p_2 p_3 v_4 s0 o1 s2 s3 o4 o5 o6 o7 k n N = some (rz, Yz, qz, Nz)) : ExZ G yL_randomDesk cL_randomDesk 10 (some (.object "LineLeasesLaw$Desk")) tb (xR 33 400 40000) (xZn G (xR 33 400 40000) (some (.ref rz)) Yz Nz) k n 77 [(0, .ref p_0), (1, .ref p_1), (2, .ref p_2), (3, .ref p_3), (4, .int v_4)] [.int s0, .ref o1, .int s2, .int s3, .ref o4, .ref o5, .ref o6, .ref o7] Y N := by
  rw [f_L_randomDesk_77] at h
  obtain ⟨c1, h⟩ := x_ckk h
  obtain ⟨c2, h⟩ := x_ckk h
  obtain ⟨r3, N5, e4, h⟩ := x_bd2 h
  refine x_nV (b := o1) (As := [.int s0]) (ci := 10) (R' := xR 1 0 0) (zz := yX10_below) dL_randomDesk_77 ml_L_118 wi_X10_below wv_X10_below wn_X10 wc_X10_below hp_X10_below ⟨Nat.le_of_ble_eq_true rfl, Nat.le_of_ble_eq_true rfl⟩ rfl (Nat.le_of_ble_eq_true rfl) c2 vc_X10 c1 (T_X10_below (G := G) e4) ?_
  refine x_iadd dL_randomDesk_80 ?_
  obtain ⟨c6, h⟩ := x_ckk h
  obtain ⟨c7, h⟩ := x_ckk h
  refine x_iast dL_randomDesk_81 c6 (xb_in c7) rfl ?_
  obtain ⟨N8, eN8, h⟩ := x_lt h
  refine x_nmM eN8 ?_
  refine x_dup dL_randomDesk_82 rfl ?_
  refine x_iconst (v := 2) dL_randomDesk_83 rfl ?_
  refine x_iconst (v := 0) dL_randomDesk_84 rfl ?_
  obtain ⟨c9, h⟩ := x_ckk h
  obtain ⟨c10, h⟩ := x_ckk h
  refine x_iast dL_randomDesk_85 c9 (xb_in c10) xj_2 ?_
  obtain ⟨N11, eN11, h⟩ := x_lt h
  refine x_nmM eN11 ?_
  refine x_dup dL_randomDesk_86 rfl ?_
  refine x_iconst (v := 3) dL_randomDesk_87 rfl ?_
  refine x_iconst (v := 0) dL_randomDesk_88 rfl ?_
  obtain ⟨c12, h⟩ := x_ckk h
  refine x_iast dL_randomDesk_89 c9 (xb_in c12) xj_3 ?_
  obtain ⟨N13, eN13, h⟩ := x_lt h
  refine x_nmM eN13 ?_
  refine x_dup dL_randomDesk_90 rfl ?_
  refine x_iconst (v := 4) dL_randomDesk_91 rfl ?_
  refine x_iconst (v := 0) dL_randomDesk_92 rfl ?_
  obtain ⟨c14, h⟩ := x_ckk h
  refine x_iast dL_randomDesk_93 c9 (xb_in c14) xj_4 ?_
  obtain ⟨N15, eN15, h⟩ := x_lt h
  refine x_nmM eN15 ?_
  refine x_dup dL_randomDesk_94 rfl ?_
  refine x_iconst (v := 5) dL_randomDesk_95 rfl ?_
  refine x_iconst (v := 0) dL_randomDesk_96 rfl ?_
  obtain ⟨c16, h⟩ := x_ckk h
  refine x_iast dL_randomDesk_97 c9 (xb_in c16) xj_5 ?_
  obtain ⟨N17, eN17, h⟩ := x_lt h
  refine x_nmM eN17 ?_
  obtain ⟨c18, h⟩ := x_ckk h
  obtain ⟨r19, Y21, q22, N23, e20, h⟩ := x_bd4 h
  refine x_nS (As := [.ref o6, .ref o5]) (R' := xR 1 1 64) (zz := yL_with) dL_randomDesk_98 ml_L_127 wt_L_with wn_L wc_L_with hp_L_with ⟨Nat.le_of_ble_eq_true rfl, Nat.le_of_ble_eq_true rfl⟩ rfl (Nat.le_of_ble_eq_true rfl) c18 (T_L_with (G := G) e20) ?_
  obtain ⟨c24, h⟩ := x_ckk h
  refine x_putr dL_randomDesk_101 vc_X8 xin8 tyX8_ok nmX8 fb_X8_3 fl_L_123 ff_X8_3 xr_X8_3 rfl rfl c24 ?_
  obtain ⟨Y25, eY25, h⟩ := x_lt h
  refine x_nmY eY25 ?_
  refine x_aload_n 3 dL_randomDesk_104 rfl rfl ?_
  obtain ⟨c26, h⟩ := x_ckk h
  obtain ⟨c28, h⟩ := x_ckk h
  obtain ⟨p27, lp27, h⟩ := x_lt h
  have ep27 : gr Y25 p_3 3 = some p27 := by rw [lp27]; exact c28
  refine x_getr dL_randomDesk_105 vc_X8 xin8 fb_X8_3 fl_L_123 xr_X8_3 c26 ep27 ?_
  refine x_aload_n 3 dL_randomDesk_108 rfl rfl ?_
  refine x_getr dL_randomDesk_109 vc_X8 xin8 fb_X8_3 fl_L_123 xr_X8_3 c26 ep27 ?_
  obtain ⟨c29, h⟩ := x_ckk h
  refine x_rlen (j := 4) dL_randomDesk_112 (by decide) c29 rfl ?_
  refine x_iconst (v := 1) dL_randomDesk_113 rfl ?_
  refine x_isub dL_randomDesk_114 ?_
  obtain ⟨c30, h⟩ := x_ckk h
  obtain ⟨c32, h⟩ := x_ckk h
  obtain ⟨p31, lp31, h⟩ := x_lt h
  have ep31 : gr Y25 p27 ((Int32.ofNat (kn Y25 p27)) - 1).toNatClampNeg = some p31 := by rw [lp31]; exact c32
  refine x_aald (j := 4) dL_randomDesk_115 (by decide) c29 (xb_in c30) ep31 ?_
  refine x_astore (L' := [(0, .ref p_0), (1, .ref p_1), (2, .ref p_2), (3, .ref p_3), (4, .int v_4), (5, .ref p31)]) [1, 2, 3, 4, 5, 0] dL_randomDesk_116 (by decide) rfl ?_
  refine x_aload_n 0 dL_randomDesk_118 rfl rfl ?_
  refine x_aload_n 1 dL_randomDesk_119 rfl rfl ?_
  refine x_ldcS (tx := "handler") (i := 15) dL_randomDesk_120 (by decide) ?_
  refine x_iconst (v := 2) dL_randomDesk_122 rfl ?_
  obtain ⟨c33, h⟩ := x_ckk h
  obtain ⟨c34, h⟩ := x_ckk h
  refine x_newP (q := q22) (M := 2) (kd := 1) dL_randomDesk_123 rfl ac9_int (by decide) rfl (by decide) (Or.inl ⟨rfl, rfl, rfl⟩) c33.1 c34 ?_
  obtain ⟨Y35, eY35, h⟩ := x_lt h
  refine x_nmY eY35 ?_
  obtain ⟨N36, eN36, h⟩ := x_lt h
  refine x_nmM eN36 ?_
  have k37 : kc Y35 q22 = 1 := by rw [eY35]; exact kcq rfl
  refine x_dup dL_randomDesk_125 rfl ?_
  refine x_iconst (v := 0) dL_randomDesk_126 rfl ?_
  refine x_aload 5 dL_randomDesk_127 rfl ?_
  refine x_iconst (v := 0) dL_randomDesk_129 rfl ?_
  obtain ⟨c38, h⟩ := x_ckk h
  obtain ⟨c39, h⟩ := x_ckk h
  refine x_iald dL_randomDesk_130 c38 (xb_in c39) xj_0 ?_
  obtain ⟨c40, h⟩ := x_ckk h
  refine x_iast dL_randomDesk_131 k37 (xb_in c40) xj_0 ?_
  obtain ⟨N41, eN41, h⟩ := x_lt h
  refine x_nmM eN41 ?_
  refine x_dup dL_randomDesk_132 rfl ?_
  refine x_iconst (v := 1) dL_randomDesk_133 rfl ?_
  refine x_aload 5 dL_randomDesk_134 rfl ?_
  refine x_iconst (v := 1) dL_randomDesk_136 rfl ?_
  obtain ⟨c42, h⟩ := x_ckk h
  refine x_iald dL_randomDesk_137 c38 (xb_in c42) xj_1 ?_
  obtain ⟨c43, h⟩ := x_ckk h
  refine x_iast dL_randomDesk_138 k37 (xb_in c43) xj_1 ?_
  obtain ⟨N44, eN44, h⟩ := x_lt h
  refine x_nmM eN44 ?_
  obtain ⟨w45, h⟩ := x_ckW h
  obtain ⟨N47, e46, h⟩ := x_bd1 h
  refine x_nS (As := [.ref p_0, .ref p_1, .ref (xS G 15), .ref q22]) (R' := xR 6 0 0) (zz := yL_writeNumbers) dL_randomDesk_139 ml_L_132 wt_L_writeNumbers wn_L wc_L_writeNumbers hp_L_writeNumbers ⟨Nat.le_of_ble_eq_true rfl, Nat.le_of_ble_eq_true rfl⟩ rfl (Nat.le_of_ble_eq_true rfl) c34 (T_L_writeNumbers (G := G) w45 e46) ?_
  refine x_aload_n 0 dL_randomDesk_142 rfl rfl ?_
  refine x_aload_n 1 dL_randomDesk_143 rfl rfl ?_
  refine x_ldcS (tx := ";") (i := 16) dL_randomDesk_144 (by decide) ?_
  obtain ⟨w48, h⟩ := x_ckW h
  obtain ⟨N50, e49, h⟩ := x_bd1 h
  refine x_nS (As := [.ref p_0, .ref p_1, .ref (xS G 16)]) (R' := xR 5 0 0) (zz := yL_write) dL_randomDesk_146 ml_L_104 wt_L_write wn_L wc_L_write hp_L_write ⟨Nat.le_of_ble_eq_true rfl, Nat.le_of_ble_eq_true rfl⟩ rfl (Nat.le_of_ble_eq_true rfl) c34 (T_L_write (G := G) w48 e49) ?_
  refine x_iinc (L' := [(0, .ref p_0), (1, .ref p_1), (2, .ref p_2), (3, .ref p_3), (4, .int (v_4 + (-1)))]) 4 [1, 2, 3, 4, 0] dL_randomDesk_149 rfl rfl (by decide) rfl ?_
  refine x_goto (tgt := 22) dL_randomDesk_152 (by decide) ?_
  exact hK22 Y35 (q22 + 1) p_0 p_1 p_2 p_3 (v_4 + (-1)) (k + 1 + 1) (n + 64 + 2) N50 h
set_option maxHeartbeats 4000000 in
set_option maxRecDepth 100000 in
theorem T_L_randomDesk_55 {G : XG} {tb : List ExceptionTableEntry} {rz : Nat} {Yz : XY} {qz : Nat} {Nz : XN} {K22 : XY → Nat → Nat → Nat → Nat → Nat → Int32 → Nat → Nat → XN → Option (Nat × XY × Nat × XN)} (hK22 : ∀ (Y : XY) (q : Nat) (p_0 : Nat) (p_1 : Nat) (p_2 : Nat) (p_3 : Nat) (v_4 : Int32) (k : Nat) (n : Nat) (N : XN), K22 Y q p_0 p_1 p_2 p_3 v_4 k n N = some (rz, Yz, qz, Nz) → ExZ G yL_randomDesk cL_randomDesk 10 (some (.object "LineLeasesLaw$Desk")) tb (xR 33 400 40000) (xZn G (xR 33 400 40000) (some (.ref rz)) Yz Nz) k n 22 [(0, .ref p_0), (1, .ref p_1), (2, .ref p_2), (3, .ref p_3), (4, .int v_4)] [] Y N) (Y : XY) (q : Nat) (p_0 : Nat) (p_1 : Nat) (p_2 : Nat) (p_3 : Nat) (v_4 : Int32) (s0 : Int32) (o1 : Nat) (s2 : Int32) (o3 : Nat) (o4 : Nat) (o5 : Nat) (o6 : Nat) (k : Nat) (n : Nat) (N : XN) (h : f_L_randomDesk_55 (xS G) (xSv G) K22 Y q p_0 p_1 p_2 p_3 v_4 s0 o1 s2 o3 o4 o5 o6 k n N = some (rz, Yz, qz, Nz)) : ExZ G yL_randomDesk cL_randomDesk 10 (some (.object "LineLeasesLaw$Desk")) tb (xR 33 400 40000) (xZn G (xR 33 400 40000) (some (.ref rz)) Yz Nz) k n 55 [(0, .ref p_0), (1, .ref p_1), (2, .ref p_2), (3, .ref p_3), (4, .int v_4)] [.int s0, .ref o1, .int s2, .ref o3, .ref o4, .ref o5, .ref o6] Y N := by
  rw [f_L_randomDesk_55] at h
  obtain ⟨c1, h⟩ := x_ckk h
  obtain ⟨c2, h⟩ := x_ckk h
  obtain ⟨r3, N5, e4, h⟩ := x_bd2 h
  refine x_nV (b := o1) (As := [.int s0]) (ci := 10) (R' := xR 1 0 0) (zz := yX10_below) dL_randomDesk_55 ml_L_118 wi_X10_below wv_X10_below wn_X10 wc_X10_below hp_X10_below ⟨Nat.le_of_ble_eq_true rfl, Nat.le_of_ble_eq_true rfl⟩ rfl (Nat.le_of_ble_eq_true rfl) c2 vc_X10 c1 (T_X10_below (G := G) e4) ?_
  obtain ⟨c6, h⟩ := x_ckk h
  obtain ⟨c7, h⟩ := x_ckk h
  refine x_iast dL_randomDesk_58 c6 (xb_in c7) rfl ?_
  obtain ⟨N8, eN8, h⟩ := x_lt h
  refine x_nmM eN8 ?_
  refine x_dup dL_randomDesk_59 rfl ?_
  refine x_iconst (v := 1) dL_randomDesk_60 rfl ?_
  refine x_iconst (v := 1) dL_randomDesk_61 rfl ?_
  refine x_aload_n 2 dL_randomDesk_62 rfl rfl ?_
  refine x_aload_n 2 dL_randomDesk_63 rfl rfl ?_
  refine x_iconst (v := 3) dL_randomDesk_64 rfl ?_
  obtain ⟨c9, h⟩ := x_ckk h
  obtain ⟨r10, N12, e11, h⟩ := x_bd2 h
  refine x_nV (b := p_2) (As := [.int 3]) (ci := 10) (R' := xR 1 0 0) (zz := yX10_below) dL_randomDesk_65 ml_L_118 wi_X10_below wv_X10_below wn_X10 wc_X10_below hp_X10_below ⟨Nat.le_of_ble_eq_true rfl, Nat.le_of_ble_eq_true rfl⟩ rfl (Nat.le_of_ble_eq_true rfl) c2 vc_X10 c9 (T_X10_below (G := G) e11) ?_
  rcases x_if h with ⟨c13, h⟩ | ⟨c13, h⟩
  · refine x_if_ne_f (tgt := 76) dL_randomDesk_68 (by decide) c13 ?_
    refine x_bipush (v := 20) dL_randomDesk_71 rfl ?_
    refine x_goto (tgt := 77) dL_randomDesk_73 (by decide) ?_
    exact T_L_randomDesk_77 (G := G) hK22 Y q p_0 p_1 p_2 p_3 v_4 20 p_2 1 1 o4 o4 o5 o6 k n N12 h
  · refine x_if_ne_t (tgt := 76) dL_randomDesk_68 (by decide) c13 ?_
    refine x_iconst (v := 4) dL_randomDesk_76 rfl ?_
    exact T_L_randomDesk_77 (G := G) hK22 Y q p_0 p_1 p_2 p_3 v_4 4 p_2 1 1 o4 o4 o5 o6 k n N12 h
set_option maxHeartbeats 4000000 in
set_option maxRecDepth 100000 in
theorem T_L_randomDesk_22 {G : XG} {tb : List ExceptionTableEntry} {rz : Nat} {Yz : XY} {qz : Nat} {Nz : XN} : ∀ (D9 : Nat) (Y : XY) (q : Nat) (p_0 : Nat) (p_1 : Nat) (p_2 : Nat) (p_3 : Nat) (v_4 : Int32) (k : Nat) (n : Nat) (N : XN), f_L_randomDesk_22 (xS G) (xSv G) D9 Y q p_0 p_1 p_2 p_3 v_4 k n N = some (rz, Yz, qz, Nz) → ExZ G yL_randomDesk cL_randomDesk 10 (some (.object "LineLeasesLaw$Desk")) tb (xR 33 400 40000) (xZn G (xR 33 400 40000) (some (.ref rz)) Yz Nz) k n 22 [(0, .ref p_0), (1, .ref p_1), (2, .ref p_2), (3, .ref p_3), (4, .int v_4)] [] Y N := by
  intro D9
  induction D9 with
  | zero => intro Y q p_0 p_1 p_2 p_3 v_4 k n N h; exact nomatch (show none = some _ from h)
  | succ D9 ih =>
    intro Y q p_0 p_1 p_2 p_3 v_4 k n N h
    rw [f_L_randomDesk_22] at h
    refine x_iload 4 dL_randomDesk_22 rfl ?_
    rcases x_if h with ⟨c1, h⟩ | ⟨c1, h⟩
    · refine x_if_le_t (tgt := 155) dL_randomDesk_24 (by decide) c1 ?_
      refine x_aload_n 3 dL_randomDesk_155 rfl rfl ?_
      obtain ⟨c2, h⟩ := x_ckk h
      obtain ⟨c4, h⟩ := x_ckk h
      obtain ⟨p3, lp3, h⟩ := x_lt h
      have ep3 : gr Y p_3 3 = some p3 := by rw [lp3]; exact c4
      refine x_getr dL_randomDesk_156 vc_X8 xin8 fb_X8_3 fl_L_123 xr_X8_3 c2 ep3 ?_
      obtain ⟨c5, h⟩ := x_ckk h
      refine x_rlen (j := 4) dL_randomDesk_159 (by decide) c5 rfl ?_
      refine x_istore (L' := [(0, .ref p_0), (1, .ref p_1), (2, .ref p_2), (3, .ref p_3), (4, .int (Int32.ofNat (kn Y p3)))]) [1, 2, 3, 4, 0] dL_randomDesk_160 (by decide) rfl ?_
      refine x_aload_n 2 dL_randomDesk_162 rfl rfl ?_
      refine x_iconst (v := 4) dL_randomDesk_163 rfl ?_
      obtain ⟨c6, h⟩ := x_ckk h
      obtain ⟨c7, h⟩ := x_ckk h
      obtain ⟨r8, N10, e9, h⟩ := x_bd2 h
      refine x_nV (b := p_2) (As := [.int 4]) (ci := 10) (R' := xR 1 0 0) (zz := yX10_below) dL_randomDesk_164 ml_L_118 wi_X10_below wv_X10_below wn_X10 wc_X10_below hp_X10_below ⟨Nat.le_of_ble_eq_true rfl, Nat.le_of_ble_eq_true rfl⟩ rfl (Nat.le_of_ble_eq_true rfl) c7 vc_X10 c6 (T_X10_below (G := G) e9) ?_
      refine x_istore (L' := [(0, .ref p_0), (1, .ref p_1), (2, .ref p_2), (3, .ref p_3), (4, .int (Int32.ofNat (kn Y p3))), (5, .int r8)]) [1, 2, 3, 4, 5, 0] dL_randomDesk_167 (by decide) rfl ?_
      exact T_L_randomDesk_169 (G := G) FU Y q p_0 p_1 p_2 p_3 (Int32.ofNat (kn Y p3)) r8 k n N10 h
    · refine x_if_le_f (tgt := 155) dL_randomDesk_24 (by decide) c1 ?_
      refine x_aload_n 3 dL_randomDesk_27 rfl rfl ?_
      refine x_aload_n 3 dL_randomDesk_28 rfl rfl ?_
      obtain ⟨c11, h⟩ := x_ckk h
      obtain ⟨c13, h⟩ := x_ckk h
      obtain ⟨p12, lp12, h⟩ := x_lt h
      have ep12 : gr Y p_3 3 = some p12 := by rw [lp12]; exact c13
      refine x_getr dL_randomDesk_29 vc_X8 xin8 fb_X8_3 fl_L_123 xr_X8_3 c11 ep12 ?_
      refine x_bipush (v := 6) dL_randomDesk_32 rfl ?_
      obtain ⟨c14, h⟩ := x_ckk h
      obtain ⟨c15, h⟩ := x_ckk h
      refine x_newP (q := q) (M := 6) (kd := 1) dL_randomDesk_34 rfl ac9_int (by decide) rfl (by decide) (Or.inl ⟨rfl, rfl, rfl⟩) c14.1 c15 ?_
      obtain ⟨Y16, eY16, h⟩ := x_lt h
      refine x_nmY eY16 ?_
      obtain ⟨N17, eN17, h⟩ := x_lt h
      refine x_nmM eN17 ?_
      have k18 : kc Y16 q = 1 := by rw [eY16]; exact kcq rfl
      refine x_dup dL_randomDesk_36 rfl ?_
      refine x_iconst (v := 0) dL_randomDesk_37 rfl ?_
      refine x_aload_n 2 dL_randomDesk_38 rfl rfl ?_
      refine x_aload_n 2 dL_randomDesk_39 rfl rfl ?_
      refine x_iconst (v := 3) dL_randomDesk_40 rfl ?_
      obtain ⟨c19, h⟩ := x_ckk h
      obtain ⟨r20, N22, e21, h⟩ := x_bd2 h
      refine x_nV (b := p_2) (As := [.int 3]) (ci := 10) (R' := xR 1 0 0) (zz := yX10_below) dL_randomDesk_41 ml_L_118 wi_X10_below wv_X10_below wn_X10 wc_X10_below hp_X10_below ⟨Nat.le_of_ble_eq_true rfl, Nat.le_of_ble_eq_true rfl⟩ rfl (Nat.le_of_ble_eq_true rfl) c15 vc_X10 c19 (T_X10_below (G := G) e21) ?_
      rcases x_if h with ⟨c23, h⟩ | ⟨c23, h⟩
      · refine x_if_ne_f (tgt := 53) dL_randomDesk_44 (by decide) c23 ?_
        refine x_sipush (v := 1000) dL_randomDesk_47 rfl ?_
        refine x_goto (tgt := 55) dL_randomDesk_50 (by decide) ?_
        exact T_L_randomDesk_55 (G := G) ih Y16 (q + 1) p_0 p_1 p_2 p_3 v_4 1000 p_2 0 q q p12 p_3 (k + 1) (n + 6) N22 h
      · refine x_if_ne_t (tgt := 53) dL_randomDesk_44 (by decide) c23 ?_
        refine x_bipush (v := 30) dL_randomDesk_53 rfl ?_
        exact T_L_randomDesk_55 (G := G) ih Y16 (q + 1) p_0 p_1 p_2 p_3 v_4 30 p_2 0 q q p12 p_3 (k + 1) (n + 6) N22 h
set_option maxHeartbeats 4000000 in
set_option maxRecDepth 100000 in
theorem T_L_randomDesk {G : XG} {Y : XY} {q : Nat} {a0 : Nat} {a1 : Nat} {a2 : Nat} {N : XN} {rz : Nat} {Yz : XY} {qz : Nat} {Nz : XN} (h : f_L_randomDesk (xS G) (xSv G) Y q a0 a1 a2 N = some (rz, Yz, qz, Nz)) : Cn G yL_randomDesk cL_randomDesk 10 (some (.object "LineLeasesLaw$Desk")) (xR 33 400 40000) [.ref a0, .ref a1, .ref a2] (some (.ref rz)) Y N Yz Nz := by
  refine x_entryN (by decide) (Nat.le_of_ble_eq_true rfl) rfl fun tb => ?_
  rw [f_L_randomDesk] at h
  obtain ⟨c1, h⟩ := x_ckk h
  refine x_newO (q := q) (ci := 8) dL_randomDesk_0 vc_X8 xin8 tyX8_ok kl9_L_113 it9_X8 wn_X8 (fun j hj => match j, hj with | 0, _ => rfl | 1, _ => rfl | 2, _ => rfl | 3, _ => rfl | 4, _ => rfl | 5, _ => rfl | 6, _ => rfl | 7, _ => rfl | z + 8, h => absurd h (by omega)) c1.1 ⟨Nat.le_of_ble_eq_true rfl, Nat.le_of_ble_eq_true rfl⟩ ?_
  obtain ⟨Y2, eY2, h⟩ := x_lt h
  refine x_nmY eY2 ?_
  obtain ⟨N3, eN3, h⟩ := x_lt h
  refine x_nmM eN3 ?_
  have k4 : kc Y2 q = 18 := by rw [eY2]; exact kcq rfl
  refine x_dup dL_randomDesk_3 rfl ?_
  obtain ⟨Y6, q7, N8, e5, h⟩ := x_bd3 h
  refine x_initNL (b := q) (As := []) (R' := xR 1 5 5) (zz := yX8_init) dL_randomDesk_4 (by decide) wi_X8_init wn_X8 wc_X8_init rfl hp_X8_init ⟨Nat.le_of_ble_eq_true rfl, Nat.le_of_ble_eq_true rfl⟩ rfl (Nat.le_of_ble_eq_true rfl) ⟨Nat.le_of_ble_eq_true rfl, Nat.le_of_ble_eq_true rfl⟩ (T_X8_init (G := G) e5) ?_
  refine x_astore_n (L' := [(0, .ref a0), (1, .ref a1), (2, .ref a2), (3, .ref q)]) [1, 2, 3, 0] dL_randomDesk_7 rfl (by decide) rfl ?_
  refine x_aload_n 0 dL_randomDesk_8 rfl rfl ?_
  refine x_aload_n 1 dL_randomDesk_9 rfl rfl ?_
  refine x_ldcS (tx := "lines;") (i := 14) dL_randomDesk_10 (by decide) ?_
  obtain ⟨w9, h⟩ := x_ckW h
  obtain ⟨N11, e10, h⟩ := x_bd1 h
  refine x_nS (As := [.ref a0, .ref a1, .ref (xS G 14)]) (R' := xR 5 0 0) (zz := yL_write) dL_randomDesk_12 ml_L_104 wt_L_write wn_L wc_L_write hp_L_write ⟨Nat.le_of_ble_eq_true rfl, Nat.le_of_ble_eq_true rfl⟩ rfl (Nat.le_of_ble_eq_true rfl) ⟨Nat.le_of_ble_eq_true rfl, Nat.le_of_ble_eq_true rfl⟩ (T_L_write (G := G) w9 e10) ?_
  refine x_aload_n 2 dL_randomDesk_15 rfl rfl ?_
  refine x_iconst (v := 5) dL_randomDesk_16 rfl ?_
  obtain ⟨c12, h⟩ := x_ckk h
  obtain ⟨r13, N15, e14, h⟩ := x_bd2 h
  refine x_nV (b := a2) (As := [.int 5]) (ci := 10) (R' := xR 1 0 0) (zz := yX10_below) dL_randomDesk_17 ml_L_118 wi_X10_below wv_X10_below wn_X10 wc_X10_below hp_X10_below ⟨Nat.le_of_ble_eq_true rfl, Nat.le_of_ble_eq_true rfl⟩ rfl (Nat.le_of_ble_eq_true rfl) ⟨Nat.le_of_ble_eq_true rfl, Nat.le_of_ble_eq_true rfl⟩ vc_X10 c12 (T_X10_below (G := G) e14) ?_
  refine x_istore (L' := [(0, .ref a0), (1, .ref a1), (2, .ref a2), (3, .ref q), (4, .int r13)]) [1, 2, 3, 4, 0] dL_randomDesk_20 (by decide) rfl ?_
  exact T_L_randomDesk_22 (G := G) FU Y6 q7 a0 a1 a2 q r13 6 13 N15 h
