set_option maxHeartbeats 4000000 in
set_option maxRecDepth 100000 in
theorem T_X0_copyOf_10 {G : XG} {Y : XY} (hw : WT Y) {N9 : XN}: ∀ (D9 : Nat) (p_0 : Nat) (p_1 : Nat) (v_2 : Int32) (N : XN), kc Y p_0 = 10 → kc Y p_1 = 10 → f_X0_copyOf_10 Y D9 p_0 p_1 v_2 N = some N9 → Ex G yX0_copyOf cX0_copyOf 3 none (xR 1 0 0) (.inl none) Y N9 0 0 10 [(0, .ref p_0), (1, .ref p_1), (2, .int v_2)] [] Y N := by
  intro D9
  induction D9 with
  | zero => intro p_0 p_1 v_2 N kk0 kk1 h; exact nomatch (show none = some _ from h)
  | succ D9 ih =>
    intro p_0 p_1 v_2 N kk0 kk1 h
    rw [f_X0_copyOf_10] at h
    refine x_iload_n 2 dX0_copyOf_10 rfl rfl ?_
    refine x_aload_n 0 dX0_copyOf_11 rfl rfl ?_
    refine x_geti dX0_copyOf_12 vc_X0 xin0 fb_X0_1 fl_X0_18 xr_X0_1 kk0 ?_
    rcases x_if h with ⟨c1, h⟩ | ⟨c1, h⟩
    · refine x_icmp_ge_t (tgt := 36) dX0_copyOf_15 (by decide) c1 ?_
      obtain rfl := x_so h
      exact x_vret dX0_copyOf_36 rfl rfl rfl
    · refine x_icmp_ge_f (tgt := 36) dX0_copyOf_15 (by decide) c1 ?_
      refine x_aload_n 0 dX0_copyOf_18 rfl rfl ?_
      obtain ⟨g2, k3, n4⟩ := wt_X0_0 hw kk0
      refine x_getr dX0_copyOf_19 vc_X0 xin0 fb_X0_0 fl_X0_9 xr_X0_0 kk0 g2 ?_
      refine x_iload_n 2 dX0_copyOf_22 rfl rfl ?_
      refine x_aload_n 1 dX0_copyOf_23 rfl rfl ?_
      obtain ⟨g5, k6, n7⟩ := wt_X0_0 hw kk1
      refine x_getr dX0_copyOf_24 vc_X0 xin0 fb_X0_0 fl_X0_9 xr_X0_0 kk1 g5 ?_
      refine x_iload_n 2 dX0_copyOf_27 rfl rfl ?_
      obtain ⟨c8, h⟩ := x_ck h
      refine x_iald dX0_copyOf_28 k6 (xb_at n7 c8) rfl ?_
      obtain ⟨c9, h⟩ := x_ck h
      refine x_iast dX0_copyOf_29 k3 (xb_at n4 c9) rfl ?_
      obtain ⟨N10, eN10, h⟩ := x_lt h
      refine x_nmN eN10 ?_
      refine x_iinc (L' := [(0, .ref p_0), (1, .ref p_1), (2, .int (v_2 + 1))]) 2 [1, 2, 0] dX0_copyOf_30 rfl rfl (by decide) rfl ?_
      refine x_goto (tgt := 10) dX0_copyOf_33 (by decide) ?_
      exact ih p_0 p_1 (v_2 + 1) N10 kk0 kk1 h
set_option maxHeartbeats 4000000 in
set_option maxRecDepth 100000 in
theorem T_X0_copyOf {G : XG} {Y : XY} (hw : WT Y) {a0 : Nat} {a1 : Nat} {N : XN} (k100 : kc Y a0 = 10) (k101 : kc Y a1 = 10) {N9 : XN} (h : f_X0_copyOf Y a0 a1 N = some N9) : Cl G yX0_copyOf cX0_copyOf 3 none (xR 1 0 0) [.ref a0, .ref a1] (.inl none) Y N Y N9 := by
  refine x_entry (by decide) (Nat.le_of_ble_eq_true rfl) rfl ?_
  rw [f_X0_copyOf] at h
  refine x_aload_n 0 dX0_copyOf_0 rfl rfl ?_
  refine x_aload_n 1 dX0_copyOf_1 rfl rfl ?_
  refine x_geti dX0_copyOf_2 vc_X0 xin0 fb_X0_1 fl_X0_18 xr_X0_1 k101 ?_
  refine x_puti dX0_copyOf_5 vc_X0 xin0 tyX0_ok nmX0 fb_X0_1 fl_X0_18 ff_X0_1 xr_X0_1 (nf_X0_1 _) (ft_X0_1 _) k100 ?_
  obtain ⟨N1, eN1, h⟩ := x_lt h
  refine x_nmN eN1 ?_
  refine x_iconst (v := 0) dX0_copyOf_8 rfl ?_
  refine x_istore_n (L' := [(0, .ref a0), (1, .ref a1), (2, .int 0)]) [1, 2, 0] dX0_copyOf_9 rfl (by decide) rfl ?_
  exact T_X0_copyOf_10 (G := G) hw FU a0 a1 0 N1 k100 k101 h
set_option maxHeartbeats 4000000 in
set_option maxRecDepth 100000 in
theorem T_X0_addStep {G : XG} {Y : XY} (hw : WT Y) {a0 : Nat} {a1 : Int32} {N : XN} (k100 : kc Y a0 = 10) {N9 : XN} (h : f_X0_addStep Y a0 a1 N = some N9) : Cl G yX0_addStep cX0_addStep 2 none (xR 1 0 0) [.ref a0, .int a1] (.inl none) Y N Y N9 := by
  refine x_entry (by decide) (Nat.le_of_ble_eq_true rfl) rfl ?_
  rw [f_X0_addStep] at h
  refine x_aload_n 0 dX0_addStep_0 rfl rfl ?_
  refine x_geti dX0_addStep_1 vc_X0 xin0 fb_X0_1 fl_X0_18 xr_X0_1 k100 ?_
  refine x_aload_n 0 dX0_addStep_4 rfl rfl ?_
  obtain ⟨g1, k2, n3⟩ := wt_X0_0 hw k100
  refine x_getr dX0_addStep_5 vc_X0 xin0 fb_X0_0 fl_X0_9 xr_X0_0 k100 g1 ?_
  refine x_ilen dX0_addStep_8 k2 (congrArg Int32.ofNat n3) ?_
  rcases x_if h with ⟨c4, h⟩ | ⟨c4, h⟩
  · refine x_icmp_ge_t (tgt := 32) dX0_addStep_9 (by decide) c4 ?_
    obtain rfl := x_so h
    exact x_vret dX0_addStep_32 rfl rfl rfl
  · refine x_icmp_ge_f (tgt := 32) dX0_addStep_9 (by decide) c4 ?_
    refine x_aload_n 0 dX0_addStep_12 rfl rfl ?_
    refine x_getr dX0_addStep_13 vc_X0 xin0 fb_X0_0 fl_X0_9 xr_X0_0 k100 g1 ?_
    refine x_aload_n 0 dX0_addStep_16 rfl rfl ?_
    refine x_geti dX0_addStep_17 vc_X0 xin0 fb_X0_1 fl_X0_18 xr_X0_1 k100 ?_
    refine x_iload_n 1 dX0_addStep_20 rfl rfl ?_
    obtain ⟨c5, h⟩ := x_ck h
    refine x_iast dX0_addStep_21 k2 (xb_at n3 c5) rfl ?_
    obtain ⟨N6, eN6, h⟩ := x_lt h
    refine x_nmN eN6 ?_
    refine x_aload_n 0 dX0_addStep_22 rfl rfl ?_
    refine x_dup dX0_addStep_23 rfl ?_
    refine x_geti dX0_addStep_24 vc_X0 xin0 fb_X0_1 fl_X0_18 xr_X0_1 k100 ?_
    refine x_iconst (v := 1) dX0_addStep_27 rfl ?_
    refine x_iadd dX0_addStep_28 ?_
    refine x_puti dX0_addStep_29 vc_X0 xin0 tyX0_ok nmX0 fb_X0_1 fl_X0_18 ff_X0_1 xr_X0_1 (nf_X0_1 _) (ft_X0_1 _) k100 ?_
    obtain ⟨N7, eN7, h⟩ := x_lt h
    refine x_nmN eN7 ?_
    obtain rfl := x_so h
    exact x_vret dX0_addStep_32 rfl rfl rfl
set_option maxHeartbeats 4000000 in
set_option maxRecDepth 100000 in
theorem T_X0_result {G : XG} {Y : XY} (hw : WT Y) {a0 : Int32} {a1 : Int32} {a2 : Int32} {N : XN}  {r9 : Int32} (h : f_X0_result Y a0 a1 a2 N = some r9) : Cl G yX0_result cX0_result 5 (some .int) (xR 1 0 0) [.int a0, .int a1, .int a2] (.inl (some (.int r9))) Y N Y N := by
  refine x_entry (by decide) (Nat.le_of_ble_eq_true rfl) rfl ?_
  rw [f_X0_result] at h
  refine x_iload_n 0 dX0_result_0 rfl rfl ?_
  refine x_bipush (v := 6) dX0_result_1 rfl ?_
  rcases x_if h with ⟨c1, h⟩ | ⟨c1, h⟩
  · refine x_icmp_ne_f (tgt := 15) dX0_result_3 (by decide) c1 ?_
    refine x_iload_n 1 dX0_result_6 rfl rfl ?_
    refine x_i2l dX0_result_7 ?_
    refine x_iload_n 2 dX0_result_8 rfl rfl ?_
    refine x_i2l dX0_result_9 ?_
    refine x_ladd dX0_result_10 ?_
    obtain ⟨w2, ew2, h⟩ := x_lt h
    refine x_nml ew2 ?_
    refine x_lstore_n (L' := [(3, .long w2)]) [0] dX0_result_11 rfl (by decide) rfl ?_
    refine x_goto (tgt := 58) dX0_result_12 (by decide) ?_
    refine x_lload_n 0 dX0_result_58 rfl rfl ?_
    refine x_ldc2 (v := (-1000000)) dX0_result_59 kl_X0_26 ?_
    refine x_lcmp dX0_result_62 ?_
    rcases x_if h with ⟨c3, h⟩ | ⟨c3, h⟩
    · refine x_if_ge_t (tgt := 72) dX0_result_63 (by decide) c3 ?_
      refine x_lload_n 0 dX0_result_72 rfl rfl ?_
      refine x_ldc2 (v := 1000000) dX0_result_73 kl_X0_28 ?_
      refine x_lcmp dX0_result_76 ?_
      rcases x_if h with ⟨c4, h⟩ | ⟨c4, h⟩
      · refine x_if_le_t (tgt := 86) dX0_result_77 (by decide) c4 ?_
        refine x_lload_n 0 dX0_result_86 rfl rfl ?_
        refine x_l2i dX0_result_87 ?_
        obtain rfl := x_so h
        exact x_iret dX0_result_88 rfl rfl rfl
      · refine x_if_le_f (tgt := 86) dX0_result_77 (by decide) c4 ?_
        refine x_ldc2 (v := 1000000) dX0_result_80 kl_X0_28 ?_
        refine x_goto (tgt := 87) dX0_result_83 (by decide) ?_
        refine x_l2i dX0_result_87 ?_
        obtain rfl := x_so h
        exact x_iret dX0_result_88 rfl rfl rfl
    · refine x_if_ge_f (tgt := 72) dX0_result_63 (by decide) c3 ?_
      refine x_ldc2 (v := (-1000000)) dX0_result_66 kl_X0_26 ?_
      refine x_goto (tgt := 87) dX0_result_69 (by decide) ?_
      refine x_l2i dX0_result_87 ?_
      obtain rfl := x_so h
      exact x_iret dX0_result_88 rfl rfl rfl
  · refine x_icmp_ne_t (tgt := 15) dX0_result_3 (by decide) c1 ?_
    refine x_iload_n 0 dX0_result_15 rfl rfl ?_
    refine x_bipush (v := 7) dX0_result_16 rfl ?_
    rcases x_if h with ⟨c5, h⟩ | ⟨c5, h⟩
    · refine x_icmp_ne_f (tgt := 30) dX0_result_18 (by decide) c5 ?_
      refine x_iload_n 1 dX0_result_21 rfl rfl ?_
      refine x_i2l dX0_result_22 ?_
      refine x_iload_n 2 dX0_result_23 rfl rfl ?_
      refine x_i2l dX0_result_24 ?_
      refine x_lsub dX0_result_25 ?_
      obtain ⟨w6, ew6, h⟩ := x_lt h
      refine x_nml ew6 ?_
      refine x_lstore_n (L' := [(3, .long w6)]) [0] dX0_result_26 rfl (by decide) rfl ?_
      refine x_goto (tgt := 58) dX0_result_27 (by decide) ?_
      refine x_lload_n 0 dX0_result_58 rfl rfl ?_
      refine x_ldc2 (v := (-1000000)) dX0_result_59 kl_X0_26 ?_
      refine x_lcmp dX0_result_62 ?_
      rcases x_if h with ⟨c7, h⟩ | ⟨c7, h⟩
      · refine x_if_ge_t (tgt := 72) dX0_result_63 (by decide) c7 ?_
        refine x_lload_n 0 dX0_result_72 rfl rfl ?_
        refine x_ldc2 (v := 1000000) dX0_result_73 kl_X0_28 ?_
        refine x_lcmp dX0_result_76 ?_
        rcases x_if h with ⟨c8, h⟩ | ⟨c8, h⟩
        · refine x_if_le_t (tgt := 86) dX0_result_77 (by decide) c8 ?_
          refine x_lload_n 0 dX0_result_86 rfl rfl ?_
          refine x_l2i dX0_result_87 ?_
          obtain rfl := x_so h
          exact x_iret dX0_result_88 rfl rfl rfl
        · refine x_if_le_f (tgt := 86) dX0_result_77 (by decide) c8 ?_
          refine x_ldc2 (v := 1000000) dX0_result_80 kl_X0_28 ?_
          refine x_goto (tgt := 87) dX0_result_83 (by decide) ?_
          refine x_l2i dX0_result_87 ?_
          obtain rfl := x_so h
          exact x_iret dX0_result_88 rfl rfl rfl
      · refine x_if_ge_f (tgt := 72) dX0_result_63 (by decide) c7 ?_
        refine x_ldc2 (v := (-1000000)) dX0_result_66 kl_X0_26 ?_
        refine x_goto (tgt := 87) dX0_result_69 (by decide) ?_
        refine x_l2i dX0_result_87 ?_
        obtain rfl := x_so h
        exact x_iret dX0_result_88 rfl rfl rfl
    · refine x_icmp_ne_t (tgt := 30) dX0_result_18 (by decide) c5 ?_
      refine x_iload_n 0 dX0_result_30 rfl rfl ?_
      refine x_bipush (v := 8) dX0_result_31 rfl ?_
      rcases x_if h with ⟨c9, h⟩ | ⟨c9, h⟩
      · refine x_icmp_ne_f (tgt := 45) dX0_result_33 (by decide) c9 ?_
        refine x_iload_n 1 dX0_result_36 rfl rfl ?_
        refine x_i2l dX0_result_37 ?_
        refine x_iload_n 2 dX0_result_38 rfl rfl ?_
        refine x_i2l dX0_result_39 ?_
        refine x_lmul dX0_result_40 ?_
        obtain ⟨w10, ew10, h⟩ := x_lt h
        refine x_nml ew10 ?_
        refine x_lstore_n (L' := [(3, .long w10)]) [0] dX0_result_41 rfl (by decide) rfl ?_
        refine x_goto (tgt := 58) dX0_result_42 (by decide) ?_
        refine x_lload_n 0 dX0_result_58 rfl rfl ?_
        refine x_ldc2 (v := (-1000000)) dX0_result_59 kl_X0_26 ?_
        refine x_lcmp dX0_result_62 ?_
        rcases x_if h with ⟨c11, h⟩ | ⟨c11, h⟩
        · refine x_if_ge_t (tgt := 72) dX0_result_63 (by decide) c11 ?_
          refine x_lload_n 0 dX0_result_72 rfl rfl ?_
          refine x_ldc2 (v := 1000000) dX0_result_73 kl_X0_28 ?_
          refine x_lcmp dX0_result_76 ?_
          rcases x_if h with ⟨c12, h⟩ | ⟨c12, h⟩
          · refine x_if_le_t (tgt := 86) dX0_result_77 (by decide) c12 ?_
            refine x_lload_n 0 dX0_result_86 rfl rfl ?_
            refine x_l2i dX0_result_87 ?_
            obtain rfl := x_so h
            exact x_iret dX0_result_88 rfl rfl rfl
          · refine x_if_le_f (tgt := 86) dX0_result_77 (by decide) c12 ?_
            refine x_ldc2 (v := 1000000) dX0_result_80 kl_X0_28 ?_
            refine x_goto (tgt := 87) dX0_result_83 (by decide) ?_
            refine x_l2i dX0_result_87 ?_
            obtain rfl := x_so h
            exact x_iret dX0_result_88 rfl rfl rfl
        · refine x_if_ge_f (tgt := 72) dX0_result_63 (by decide) c11 ?_
          refine x_ldc2 (v := (-1000000)) dX0_result_66 kl_X0_26 ?_
          refine x_goto (tgt := 87) dX0_result_69 (by decide) ?_
          refine x_l2i dX0_result_87 ?_
          obtain rfl := x_so h
          exact x_iret dX0_result_88 rfl rfl rfl
      · refine x_icmp_ne_t (tgt := 45) dX0_result_33 (by decide) c9 ?_
        refine x_iload_n 2 dX0_result_45 rfl rfl ?_
        rcases x_if h with ⟨c13, h⟩ | ⟨c13, h⟩
        · refine x_if_ne_f (tgt := 53) dX0_result_46 (by decide) c13 ?_
          refine x_lconst (v := 0) dX0_result_49 rfl ?_
          refine x_goto (tgt := 57) dX0_result_50 (by decide) ?_
          refine x_lstore_n (L' := [(3, .long 0)]) [0] dX0_result_57 rfl (by decide) rfl ?_
          refine x_lload_n 0 dX0_result_58 rfl rfl ?_
          refine x_ldc2 (v := (-1000000)) dX0_result_59 kl_X0_26 ?_
          refine x_lcmp dX0_result_62 ?_
          rcases x_if h with ⟨c14, h⟩ | ⟨c14, h⟩
          · refine x_if_ge_t (tgt := 72) dX0_result_63 (by decide) c14 ?_
            refine x_lload_n 0 dX0_result_72 rfl rfl ?_
            refine x_ldc2 (v := 1000000) dX0_result_73 kl_X0_28 ?_
            refine x_lcmp dX0_result_76 ?_
            rcases x_if h with ⟨c15, h⟩ | ⟨c15, h⟩
            · refine x_if_le_t (tgt := 86) dX0_result_77 (by decide) c15 ?_
              refine x_lload_n 0 dX0_result_86 rfl rfl ?_
              refine x_l2i dX0_result_87 ?_
              obtain rfl := x_so h
              exact x_iret dX0_result_88 rfl rfl rfl
            · refine x_if_le_f (tgt := 86) dX0_result_77 (by decide) c15 ?_
              refine x_ldc2 (v := 1000000) dX0_result_80 kl_X0_28 ?_
              refine x_goto (tgt := 87) dX0_result_83 (by decide) ?_
              refine x_l2i dX0_result_87 ?_
              obtain rfl := x_so h
              exact x_iret dX0_result_88 rfl rfl rfl
          · refine x_if_ge_f (tgt := 72) dX0_result_63 (by decide) c14 ?_
            refine x_ldc2 (v := (-1000000)) dX0_result_66 kl_X0_26 ?_
            refine x_goto (tgt := 87) dX0_result_69 (by decide) ?_
            refine x_l2i dX0_result_87 ?_
            obtain rfl := x_so h
            exact x_iret dX0_result_88 rfl rfl rfl
        · refine x_if_ne_t (tgt := 53) dX0_result_46 (by decide) c13 ?_
          refine x_iload_n 1 dX0_result_53 rfl rfl ?_
          refine x_iload_n 2 dX0_result_54 rfl rfl ?_
          obtain ⟨c16, h⟩ := x_cn h
          refine x_idiv dX0_result_55 c16 ?_
          refine x_i2l dX0_result_56 ?_
          obtain ⟨w17, ew17, h⟩ := x_lt h
          refine x_nml ew17 ?_
          refine x_lstore_n (L' := [(3, .long w17)]) [0] dX0_result_57 rfl (by decide) rfl ?_
          refine x_lload_n 0 dX0_result_58 rfl rfl ?_
          refine x_ldc2 (v := (-1000000)) dX0_result_59 kl_X0_26 ?_
          refine x_lcmp dX0_result_62 ?_
          rcases x_if h with ⟨c18, h⟩ | ⟨c18, h⟩
          · refine x_if_ge_t (tgt := 72) dX0_result_63 (by decide) c18 ?_
            refine x_lload_n 0 dX0_result_72 rfl rfl ?_
            refine x_ldc2 (v := 1000000) dX0_result_73 kl_X0_28 ?_
            refine x_lcmp dX0_result_76 ?_
            rcases x_if h with ⟨c19, h⟩ | ⟨c19, h⟩
            · refine x_if_le_t (tgt := 86) dX0_result_77 (by decide) c19 ?_
              refine x_lload_n 0 dX0_result_86 rfl rfl ?_
              refine x_l2i dX0_result_87 ?_
              obtain rfl := x_so h
              exact x_iret dX0_result_88 rfl rfl rfl
            · refine x_if_le_f (tgt := 86) dX0_result_77 (by decide) c19 ?_
              refine x_ldc2 (v := 1000000) dX0_result_80 kl_X0_28 ?_
              refine x_goto (tgt := 87) dX0_result_83 (by decide) ?_
              refine x_l2i dX0_result_87 ?_
              obtain rfl := x_so h
              exact x_iret dX0_result_88 rfl rfl rfl
          · refine x_if_ge_f (tgt := 72) dX0_result_63 (by decide) c18 ?_
            refine x_ldc2 (v := (-1000000)) dX0_result_66 kl_X0_26 ?_
            refine x_goto (tgt := 87) dX0_result_69 (by decide) ?_
            refine x_l2i dX0_result_87 ?_
            obtain rfl := x_so h
            exact x_iret dX0_result_88 rfl rfl rfl
set_option maxHeartbeats 4000000 in
set_option maxRecDepth 100000 in
theorem T_X0_value_6 {G : XG} {Y : XY} (hw : WT Y) {r9 : Int32} {N9 : XN}: ∀ (D9 : Nat) (p_0 : Nat) (v_1 : Int32) (v_2 : Int32) (v_3 : Int32) (v_4 : Int32) (v_5 : Int32) (v_6 : Int32) (N : XN), kc Y p_0 = 10 → f_X0_value_6 Y D9 p_0 v_1 v_2 v_3 v_4 v_5 v_6 N = some (r9, N9) → Ex G yX0_value cX0_value 8 (some .int) (xR 2 0 0) (.inl (some (.int r9))) Y N9 0 0 6 [(0, .ref p_0), (1, .int v_1), (2, .int v_2), (3, .int v_3), (4, .int v_4), (5, .int v_5), (6, .int v_6)] [] Y N := by
  intro D9
  induction D9 with
  | zero => intro p_0 v_1 v_2 v_3 v_4 v_5 v_6 N kk0 h; exact nomatch (show none = some _ from h)
  | succ D9 ih =>
    intro p_0 v_1 v_2 v_3 v_4 v_5 v_6 N kk0 h
    rw [f_X0_value_6] at h
    refine x_iload 6 dX0_value_6 rfl ?_
    refine x_aload_n 0 dX0_value_8 rfl rfl ?_
    refine x_geti dX0_value_9 vc_X0 xin0 fb_X0_1 fl_X0_18 xr_X0_1 kk0 ?_
    rcases x_if h with ⟨c1, h⟩ | ⟨c1, h⟩
    · refine x_icmp_ge_t (tgt := 164) dX0_value_12 (by decide) c1 ?_
      refine x_aload_n 0 dX0_value_164 rfl rfl ?_
      refine x_geti dX0_value_165 vc_X0 xin0 fb_X0_1 fl_X0_18 xr_X0_1 kk0 ?_
      rcases x_if h with ⟨c2, h⟩ | ⟨c2, h⟩
      · refine x_if_ne_f (tgt := 175) dX0_value_168 (by decide) c2 ?_
        refine x_iload_n 2 dX0_value_171 rfl rfl ?_
        refine x_goto (tgt := 181) dX0_value_172 (by decide) ?_
        refine x_istore (L' := [(6, .int v_2)]) [0] dX0_value_181 (by decide) rfl ?_
        refine x_iload 0 dX0_value_183 rfl ?_
        rcases x_if h with ⟨c3, h⟩ | ⟨c3, h⟩
        · refine x_if_ge_t (tgt := 192) dX0_value_185 (by decide) c3 ?_
          refine x_iload 0 dX0_value_192 rfl ?_
          refine x_sipush (v := 9999) dX0_value_194 rfl ?_
          rcases x_if h with ⟨c4, h⟩ | ⟨c4, h⟩
          · refine x_icmp_le_t (tgt := 206) dX0_value_197 (by decide) c4 ?_
            refine x_iload 0 dX0_value_206 rfl ?_
            obtain ⟨rfl, rfl⟩ := Prod.mk.inj (x_so h)
            exact x_iret dX0_value_208 rfl rfl rfl
          · refine x_icmp_le_f (tgt := 206) dX0_value_197 (by decide) c4 ?_
            refine x_sipush (v := 9999) dX0_value_200 rfl ?_
            refine x_goto (tgt := 208) dX0_value_203 (by decide) ?_
            obtain ⟨rfl, rfl⟩ := Prod.mk.inj (x_so h)
            exact x_iret dX0_value_208 rfl rfl rfl
        · refine x_if_ge_f (tgt := 192) dX0_value_185 (by decide) c3 ?_
          refine x_iconst (v := 0) dX0_value_188 rfl ?_
          refine x_goto (tgt := 208) dX0_value_189 (by decide) ?_
          obtain ⟨rfl, rfl⟩ := Prod.mk.inj (x_so h)
          exact x_iret dX0_value_208 rfl rfl rfl
      · refine x_if_ne_t (tgt := 175) dX0_value_168 (by decide) c2 ?_
        refine x_aload_n 0 dX0_value_175 rfl rfl ?_
        obtain ⟨g5, k6, n7⟩ := wt_X0_2 hw kk0
        refine x_getr dX0_value_176 vc_X0 xin0 fb_X0_2 fl_X0_15 xr_X0_2 kk0 g5 ?_
        refine x_iconst (v := 0) dX0_value_179 rfl ?_
        refine x_iald dX0_value_180 k6 (xb_at n7 xbl_0_16) xl_0 ?_
        refine x_istore (L' := [(6, .int (gi N (gp Y p_0 2) 0))]) [0] dX0_value_181 (by decide) rfl ?_
        refine x_iload 0 dX0_value_183 rfl ?_
        rcases x_if h with ⟨c8, h⟩ | ⟨c8, h⟩
        · refine x_if_ge_t (tgt := 192) dX0_value_185 (by decide) c8 ?_
          refine x_iload 0 dX0_value_192 rfl ?_
          refine x_sipush (v := 9999) dX0_value_194 rfl ?_
          rcases x_if h with ⟨c9, h⟩ | ⟨c9, h⟩
          · refine x_icmp_le_t (tgt := 206) dX0_value_197 (by decide) c9 ?_
            refine x_iload 0 dX0_value_206 rfl ?_
            obtain ⟨rfl, rfl⟩ := Prod.mk.inj (x_so h)
            exact x_iret dX0_value_208 rfl rfl rfl
          · refine x_icmp_le_f (tgt := 206) dX0_value_197 (by decide) c9 ?_
            refine x_sipush (v := 9999) dX0_value_200 rfl ?_
            refine x_goto (tgt := 208) dX0_value_203 (by decide) ?_
            obtain ⟨rfl, rfl⟩ := Prod.mk.inj (x_so h)
            exact x_iret dX0_value_208 rfl rfl rfl
        · refine x_if_ge_f (tgt := 192) dX0_value_185 (by decide) c8 ?_
          refine x_iconst (v := 0) dX0_value_188 rfl ?_
          refine x_goto (tgt := 208) dX0_value_189 (by decide) ?_
          obtain ⟨rfl, rfl⟩ := Prod.mk.inj (x_so h)
          exact x_iret dX0_value_208 rfl rfl rfl
    · refine x_icmp_ge_f (tgt := 164) dX0_value_12 (by decide) c1 ?_
      refine x_aload_n 0 dX0_value_15 rfl rfl ?_
      obtain ⟨g10, k11, n12⟩ := wt_X0_0 hw kk0
      refine x_getr dX0_value_16 vc_X0 xin0 fb_X0_0 fl_X0_9 xr_X0_0 kk0 g10 ?_
      refine x_iload 6 dX0_value_19 rfl ?_
      obtain ⟨c13, h⟩ := x_ck h
      refine x_iald dX0_value_21 k11 (xb_at n12 c13) rfl ?_
      obtain ⟨v14, ev14, h⟩ := x_lt h
      refine x_nmi ev14 ?_
      refine x_istore (L' := [(0, .ref p_0), (1, .int v_1), (2, .int v_2), (3, .int v_3), (4, .int v_4), (5, .int v_5), (6, .int v_6), (7, .int v14)]) [1, 2, 3, 4, 5, 6, 7, 0] dX0_value_22 (by decide) rfl ?_
      refine x_iload 7 dX0_value_24 rfl ?_
      refine x_bipush (v := (-6)) dX0_value_26 rfl ?_
      rcases x_if h with ⟨c15, h⟩ | ⟨c15, h⟩
      · refine x_icmp_gt_t (tgt := 93) dX0_value_28 (by decide) c15 ?_
        refine x_iload 5 dX0_value_93 rfl ?_
        refine x_aload_n 0 dX0_value_95 rfl rfl ?_
        obtain ⟨g16, k17, n18⟩ := wt_X0_2 hw kk0
        refine x_getr dX0_value_96 vc_X0 xin0 fb_X0_2 fl_X0_15 xr_X0_2 kk0 g16 ?_
        refine x_ilen dX0_value_99 k17 (congrArg Int32.ofNat n18) ?_
        rcases x_if h with ⟨c19, h⟩ | ⟨c19, h⟩
        · refine x_icmp_ge_t (tgt := 158) dX0_value_100 (by decide) c19 ?_
          refine x_iinc (L' := [(0, .ref p_0), (1, .int v_1), (2, .int v_2), (3, .int v_3), (4, .int v_4), (5, .int v_5), (6, .int (v_6 + 1))]) 6 [1, 2, 3, 4, 5, 6, 0] dX0_value_158 rfl rfl (by decide) rfl ?_
          refine x_goto (tgt := 6) dX0_value_161 (by decide) ?_
          exact ih p_0 v_1 v_2 v_3 v_4 v_5 (v_6 + 1) N kk0 h
        · refine x_icmp_ge_f (tgt := 158) dX0_value_100 (by decide) c19 ?_
          refine x_aload_n 0 dX0_value_103 rfl rfl ?_
          refine x_getr dX0_value_104 vc_X0 xin0 fb_X0_2 fl_X0_15 xr_X0_2 kk0 g16 ?_
          refine x_iload 5 dX0_value_107 rfl ?_
          refine x_iload 7 dX0_value_109 rfl ?_
          rcases x_if h with ⟨c20, h⟩ | ⟨c20, h⟩
          · refine x_if_lt_t (tgt := 119) dX0_value_111 (by decide) c20 ?_
            refine x_iload 7 dX0_value_119 rfl ?_
            refine x_bipush (v := (-12)) dX0_value_121 rfl ?_
            rcases x_if h with ⟨c21, h⟩ | ⟨c21, h⟩
            · refine x_icmp_ne_f (tgt := 130) dX0_value_123 (by decide) c21 ?_
              refine x_iload_n 1 dX0_value_126 rfl rfl ?_
              refine x_goto (tgt := 154) dX0_value_127 (by decide) ?_
              obtain ⟨c22, h⟩ := x_ck h
              refine x_iast dX0_value_154 k17 (xb_at n18 c22) rfl ?_
              obtain ⟨N23, eN23, h⟩ := x_lt h
              refine x_nmN eN23 ?_
              refine x_iinc (L' := [(0, .ref p_0), (1, .int v_1), (2, .int v_2), (3, .int v_3), (4, .int v_4), (5, .int (v_5 + 1)), (6, .int v_6)]) 5 [1, 2, 3, 4, 5, 0, 6] dX0_value_155 rfl rfl (by decide) rfl ?_
              refine x_iinc (L' := [(0, .ref p_0), (1, .int v_1), (2, .int v_2), (3, .int v_3), (4, .int v_4), (5, .int (v_5 + 1)), (6, .int (v_6 + 1))]) 6 [1, 2, 3, 4, 5, 6, 0] dX0_value_158 rfl rfl (by decide) rfl ?_
              refine x_goto (tgt := 6) dX0_value_161 (by decide) ?_
              exact ih p_0 v_1 v_2 v_3 v_4 (v_5 + 1) (v_6 + 1) N23 kk0 h
            · refine x_icmp_ne_t (tgt := 130) dX0_value_123 (by decide) c21 ?_
              refine x_iload 7 dX0_value_130 rfl ?_
              refine x_bipush (v := (-20)) dX0_value_132 rfl ?_
              rcases x_if h with ⟨c24, h⟩ | ⟨c24, h⟩
              · refine x_icmp_ne_f (tgt := 141) dX0_value_134 (by decide) c24 ?_
                refine x_iload_n 2 dX0_value_137 rfl rfl ?_
                refine x_goto (tgt := 154) dX0_value_138 (by decide) ?_
                obtain ⟨c25, h⟩ := x_ck h
                refine x_iast dX0_value_154 k17 (xb_at n18 c25) rfl ?_
                obtain ⟨N26, eN26, h⟩ := x_lt h
                refine x_nmN eN26 ?_
                refine x_iinc (L' := [(0, .ref p_0), (1, .int v_1), (2, .int v_2), (3, .int v_3), (4, .int v_4), (5, .int (v_5 + 1)), (6, .int v_6)]) 5 [1, 2, 3, 4, 5, 0, 6] dX0_value_155 rfl rfl (by decide) rfl ?_
                refine x_iinc (L' := [(0, .ref p_0), (1, .int v_1), (2, .int v_2), (3, .int v_3), (4, .int v_4), (5, .int (v_5 + 1)), (6, .int (v_6 + 1))]) 6 [1, 2, 3, 4, 5, 6, 0] dX0_value_158 rfl rfl (by decide) rfl ?_
                refine x_goto (tgt := 6) dX0_value_161 (by decide) ?_
                exact ih p_0 v_1 v_2 v_3 v_4 (v_5 + 1) (v_6 + 1) N26 kk0 h
              · refine x_icmp_ne_t (tgt := 141) dX0_value_134 (by decide) c24 ?_
                refine x_iload 7 dX0_value_141 rfl ?_
                refine x_bipush (v := (-21)) dX0_value_143 rfl ?_
                rcases x_if h with ⟨c27, h⟩ | ⟨c27, h⟩
                · refine x_icmp_ne_f (tgt := 152) dX0_value_145 (by decide) c27 ?_
                  refine x_iload_n 3 dX0_value_148 rfl rfl ?_
                  refine x_goto (tgt := 154) dX0_value_149 (by decide) ?_
                  obtain ⟨c28, h⟩ := x_ck h
                  refine x_iast dX0_value_154 k17 (xb_at n18 c28) rfl ?_
                  obtain ⟨N29, eN29, h⟩ := x_lt h
                  refine x_nmN eN29 ?_
                  refine x_iinc (L' := [(0, .ref p_0), (1, .int v_1), (2, .int v_2), (3, .int v_3), (4, .int v_4), (5, .int (v_5 + 1)), (6, .int v_6)]) 5 [1, 2, 3, 4, 5, 0, 6] dX0_value_155 rfl rfl (by decide) rfl ?_
                  refine x_iinc (L' := [(0, .ref p_0), (1, .int v_1), (2, .int v_2), (3, .int v_3), (4, .int v_4), (5, .int (v_5 + 1)), (6, .int (v_6 + 1))]) 6 [1, 2, 3, 4, 5, 6, 0] dX0_value_158 rfl rfl (by decide) rfl ?_
                  refine x_goto (tgt := 6) dX0_value_161 (by decide) ?_
                  exact ih p_0 v_1 v_2 v_3 v_4 (v_5 + 1) (v_6 + 1) N29 kk0 h
                · refine x_icmp_ne_t (tgt := 152) dX0_value_145 (by decide) c27 ?_
                  refine x_iload 4 dX0_value_152 rfl ?_
                  obtain ⟨c30, h⟩ := x_ck h
                  refine x_iast dX0_value_154 k17 (xb_at n18 c30) rfl ?_
                  obtain ⟨N31, eN31, h⟩ := x_lt h
                  refine x_nmN eN31 ?_
                  refine x_iinc (L' := [(0, .ref p_0), (1, .int v_1), (2, .int v_2), (3, .int v_3), (4, .int v_4), (5, .int (v_5 + 1)), (6, .int v_6)]) 5 [1, 2, 3, 4, 5, 0, 6] dX0_value_155 rfl rfl (by decide) rfl ?_
                  refine x_iinc (L' := [(0, .ref p_0), (1, .int v_1), (2, .int v_2), (3, .int v_3), (4, .int v_4), (5, .int (v_5 + 1)), (6, .int (v_6 + 1))]) 6 [1, 2, 3, 4, 5, 6, 0] dX0_value_158 rfl rfl (by decide) rfl ?_
                  refine x_goto (tgt := 6) dX0_value_161 (by decide) ?_
                  exact ih p_0 v_1 v_2 v_3 v_4 (v_5 + 1) (v_6 + 1) N31 kk0 h
          · refine x_if_lt_f (tgt := 119) dX0_value_111 (by decide) c20 ?_
            refine x_iload 7 dX0_value_114 rfl ?_
            refine x_goto (tgt := 154) dX0_value_116 (by decide) ?_
            obtain ⟨c32, h⟩ := x_ck h
            refine x_iast dX0_value_154 k17 (xb_at n18 c32) rfl ?_
            obtain ⟨N33, eN33, h⟩ := x_lt h
            refine x_nmN eN33 ?_
            refine x_iinc (L' := [(0, .ref p_0), (1, .int v_1), (2, .int v_2), (3, .int v_3), (4, .int v_4), (5, .int (v_5 + 1)), (6, .int v_6)]) 5 [1, 2, 3, 4, 5, 0, 6] dX0_value_155 rfl rfl (by decide) rfl ?_
            refine x_iinc (L' := [(0, .ref p_0), (1, .int v_1), (2, .int v_2), (3, .int v_3), (4, .int v_4), (5, .int (v_5 + 1)), (6, .int (v_6 + 1))]) 6 [1, 2, 3, 4, 5, 6, 0] dX0_value_158 rfl rfl (by decide) rfl ?_
            refine x_goto (tgt := 6) dX0_value_161 (by decide) ?_
            exact ih p_0 v_1 v_2 v_3 v_4 (v_5 + 1) (v_6 + 1) N33 kk0 h
      · refine x_icmp_gt_f (tgt := 93) dX0_value_28 (by decide) c15 ?_
        refine x_iload 7 dX0_value_31 rfl ?_
        refine x_bipush (v := (-9)) dX0_value_33 rfl ?_
        rcases x_if h with ⟨c34, h⟩ | ⟨c34, h⟩
        · refine x_icmp_lt_t (tgt := 93) dX0_value_35 (by decide) c34 ?_
          refine x_iload 5 dX0_value_93 rfl ?_
          refine x_aload_n 0 dX0_value_95 rfl rfl ?_
          obtain ⟨g35, k36, n37⟩ := wt_X0_2 hw kk0
          refine x_getr dX0_value_96 vc_X0 xin0 fb_X0_2 fl_X0_15 xr_X0_2 kk0 g35 ?_
          refine x_ilen dX0_value_99 k36 (congrArg Int32.ofNat n37) ?_
          rcases x_if h with ⟨c38, h⟩ | ⟨c38, h⟩
          · refine x_icmp_ge_t (tgt := 158) dX0_value_100 (by decide) c38 ?_
            refine x_iinc (L' := [(0, .ref p_0), (1, .int v_1), (2, .int v_2), (3, .int v_3), (4, .int v_4), (5, .int v_5), (6, .int (v_6 + 1))]) 6 [1, 2, 3, 4, 5, 6, 0] dX0_value_158 rfl rfl (by decide) rfl ?_
            refine x_goto (tgt := 6) dX0_value_161 (by decide) ?_
            exact ih p_0 v_1 v_2 v_3 v_4 v_5 (v_6 + 1) N kk0 h
          · refine x_icmp_ge_f (tgt := 158) dX0_value_100 (by decide) c38 ?_
            refine x_aload_n 0 dX0_value_103 rfl rfl ?_
            refine x_getr dX0_value_104 vc_X0 xin0 fb_X0_2 fl_X0_15 xr_X0_2 kk0 g35 ?_
            refine x_iload 5 dX0_value_107 rfl ?_
            refine x_iload 7 dX0_value_109 rfl ?_
            rcases x_if h with ⟨c39, h⟩ | ⟨c39, h⟩
            · refine x_if_lt_t (tgt := 119) dX0_value_111 (by decide) c39 ?_
              refine x_iload 7 dX0_value_119 rfl ?_
              refine x_bipush (v := (-12)) dX0_value_121 rfl ?_
              rcases x_if h with ⟨c40, h⟩ | ⟨c40, h⟩
              · refine x_icmp_ne_f (tgt := 130) dX0_value_123 (by decide) c40 ?_
                refine x_iload_n 1 dX0_value_126 rfl rfl ?_
                refine x_goto (tgt := 154) dX0_value_127 (by decide) ?_
                obtain ⟨c41, h⟩ := x_ck h
                refine x_iast dX0_value_154 k36 (xb_at n37 c41) rfl ?_
                obtain ⟨N42, eN42, h⟩ := x_lt h
                refine x_nmN eN42 ?_
                refine x_iinc (L' := [(0, .ref p_0), (1, .int v_1), (2, .int v_2), (3, .int v_3), (4, .int v_4), (5, .int (v_5 + 1)), (6, .int v_6)]) 5 [1, 2, 3, 4, 5, 0, 6] dX0_value_155 rfl rfl (by decide) rfl ?_
                refine x_iinc (L' := [(0, .ref p_0), (1, .int v_1), (2, .int v_2), (3, .int v_3), (4, .int v_4), (5, .int (v_5 + 1)), (6, .int (v_6 + 1))]) 6 [1, 2, 3, 4, 5, 6, 0] dX0_value_158 rfl rfl (by decide) rfl ?_
                refine x_goto (tgt := 6) dX0_value_161 (by decide) ?_
                exact ih p_0 v_1 v_2 v_3 v_4 (v_5 + 1) (v_6 + 1) N42 kk0 h
              · refine x_icmp_ne_t (tgt := 130) dX0_value_123 (by decide) c40 ?_
                refine x_iload 7 dX0_value_130 rfl ?_
                refine x_bipush (v := (-20)) dX0_value_132 rfl ?_
                rcases x_if h with ⟨c43, h⟩ | ⟨c43, h⟩
                · refine x_icmp_ne_f (tgt := 141) dX0_value_134 (by decide) c43 ?_
                  refine x_iload_n 2 dX0_value_137 rfl rfl ?_
                  refine x_goto (tgt := 154) dX0_value_138 (by decide) ?_
                  obtain ⟨c44, h⟩ := x_ck h
                  refine x_iast dX0_value_154 k36 (xb_at n37 c44) rfl ?_
                  obtain ⟨N45, eN45, h⟩ := x_lt h
                  refine x_nmN eN45 ?_
                  refine x_iinc (L' := [(0, .ref p_0), (1, .int v_1), (2, .int v_2), (3, .int v_3), (4, .int v_4), (5, .int (v_5 + 1)), (6, .int v_6)]) 5 [1, 2, 3, 4, 5, 0, 6] dX0_value_155 rfl rfl (by decide) rfl ?_
                  refine x_iinc (L' := [(0, .ref p_0), (1, .int v_1), (2, .int v_2), (3, .int v_3), (4, .int v_4), (5, .int (v_5 + 1)), (6, .int (v_6 + 1))]) 6 [1, 2, 3, 4, 5, 6, 0] dX0_value_158 rfl rfl (by decide) rfl ?_
                  refine x_goto (tgt := 6) dX0_value_161 (by decide) ?_
                  exact ih p_0 v_1 v_2 v_3 v_4 (v_5 + 1) (v_6 + 1) N45 kk0 h
                · refine x_icmp_ne_t (tgt := 141) dX0_value_134 (by decide) c43 ?_
                  refine x_iload 7 dX0_value_141 rfl ?_
                  refine x_bipush (v := (-21)) dX0_value_143 rfl ?_
                  rcases x_if h with ⟨c46, h⟩ | ⟨c46, h⟩
                  · refine x_icmp_ne_f (tgt := 152) dX0_value_145 (by decide) c46 ?_
                    refine x_iload_n 3 dX0_value_148 rfl rfl ?_
                    refine x_goto (tgt := 154) dX0_value_149 (by decide) ?_
                    obtain ⟨c47, h⟩ := x_ck h
                    refine x_iast dX0_value_154 k36 (xb_at n37 c47) rfl ?_
                    obtain ⟨N48, eN48, h⟩ := x_lt h
                    refine x_nmN eN48 ?_
                    refine x_iinc (L' := [(0, .ref p_0), (1, .int v_1), (2, .int v_2), (3, .int v_3), (4, .int v_4), (5, .int (v_5 + 1)), (6, .int v_6)]) 5 [1, 2, 3, 4, 5, 0, 6] dX0_value_155 rfl rfl (by decide) rfl ?_
                    refine x_iinc (L' := [(0, .ref p_0), (1, .int v_1), (2, .int v_2), (3, .int v_3), (4, .int v_4), (5, .int (v_5 + 1)), (6, .int (v_6 + 1))]) 6 [1, 2, 3, 4, 5, 6, 0] dX0_value_158 rfl rfl (by decide) rfl ?_
                    refine x_goto (tgt := 6) dX0_value_161 (by decide) ?_
                    exact ih p_0 v_1 v_2 v_3 v_4 (v_5 + 1) (v_6 + 1) N48 kk0 h
                  · refine x_icmp_ne_t (tgt := 152) dX0_value_145 (by decide) c46 ?_
                    refine x_iload 4 dX0_value_152 rfl ?_
                    obtain ⟨c49, h⟩ := x_ck h
                    refine x_iast dX0_value_154 k36 (xb_at n37 c49) rfl ?_
                    obtain ⟨N50, eN50, h⟩ := x_lt h
                    refine x_nmN eN50 ?_
                    refine x_iinc (L' := [(0, .ref p_0), (1, .int v_1), (2, .int v_2), (3, .int v_3), (4, .int v_4), (5, .int (v_5 + 1)), (6, .int v_6)]) 5 [1, 2, 3, 4, 5, 0, 6] dX0_value_155 rfl rfl (by decide) rfl ?_
                    refine x_iinc (L' := [(0, .ref p_0), (1, .int v_1), (2, .int v_2), (3, .int v_3), (4, .int v_4), (5, .int (v_5 + 1)), (6, .int (v_6 + 1))]) 6 [1, 2, 3, 4, 5, 6, 0] dX0_value_158 rfl rfl (by decide) rfl ?_
                    refine x_goto (tgt := 6) dX0_value_161 (by decide) ?_
                    exact ih p_0 v_1 v_2 v_3 v_4 (v_5 + 1) (v_6 + 1) N50 kk0 h
            · refine x_if_lt_f (tgt := 119) dX0_value_111 (by decide) c39 ?_
              refine x_iload 7 dX0_value_114 rfl ?_
              refine x_goto (tgt := 154) dX0_value_116 (by decide) ?_
              obtain ⟨c51, h⟩ := x_ck h
              refine x_iast dX0_value_154 k36 (xb_at n37 c51) rfl ?_
              obtain ⟨N52, eN52, h⟩ := x_lt h
              refine x_nmN eN52 ?_
              refine x_iinc (L' := [(0, .ref p_0), (1, .int v_1), (2, .int v_2), (3, .int v_3), (4, .int v_4), (5, .int (v_5 + 1)), (6, .int v_6)]) 5 [1, 2, 3, 4, 5, 0, 6] dX0_value_155 rfl rfl (by decide) rfl ?_
              refine x_iinc (L' := [(0, .ref p_0), (1, .int v_1), (2, .int v_2), (3, .int v_3), (4, .int v_4), (5, .int (v_5 + 1)), (6, .int (v_6 + 1))]) 6 [1, 2, 3, 4, 5, 6, 0] dX0_value_158 rfl rfl (by decide) rfl ?_
              refine x_goto (tgt := 6) dX0_value_161 (by decide) ?_
              exact ih p_0 v_1 v_2 v_3 v_4 (v_5 + 1) (v_6 + 1) N52 kk0 h
        · refine x_icmp_lt_f (tgt := 93) dX0_value_35 (by decide) c34 ?_
          refine x_iload 5 dX0_value_38 rfl ?_
          refine x_iconst (v := 2) dX0_value_40 rfl ?_
          rcases x_if h with ⟨c53, h⟩ | ⟨c53, h⟩
          · refine x_icmp_lt_t (tgt := 158) dX0_value_41 (by decide) c53 ?_
            refine x_iinc (L' := [(0, .ref p_0), (1, .int v_1), (2, .int v_2), (3, .int v_3), (4, .int v_4), (5, .int v_5), (6, .int (v_6 + 1))]) 6 [1, 2, 3, 4, 5, 6, 0] dX0_value_158 rfl rfl (by decide) rfl ?_
            refine x_goto (tgt := 6) dX0_value_161 (by decide) ?_
            exact ih p_0 v_1 v_2 v_3 v_4 v_5 (v_6 + 1) N kk0 h
          · refine x_icmp_lt_f (tgt := 158) dX0_value_41 (by decide) c53 ?_
            refine x_iload 5 dX0_value_44 rfl ?_
            refine x_aload_n 0 dX0_value_46 rfl rfl ?_
            obtain ⟨g54, k55, n56⟩ := wt_X0_2 hw kk0
            refine x_getr dX0_value_47 vc_X0 xin0 fb_X0_2 fl_X0_15 xr_X0_2 kk0 g54 ?_
            refine x_ilen dX0_value_50 k55 (congrArg Int32.ofNat n56) ?_
            rcases x_if h with ⟨c57, h⟩ | ⟨c57, h⟩
            · refine x_icmp_gt_t (tgt := 158) dX0_value_51 (by decide) c57 ?_
              refine x_iinc (L' := [(0, .ref p_0), (1, .int v_1), (2, .int v_2), (3, .int v_3), (4, .int v_4), (5, .int v_5), (6, .int (v_6 + 1))]) 6 [1, 2, 3, 4, 5, 6, 0] dX0_value_158 rfl rfl (by decide) rfl ?_
              refine x_goto (tgt := 6) dX0_value_161 (by decide) ?_
              exact ih p_0 v_1 v_2 v_3 v_4 v_5 (v_6 + 1) N kk0 h
            · refine x_icmp_gt_f (tgt := 158) dX0_value_51 (by decide) c57 ?_
              refine x_aload_n 0 dX0_value_54 rfl rfl ?_
              refine x_getr dX0_value_55 vc_X0 xin0 fb_X0_2 fl_X0_15 xr_X0_2 kk0 g54 ?_
              refine x_iload 5 dX0_value_58 rfl ?_
              refine x_iconst (v := 2) dX0_value_60 rfl ?_
              refine x_isub dX0_value_61 ?_
              refine x_iload 7 dX0_value_62 rfl ?_
              refine x_ineg dX0_value_64 ?_
              refine x_aload_n 0 dX0_value_65 rfl rfl ?_
              refine x_getr dX0_value_66 vc_X0 xin0 fb_X0_2 fl_X0_15 xr_X0_2 kk0 g54 ?_
              refine x_iload 5 dX0_value_69 rfl ?_
              refine x_iconst (v := 2) dX0_value_71 rfl ?_
              refine x_isub dX0_value_72 ?_
              obtain ⟨c58, h⟩ := x_ck h
              refine x_iald dX0_value_73 k55 (xb_at n56 c58) rfl ?_
              refine x_aload_n 0 dX0_value_74 rfl rfl ?_
              refine x_getr dX0_value_75 vc_X0 xin0 fb_X0_2 fl_X0_15 xr_X0_2 kk0 g54 ?_
              refine x_iload 5 dX0_value_78 rfl ?_
              refine x_iconst (v := 1) dX0_value_80 rfl ?_
              refine x_isub dX0_value_81 ?_
              obtain ⟨c59, h⟩ := x_ck h
              refine x_iald dX0_value_82 k55 (xb_at n56 c59) rfl ?_
              obtain ⟨r61, q60, h⟩ := x_bd1 h
              refine x_cs (As := [.int (-v14), .int (gi N (gp Y p_0 2) (v_5 - 2).toNatClampNeg), .int (gi N (gp Y p_0 2) (v_5 - 1).toNatClampNeg)]) (d' := 1) (zz := yX0_result) dX0_value_83 ml_X0_22 wt_X0_result wn_X0 wc_X0_result hp_X0_result (by decide) (by decide) rfl (Nat.le_of_ble_eq_true rfl) ⟨Nat.zero_le _, Nat.zero_le _⟩ (T_X0_result (G := G) hw  q60) ?_
              obtain ⟨c62, h⟩ := x_ck h
              refine x_iast dX0_value_86 k55 (xb_at n56 c62) rfl ?_
              obtain ⟨N63, eN63, h⟩ := x_lt h
              refine x_nmN eN63 ?_
              refine x_iinc (L' := [(0, .ref p_0), (1, .int v_1), (2, .int v_2), (3, .int v_3), (4, .int v_4), (5, .int (v_5 + (-1))), (6, .int v_6)]) 5 [1, 2, 3, 4, 5, 0, 6] dX0_value_87 rfl rfl (by decide) rfl ?_
              refine x_goto (tgt := 158) dX0_value_90 (by decide) ?_
              refine x_iinc (L' := [(0, .ref p_0), (1, .int v_1), (2, .int v_2), (3, .int v_3), (4, .int v_4), (5, .int (v_5 + (-1))), (6, .int (v_6 + 1))]) 6 [1, 2, 3, 4, 5, 6, 0] dX0_value_158 rfl rfl (by decide) rfl ?_
              refine x_goto (tgt := 6) dX0_value_161 (by decide) ?_
              exact ih p_0 v_1 v_2 v_3 v_4 (v_5 + (-1)) (v_6 + 1) N63 kk0 h
set_option maxHeartbeats 4000000 in
set_option maxRecDepth 100000 in
theorem T_X0_value {G : XG} {Y : XY} (hw : WT Y) {a0 : Nat} {a1 : Int32} {a2 : Int32} {a3 : Int32} {a4 : Int32} {N : XN} (k100 : kc Y a0 = 10) {r9 : Int32} {N9 : XN} (h : f_X0_value Y a0 a1 a2 a3 a4 N = some (r9, N9)) : Cl G yX0_value cX0_value 8 (some .int) (xR 2 0 0) [.ref a0, .int a1, .int a2, .int a3, .int a4] (.inl (some (.int r9))) Y N Y N9 := by
  refine x_entry (by decide) (Nat.le_of_ble_eq_true rfl) rfl ?_
  rw [f_X0_value] at h
  refine x_iconst (v := 0) dX0_value_0 rfl ?_
  refine x_istore (L' := [(0, .ref a0), (1, .int a1), (2, .int a2), (3, .int a3), (4, .int a4), (5, .int 0)]) [1, 2, 3, 4, 5, 0] dX0_value_1 (by decide) rfl ?_
  refine x_iconst (v := 0) dX0_value_3 rfl ?_
  refine x_istore (L' := [(0, .ref a0), (1, .int a1), (2, .int a2), (3, .int a3), (4, .int a4), (5, .int 0), (6, .int 0)]) [1, 2, 3, 4, 5, 6, 0] dX0_value_4 (by decide) rfl ?_
  exact T_X0_value_6 (G := G) hw FU a0 a1 a2 a3 a4 0 0 N k100 h
set_option maxHeartbeats 4000000 in
set_option maxRecDepth 100000 in
theorem T_X1_begin {G : XG} {Y : XY} (hw : WT Y) {a0 : Nat} {a1 : Int32} {a2 : Int32} {N : XN} (k100 : kc Y a0 = 11) {N9 : XN} (h : f_X1_begin Y a0 a1 a2 N = some N9) : Cl G yX1_begin cX1_begin 3 none (xR 1 0 0) [.ref a0, .int a1, .int a2] (.inl none) Y N Y N9 := by
  refine x_entry (by decide) (Nat.le_of_ble_eq_true rfl) rfl ?_
  rw [f_X1_begin] at h
  refine x_aload_n 0 dX1_begin_0 rfl rfl ?_
  refine x_iload_n 1 dX1_begin_1 rfl rfl ?_
  refine x_puti dX1_begin_2 vc_X1 xin1 tyX1_ok nmX1 fb_X1_0 fl_X1_7 ff_X1_0 xr_X1_0 (nf_X1_0 _) (ft_X1_0 _) k100 ?_
  obtain ⟨N1, eN1, h⟩ := x_lt h
  refine x_nmN eN1 ?_
  refine x_aload_n 0 dX1_begin_5 rfl rfl ?_
  refine x_iload_n 2 dX1_begin_6 rfl rfl ?_
  refine x_puti dX1_begin_7 vc_X1 xin1 tyX1_ok nmX1 fb_X1_1 fl_X1_13 ff_X1_1 xr_X1_1 (nf_X1_1 _) (ft_X1_1 _) k100 ?_
  obtain ⟨N2, eN2, h⟩ := x_lt h
  refine x_nmN eN2 ?_
  refine x_aload_n 0 dX1_begin_10 rfl rfl ?_
  refine x_iconst (v := 0) dX1_begin_11 rfl ?_
  refine x_puti dX1_begin_12 vc_X1 xin1 tyX1_ok nmX1 fb_X1_2 fl_X1_16 ff_X1_2 xr_X1_2 rfl rfl k100 ?_
  obtain ⟨N3, eN3, h⟩ := x_lt h
  refine x_nmN eN3 ?_
  refine x_aload_n 0 dX1_begin_15 rfl rfl ?_
  refine x_iconst (v := 0) dX1_begin_16 rfl ?_
  refine x_puti dX1_begin_17 vc_X1 xin1 tyX1_ok nmX1 fb_X1_3 fl_X1_20 ff_X1_3 xr_X1_3 (nf_X1_3 _) (ft_X1_3 _) k100 ?_
  obtain ⟨N4, eN4, h⟩ := x_lt h
  refine x_nmN eN4 ?_
  refine x_aload_n 0 dX1_begin_20 rfl rfl ?_
  refine x_iconst (v := 0) dX1_begin_21 rfl ?_
  refine x_puti dX1_begin_22 vc_X1 xin1 tyX1_ok nmX1 fb_X1_4 fl_X1_23 ff_X1_4 xr_X1_4 (nf_X1_4 _) (ft_X1_4 _) k100 ?_
  obtain ⟨N5, eN5, h⟩ := x_lt h
  refine x_nmN eN5 ?_
  refine x_aload_n 0 dX1_begin_25 rfl rfl ?_
  refine x_iconst (v := 0) dX1_begin_26 rfl ?_
  refine x_puti dX1_begin_27 vc_X1 xin1 tyX1_ok nmX1 fb_X1_5 fl_X1_26 ff_X1_5 xr_X1_5 (nf_X1_5 _) (ft_X1_5 _) k100 ?_
  obtain ⟨N6, eN6, h⟩ := x_lt h
  refine x_nmN eN6 ?_
  refine x_aload_n 0 dX1_begin_30 rfl rfl ?_
  refine x_iconst (v := 0) dX1_begin_31 rfl ?_
  refine x_puti dX1_begin_32 vc_X1 xin1 tyX1_ok nmX1 fb_X1_6 fl_X1_29 ff_X1_6 xr_X1_6 (nf_X1_6 _) (ft_X1_6 _) k100 ?_
  obtain ⟨N7, eN7, h⟩ := x_lt h
  refine x_nmN eN7 ?_
  obtain rfl := x_so h
  exact x_vret dX1_begin_35 rfl rfl rfl
set_option maxHeartbeats 4000000 in
set_option maxRecDepth 100000 in
theorem T_X1_copyOf {G : XG} {Y : XY} (hw : WT Y) {a0 : Nat} {a1 : Nat} {N : XN} (k100 : kc Y a0 = 11) (k101 : kc Y a1 = 11) {N9 : XN} (h : f_X1_copyOf Y a0 a1 N = some N9) : Cl G yX1_copyOf cX1_copyOf 2 none (xR 1 0 0) [.ref a0, .ref a1] (.inl none) Y N Y N9 := by
  refine x_entry (by decide) (Nat.le_of_ble_eq_true rfl) rfl ?_
  rw [f_X1_copyOf] at h
  refine x_aload_n 0 dX1_copyOf_0 rfl rfl ?_
  refine x_aload_n 1 dX1_copyOf_1 rfl rfl ?_
  refine x_geti dX1_copyOf_2 vc_X1 xin1 fb_X1_0 fl_X1_7 xr_X1_0 k101 ?_
  refine x_puti dX1_copyOf_5 vc_X1 xin1 tyX1_ok nmX1 fb_X1_0 fl_X1_7 ff_X1_0 xr_X1_0 (nf_X1_0 _) (ft_X1_0 _) k100 ?_
  obtain ⟨N1, eN1, h⟩ := x_lt h
  refine x_nmN eN1 ?_
  refine x_aload_n 0 dX1_copyOf_8 rfl rfl ?_
  refine x_aload_n 1 dX1_copyOf_9 rfl rfl ?_
  refine x_geti dX1_copyOf_10 vc_X1 xin1 fb_X1_1 fl_X1_13 xr_X1_1 k101 ?_
  refine x_puti dX1_copyOf_13 vc_X1 xin1 tyX1_ok nmX1 fb_X1_1 fl_X1_13 ff_X1_1 xr_X1_1 (nf_X1_1 _) (ft_X1_1 _) k100 ?_
  obtain ⟨N2, eN2, h⟩ := x_lt h
  refine x_nmN eN2 ?_
  refine x_aload_n 0 dX1_copyOf_16 rfl rfl ?_
  refine x_aload_n 1 dX1_copyOf_17 rfl rfl ?_
  refine x_geti dX1_copyOf_18 vc_X1 xin1 fb_X1_2 fl_X1_16 xr_X1_2 k101 ?_
  obtain ⟨c3, h⟩ := x_ck h
  refine x_puti dX1_copyOf_21 vc_X1 xin1 tyX1_ok nmX1 fb_X1_2 fl_X1_16 ff_X1_2 xr_X1_2 (by rcases xz_or c3 with q | q <;> rw [q] <;> rfl) (by rcases xz_or c3 with q | q <;> rw [q] <;> rfl) k100 ?_
  obtain ⟨N4, eN4, h⟩ := x_lt h
  refine x_nmN eN4 ?_
  refine x_aload_n 0 dX1_copyOf_24 rfl rfl ?_
  refine x_aload_n 1 dX1_copyOf_25 rfl rfl ?_
  refine x_geti dX1_copyOf_26 vc_X1 xin1 fb_X1_3 fl_X1_20 xr_X1_3 k101 ?_
  refine x_puti dX1_copyOf_29 vc_X1 xin1 tyX1_ok nmX1 fb_X1_3 fl_X1_20 ff_X1_3 xr_X1_3 (nf_X1_3 _) (ft_X1_3 _) k100 ?_
  obtain ⟨N5, eN5, h⟩ := x_lt h
  refine x_nmN eN5 ?_
  refine x_aload_n 0 dX1_copyOf_32 rfl rfl ?_
  refine x_aload_n 1 dX1_copyOf_33 rfl rfl ?_
  refine x_geti dX1_copyOf_34 vc_X1 xin1 fb_X1_4 fl_X1_23 xr_X1_4 k101 ?_
  refine x_puti dX1_copyOf_37 vc_X1 xin1 tyX1_ok nmX1 fb_X1_4 fl_X1_23 ff_X1_4 xr_X1_4 (nf_X1_4 _) (ft_X1_4 _) k100 ?_
  obtain ⟨N6, eN6, h⟩ := x_lt h
  refine x_nmN eN6 ?_
  refine x_aload_n 0 dX1_copyOf_40 rfl rfl ?_
  refine x_aload_n 1 dX1_copyOf_41 rfl rfl ?_
  refine x_geti dX1_copyOf_42 vc_X1 xin1 fb_X1_5 fl_X1_26 xr_X1_5 k101 ?_
  refine x_puti dX1_copyOf_45 vc_X1 xin1 tyX1_ok nmX1 fb_X1_5 fl_X1_26 ff_X1_5 xr_X1_5 (nf_X1_5 _) (ft_X1_5 _) k100 ?_
  obtain ⟨N7, eN7, h⟩ := x_lt h
  refine x_nmN eN7 ?_
  refine x_aload_n 0 dX1_copyOf_48 rfl rfl ?_
  refine x_aload_n 1 dX1_copyOf_49 rfl rfl ?_
  refine x_geti dX1_copyOf_50 vc_X1 xin1 fb_X1_6 fl_X1_29 xr_X1_6 k101 ?_
  refine x_puti dX1_copyOf_53 vc_X1 xin1 tyX1_ok nmX1 fb_X1_6 fl_X1_29 ff_X1_6 xr_X1_6 (nf_X1_6 _) (ft_X1_6 _) k100 ?_
  obtain ⟨N8, eN8, h⟩ := x_lt h
  refine x_nmN eN8 ?_
  obtain rfl := x_so h
  exact x_vret dX1_copyOf_56 rfl rfl rfl
set_option maxHeartbeats 4000000 in
set_option maxRecDepth 100000 in
theorem T_X2_begin {G : XG} {Y : XY} (hw : WT Y) {a0 : Nat} {a1 : Int32} {a2 : Int32} {a3 : Int32} {N : XN} (k100 : kc Y a0 = 12) {N9 : XN} (h : f_X2_begin Y a0 a1 a2 a3 N = some N9) : Cl G yX2_begin cX2_begin 4 none (xR 1 0 0) [.ref a0, .int a1, .int a2, .int a3] (.inl none) Y N Y N9 := by
  refine x_entry (by decide) (Nat.le_of_ble_eq_true rfl) rfl ?_
  rw [f_X2_begin] at h
  refine x_aload_n 0 dX2_begin_0 rfl rfl ?_
  refine x_iload_n 1 dX2_begin_1 rfl rfl ?_
  refine x_puti dX2_begin_2 vc_X2 xin2 tyX2_ok nmX2 fb_X2_0 fl_X2_15 ff_X2_0 xr_X2_0 (nf_X2_0 _) (ft_X2_0 _) k100 ?_
  obtain ⟨N1, eN1, h⟩ := x_lt h
  refine x_nmN eN1 ?_
  refine x_aload_n 0 dX2_begin_5 rfl rfl ?_
  refine x_iload_n 2 dX2_begin_6 rfl rfl ?_
  refine x_puti dX2_begin_7 vc_X2 xin2 tyX2_ok nmX2 fb_X2_1 fl_X2_19 ff_X2_1 xr_X2_1 (nf_X2_1 _) (ft_X2_1 _) k100 ?_
  obtain ⟨N2, eN2, h⟩ := x_lt h
  refine x_nmN eN2 ?_
  refine x_aload_n 0 dX2_begin_10 rfl rfl ?_
  refine x_iload_n 3 dX2_begin_11 rfl rfl ?_
  refine x_puti dX2_begin_12 vc_X2 xin2 tyX2_ok nmX2 fb_X2_2 fl_X2_22 ff_X2_2 xr_X2_2 (nf_X2_2 _) (ft_X2_2 _) k100 ?_
  obtain ⟨N3, eN3, h⟩ := x_lt h
  refine x_nmN eN3 ?_
  refine x_aload_n 0 dX2_begin_15 rfl rfl ?_
  refine x_iconst (v := 0) dX2_begin_16 rfl ?_
  refine x_puti dX2_begin_17 vc_X2 xin2 tyX2_ok nmX2 fb_X2_4 fl_X2_25 ff_X2_4 xr_X2_4 (nf_X2_4 _) (ft_X2_4 _) k100 ?_
  obtain ⟨N4, eN4, h⟩ := x_lt h
  refine x_nmN eN4 ?_
  obtain rfl := x_so h
  exact x_vret dX2_begin_20 rfl rfl rfl
set_option maxHeartbeats 4000000 in
set_option maxRecDepth 100000 in
theorem T_X2_copyOf_34 {G : XG} {Y : XY} (hw : WT Y) {N9 : XN}: ∀ (D9 : Nat) (p_0 : Nat) (p_1 : Nat) (v_2 : Int32) (N : XN), kc Y p_0 = 12 → kc Y p_1 = 12 → f_X2_copyOf_34 Y D9 p_0 p_1 v_2 N = some N9 → Ex G yX2_copyOf cX2_copyOf 3 none (xR 1 0 0) (.inl none) Y N9 0 0 34 [(0, .ref p_0), (1, .ref p_1), (2, .int v_2)] [] Y N := by
  intro D9
  induction D9 with
  | zero => intro p_0 p_1 v_2 N kk0 kk1 h; exact nomatch (show none = some _ from h)
  | succ D9 ih =>
    intro p_0 p_1 v_2 N kk0 kk1 h
    rw [f_X2_copyOf_34] at h
    refine x_iload_n 2 dX2_copyOf_34 rfl rfl ?_
    refine x_aload_n 0 dX2_copyOf_35 rfl rfl ?_
    obtain ⟨g1, k2, n3⟩ := wt_X2_3 hw kk0
    refine x_getr dX2_copyOf_36 vc_X2 xin2 fb_X2_3 fl_X2_9 xr_X2_3 kk0 g1 ?_
    refine x_ilen dX2_copyOf_39 k2 (congrArg Int32.ofNat n3) ?_
    rcases x_if h with ⟨c4, h⟩ | ⟨c4, h⟩
    · refine x_icmp_ge_t (tgt := 61) dX2_copyOf_40 (by decide) c4 ?_
      obtain rfl := x_so h
      exact x_vret dX2_copyOf_61 rfl rfl rfl
    · refine x_icmp_ge_f (tgt := 61) dX2_copyOf_40 (by decide) c4 ?_
      refine x_aload_n 0 dX2_copyOf_43 rfl rfl ?_
      refine x_getr dX2_copyOf_44 vc_X2 xin2 fb_X2_3 fl_X2_9 xr_X2_3 kk0 g1 ?_
      refine x_iload_n 2 dX2_copyOf_47 rfl rfl ?_
      refine x_aload_n 1 dX2_copyOf_48 rfl rfl ?_
      obtain ⟨g5, k6, n7⟩ := wt_X2_3 hw kk1
      refine x_getr dX2_copyOf_49 vc_X2 xin2 fb_X2_3 fl_X2_9 xr_X2_3 kk1 g5 ?_
      refine x_iload_n 2 dX2_copyOf_52 rfl rfl ?_
      obtain ⟨c8, h⟩ := x_ck h
      refine x_iald dX2_copyOf_53 k6 (xb_at n7 c8) rfl ?_
      obtain ⟨c9, h⟩ := x_ck h
      refine x_iast dX2_copyOf_54 k2 (xb_at n3 c9) rfl ?_
      obtain ⟨N10, eN10, h⟩ := x_lt h
      refine x_nmN eN10 ?_
      refine x_iinc (L' := [(0, .ref p_0), (1, .ref p_1), (2, .int (v_2 + 1))]) 2 [1, 2, 0] dX2_copyOf_55 rfl rfl (by decide) rfl ?_
      refine x_goto (tgt := 34) dX2_copyOf_58 (by decide) ?_
      exact ih p_0 p_1 (v_2 + 1) N10 kk0 kk1 h
set_option maxHeartbeats 4000000 in
set_option maxRecDepth 100000 in
theorem T_X2_copyOf {G : XG} {Y : XY} (hw : WT Y) {a0 : Nat} {a1 : Nat} {N : XN} (k100 : kc Y a0 = 12) (k101 : kc Y a1 = 12) {N9 : XN} (h : f_X2_copyOf Y a0 a1 N = some N9) : Cl G yX2_copyOf cX2_copyOf 3 none (xR 1 0 0) [.ref a0, .ref a1] (.inl none) Y N Y N9 := by
  refine x_entry (by decide) (Nat.le_of_ble_eq_true rfl) rfl ?_
  rw [f_X2_copyOf] at h
  refine x_aload_n 0 dX2_copyOf_0 rfl rfl ?_
  refine x_aload_n 1 dX2_copyOf_1 rfl rfl ?_
  refine x_geti dX2_copyOf_2 vc_X2 xin2 fb_X2_0 fl_X2_15 xr_X2_0 k101 ?_
  refine x_puti dX2_copyOf_5 vc_X2 xin2 tyX2_ok nmX2 fb_X2_0 fl_X2_15 ff_X2_0 xr_X2_0 (nf_X2_0 _) (ft_X2_0 _) k100 ?_
  obtain ⟨N1, eN1, h⟩ := x_lt h
  refine x_nmN eN1 ?_
  refine x_aload_n 0 dX2_copyOf_8 rfl rfl ?_
  refine x_aload_n 1 dX2_copyOf_9 rfl rfl ?_
  refine x_geti dX2_copyOf_10 vc_X2 xin2 fb_X2_1 fl_X2_19 xr_X2_1 k101 ?_
  refine x_puti dX2_copyOf_13 vc_X2 xin2 tyX2_ok nmX2 fb_X2_1 fl_X2_19 ff_X2_1 xr_X2_1 (nf_X2_1 _) (ft_X2_1 _) k100 ?_
  obtain ⟨N2, eN2, h⟩ := x_lt h
  refine x_nmN eN2 ?_
  refine x_aload_n 0 dX2_copyOf_16 rfl rfl ?_
  refine x_aload_n 1 dX2_copyOf_17 rfl rfl ?_
  refine x_geti dX2_copyOf_18 vc_X2 xin2 fb_X2_2 fl_X2_22 xr_X2_2 k101 ?_
  refine x_puti dX2_copyOf_21 vc_X2 xin2 tyX2_ok nmX2 fb_X2_2 fl_X2_22 ff_X2_2 xr_X2_2 (nf_X2_2 _) (ft_X2_2 _) k100 ?_
  obtain ⟨N3, eN3, h⟩ := x_lt h
  refine x_nmN eN3 ?_
  refine x_aload_n 0 dX2_copyOf_24 rfl rfl ?_
  refine x_aload_n 1 dX2_copyOf_25 rfl rfl ?_
  refine x_geti dX2_copyOf_26 vc_X2 xin2 fb_X2_4 fl_X2_25 xr_X2_4 k101 ?_
  refine x_puti dX2_copyOf_29 vc_X2 xin2 tyX2_ok nmX2 fb_X2_4 fl_X2_25 ff_X2_4 xr_X2_4 (nf_X2_4 _) (ft_X2_4 _) k100 ?_
  obtain ⟨N4, eN4, h⟩ := x_lt h
  refine x_nmN eN4 ?_
  refine x_iconst (v := 0) dX2_copyOf_32 rfl ?_
  refine x_istore_n (L' := [(0, .ref a0), (1, .ref a1), (2, .int 0)]) [1, 2, 0] dX2_copyOf_33 rfl (by decide) rfl ?_
  exact T_X2_copyOf_34 (G := G) hw FU a0 a1 0 N4 k100 k101 h
set_option maxHeartbeats 4000000 in
set_option maxRecDepth 100000 in
theorem T_X2_placeOf_2 {G : XG} {Y : XY} (hw : WT Y) {r9 : Int32}: ∀ (D9 : Nat) (p_0 : Nat) (v_1 : Int32) (v_2 : Int32) (N : XN), kc Y p_0 = 12 → f_X2_placeOf_2 Y D9 p_0 v_1 v_2 N = some r9 → Ex G yX2_placeOf cX2_placeOf 3 (some .int) (xR 1 0 0) (.inl (some (.int r9))) Y N 0 0 2 [(0, .ref p_0), (1, .int v_1), (2, .int v_2)] [] Y N := by
  intro D9
  induction D9 with
  | zero => intro p_0 v_1 v_2 N kk0 h; exact nomatch (show none = some _ from h)
  | succ D9 ih =>
    intro p_0 v_1 v_2 N kk0 h
    rw [f_X2_placeOf_2] at h
    refine x_iload_n 2 dX2_placeOf_2 rfl rfl ?_
    refine x_aload_n 0 dX2_placeOf_3 rfl rfl ?_
    refine x_geti dX2_placeOf_4 vc_X2 xin2 fb_X2_4 fl_X2_25 xr_X2_4 kk0 ?_
    rcases x_if h with ⟨c1, h⟩ | ⟨c1, h⟩
    · refine x_icmp_ge_t (tgt := 28) dX2_placeOf_7 (by decide) c1 ?_
      refine x_iconst (v := (-1)) dX2_placeOf_28 rfl ?_
      obtain rfl := x_so h
      exact x_iret dX2_placeOf_29 rfl rfl rfl
    · refine x_icmp_ge_f (tgt := 28) dX2_placeOf_7 (by decide) c1 ?_
      refine x_aload_n 0 dX2_placeOf_10 rfl rfl ?_
      obtain ⟨g2, k3, n4⟩ := wt_X2_3 hw kk0
      refine x_getr dX2_placeOf_11 vc_X2 xin2 fb_X2_3 fl_X2_9 xr_X2_3 kk0 g2 ?_
      refine x_iload_n 2 dX2_placeOf_14 rfl rfl ?_
      obtain ⟨c5, h⟩ := x_ck h
      refine x_iald dX2_placeOf_15 k3 (xb_at n4 c5) rfl ?_
      refine x_iload_n 1 dX2_placeOf_16 rfl rfl ?_
      rcases x_if h with ⟨c6, h⟩ | ⟨c6, h⟩
      · refine x_icmp_ne_f (tgt := 22) dX2_placeOf_17 (by decide) c6 ?_
        refine x_iload_n 2 dX2_placeOf_20 rfl rfl ?_
        obtain rfl := x_so h
        exact x_iret dX2_placeOf_21 rfl rfl rfl
      · refine x_icmp_ne_t (tgt := 22) dX2_placeOf_17 (by decide) c6 ?_
        refine x_iinc (L' := [(0, .ref p_0), (1, .int v_1), (2, .int (v_2 + 1))]) 2 [1, 2, 0] dX2_placeOf_22 rfl rfl (by decide) rfl ?_
        refine x_goto (tgt := 2) dX2_placeOf_25 (by decide) ?_
        exact ih p_0 v_1 (v_2 + 1) N kk0 h
set_option maxHeartbeats 4000000 in
set_option maxRecDepth 100000 in
theorem T_X2_placeOf {G : XG} {Y : XY} (hw : WT Y) {a0 : Nat} {a1 : Int32} {N : XN} (k100 : kc Y a0 = 12) {r9 : Int32} (h : f_X2_placeOf Y a0 a1 N = some r9) : Cl G yX2_placeOf cX2_placeOf 3 (some .int) (xR 1 0 0) [.ref a0, .int a1] (.inl (some (.int r9))) Y N Y N := by
  refine x_entry (by decide) (Nat.le_of_ble_eq_true rfl) rfl ?_
  rw [f_X2_placeOf] at h
  refine x_iconst (v := 0) dX2_placeOf_0 rfl ?_
  refine x_istore_n (L' := [(0, .ref a0), (1, .int a1), (2, .int 0)]) [1, 2, 0] dX2_placeOf_1 rfl (by decide) rfl ?_
  exact T_X2_placeOf_2 (G := G) hw FU a0 a1 0 N k100 h
set_option maxHeartbeats 4000000 in
set_option maxRecDepth 100000 in
theorem T_X2_addTenant {G : XG} {Y : XY} (hw : WT Y) {a0 : Nat} {a1 : Int32} {N : XN} (k100 : kc Y a0 = 12) {N9 : XN} (h : f_X2_addTenant Y a0 a1 N = some N9) : Cl G yX2_addTenant cX2_addTenant 2 none (xR 1 0 0) [.ref a0, .int a1] (.inl none) Y N Y N9 := by
  refine x_entry (by decide) (Nat.le_of_ble_eq_true rfl) rfl ?_
  rw [f_X2_addTenant] at h
  refine x_aload_n 0 dX2_addTenant_0 rfl rfl ?_
  refine x_geti dX2_addTenant_1 vc_X2 xin2 fb_X2_4 fl_X2_25 xr_X2_4 k100 ?_
  refine x_aload_n 0 dX2_addTenant_4 rfl rfl ?_
  obtain ⟨g1, k2, n3⟩ := wt_X2_3 hw k100
  refine x_getr dX2_addTenant_5 vc_X2 xin2 fb_X2_3 fl_X2_9 xr_X2_3 k100 g1 ?_
  refine x_ilen dX2_addTenant_8 k2 (congrArg Int32.ofNat n3) ?_
  rcases x_if h with ⟨c4, h⟩ | ⟨c4, h⟩
  · refine x_icmp_ge_t (tgt := 32) dX2_addTenant_9 (by decide) c4 ?_
    obtain rfl := x_so h
    exact x_vret dX2_addTenant_32 rfl rfl rfl
  · refine x_icmp_ge_f (tgt := 32) dX2_addTenant_9 (by decide) c4 ?_
    refine x_aload_n 0 dX2_addTenant_12 rfl rfl ?_
    refine x_getr dX2_addTenant_13 vc_X2 xin2 fb_X2_3 fl_X2_9 xr_X2_3 k100 g1 ?_
    refine x_aload_n 0 dX2_addTenant_16 rfl rfl ?_
    refine x_geti dX2_addTenant_17 vc_X2 xin2 fb_X2_4 fl_X2_25 xr_X2_4 k100 ?_
    refine x_iload_n 1 dX2_addTenant_20 rfl rfl ?_
    obtain ⟨c5, h⟩ := x_ck h
    refine x_iast dX2_addTenant_21 k2 (xb_at n3 c5) rfl ?_
    obtain ⟨N6, eN6, h⟩ := x_lt h
    refine x_nmN eN6 ?_
    refine x_aload_n 0 dX2_addTenant_22 rfl rfl ?_
    refine x_dup dX2_addTenant_23 rfl ?_
    refine x_geti dX2_addTenant_24 vc_X2 xin2 fb_X2_4 fl_X2_25 xr_X2_4 k100 ?_
    refine x_iconst (v := 1) dX2_addTenant_27 rfl ?_
    refine x_iadd dX2_addTenant_28 ?_
    refine x_puti dX2_addTenant_29 vc_X2 xin2 tyX2_ok nmX2 fb_X2_4 fl_X2_25 ff_X2_4 xr_X2_4 (nf_X2_4 _) (ft_X2_4 _) k100 ?_
    obtain ⟨N7, eN7, h⟩ := x_lt h
    refine x_nmN eN7 ?_
    obtain rfl := x_so h
    exact x_vret dX2_addTenant_32 rfl rfl rfl
set_option maxHeartbeats 4000000 in
set_option maxRecDepth 100000 in
theorem T_X2_removeTenant_4 {G : XG} {Y : XY} (hw : WT Y) {N9 : XN}: ∀ (D9 : Nat) (p_0 : Nat) (v_1 : Int32) (v_2 : Int32) (v_3 : Int32) (N : XN), kc Y p_0 = 12 → f_X2_removeTenant_4 Y D9 p_0 v_1 v_2 v_3 N = some N9 → Ex G yX2_removeTenant cX2_removeTenant 4 none (xR 1 0 0) (.inl none) Y N9 0 0 4 [(0, .ref p_0), (1, .int v_1), (2, .int v_2), (3, .int v_3)] [] Y N := by
  intro D9
  induction D9 with
  | zero => intro p_0 v_1 v_2 v_3 N kk0 h; exact nomatch (show none = some _ from h)
  | succ D9 ih =>
    intro p_0 v_1 v_2 v_3 N kk0 h
    rw [f_X2_removeTenant_4] at h
    refine x_iload_n 3 dX2_removeTenant_4 rfl rfl ?_
    refine x_aload_n 0 dX2_removeTenant_5 rfl rfl ?_
    refine x_geti dX2_removeTenant_6 vc_X2 xin2 fb_X2_4 fl_X2_25 xr_X2_4 kk0 ?_
    rcases x_if h with ⟨c1, h⟩ | ⟨c1, h⟩
    · refine x_icmp_ge_t (tgt := 43) dX2_removeTenant_9 (by decide) c1 ?_
      refine x_aload_n 0 dX2_removeTenant_43 rfl rfl ?_
      refine x_iload_n 2 dX2_removeTenant_44 rfl rfl ?_
      refine x_puti dX2_removeTenant_45 vc_X2 xin2 tyX2_ok nmX2 fb_X2_4 fl_X2_25 ff_X2_4 xr_X2_4 (nf_X2_4 _) (ft_X2_4 _) kk0 ?_
      obtain ⟨N2, eN2, h⟩ := x_lt h
      refine x_nmN eN2 ?_
      obtain rfl := x_so h
      exact x_vret dX2_removeTenant_48 rfl rfl rfl
    · refine x_icmp_ge_f (tgt := 43) dX2_removeTenant_9 (by decide) c1 ?_
      refine x_aload_n 0 dX2_removeTenant_12 rfl rfl ?_
      obtain ⟨g3, k4, n5⟩ := wt_X2_3 hw kk0
      refine x_getr dX2_removeTenant_13 vc_X2 xin2 fb_X2_3 fl_X2_9 xr_X2_3 kk0 g3 ?_
      refine x_iload_n 3 dX2_removeTenant_16 rfl rfl ?_
      obtain ⟨c6, h⟩ := x_ck h
      refine x_iald dX2_removeTenant_17 k4 (xb_at n5 c6) rfl ?_
      refine x_iload_n 1 dX2_removeTenant_18 rfl rfl ?_
      rcases x_if h with ⟨c7, h⟩ | ⟨c7, h⟩
      · refine x_icmp_eq_t (tgt := 37) dX2_removeTenant_19 (by decide) c7 ?_
        refine x_iinc (L' := [(0, .ref p_0), (1, .int v_1), (2, .int v_2), (3, .int (v_3 + 1))]) 3 [1, 2, 3, 0] dX2_removeTenant_37 rfl rfl (by decide) rfl ?_
        refine x_goto (tgt := 4) dX2_removeTenant_40 (by decide) ?_
        exact ih p_0 v_1 v_2 (v_3 + 1) N kk0 h
      · refine x_icmp_eq_f (tgt := 37) dX2_removeTenant_19 (by decide) c7 ?_
        refine x_aload_n 0 dX2_removeTenant_22 rfl rfl ?_
        refine x_getr dX2_removeTenant_23 vc_X2 xin2 fb_X2_3 fl_X2_9 xr_X2_3 kk0 g3 ?_
        refine x_iload_n 2 dX2_removeTenant_26 rfl rfl ?_
        refine x_aload_n 0 dX2_removeTenant_27 rfl rfl ?_
        refine x_getr dX2_removeTenant_28 vc_X2 xin2 fb_X2_3 fl_X2_9 xr_X2_3 kk0 g3 ?_
        refine x_iload_n 3 dX2_removeTenant_31 rfl rfl ?_
        obtain ⟨c8, h⟩ := x_ck h
        refine x_iald dX2_removeTenant_32 k4 (xb_at n5 c8) rfl ?_
        obtain ⟨c9, h⟩ := x_ck h
        refine x_iast dX2_removeTenant_33 k4 (xb_at n5 c9) rfl ?_
        obtain ⟨N10, eN10, h⟩ := x_lt h
        refine x_nmN eN10 ?_
        refine x_iinc (L' := [(0, .ref p_0), (1, .int v_1), (2, .int (v_2 + 1)), (3, .int v_3)]) 2 [1, 2, 0, 3] dX2_removeTenant_34 rfl rfl (by decide) rfl ?_
        refine x_iinc (L' := [(0, .ref p_0), (1, .int v_1), (2, .int (v_2 + 1)), (3, .int (v_3 + 1))]) 3 [1, 2, 3, 0] dX2_removeTenant_37 rfl rfl (by decide) rfl ?_
        refine x_goto (tgt := 4) dX2_removeTenant_40 (by decide) ?_
        exact ih p_0 v_1 (v_2 + 1) (v_3 + 1) N10 kk0 h
set_option maxHeartbeats 4000000 in
set_option maxRecDepth 100000 in
theorem T_X2_removeTenant {G : XG} {Y : XY} (hw : WT Y) {a0 : Nat} {a1 : Int32} {N : XN} (k100 : kc Y a0 = 12) {N9 : XN} (h : f_X2_removeTenant Y a0 a1 N = some N9) : Cl G yX2_removeTenant cX2_removeTenant 4 none (xR 1 0 0) [.ref a0, .int a1] (.inl none) Y N Y N9 := by
  refine x_entry (by decide) (Nat.le_of_ble_eq_true rfl) rfl ?_
  rw [f_X2_removeTenant] at h
  refine x_iconst (v := 0) dX2_removeTenant_0 rfl ?_
  refine x_istore_n (L' := [(0, .ref a0), (1, .int a1), (2, .int 0)]) [1, 2, 0] dX2_removeTenant_1 rfl (by decide) rfl ?_
  refine x_iconst (v := 0) dX2_removeTenant_2 rfl ?_
  refine x_istore_n (L' := [(0, .ref a0), (1, .int a1), (2, .int 0), (3, .int 0)]) [1, 2, 3, 0] dX2_removeTenant_3 rfl (by decide) rfl ?_
  exact T_X2_removeTenant_4 (G := G) hw FU a0 a1 0 0 N k100 h
set_option maxHeartbeats 4000000 in
set_option maxRecDepth 100000 in
theorem T_X2_payAtMost {G : XG} {Y : XY} (hw : WT Y) {a0 : Nat} {a1 : Int32} {N : XN} (k100 : kc Y a0 = 12) {r9 : Int32} {N9 : XN} (h : f_X2_payAtMost Y a0 a1 N = some (r9, N9)) : Cl G yX2_payAtMost cX2_payAtMost 3 (some .int) (xR 1 0 0) [.ref a0, .int a1] (.inl (some (.int r9))) Y N Y N9 := by
  refine x_entry (by decide) (Nat.le_of_ble_eq_true rfl) rfl ?_
  rw [f_X2_payAtMost] at h
  refine x_iload_n 1 dX2_payAtMost_0 rfl rfl ?_
  refine x_aload_n 0 dX2_payAtMost_1 rfl rfl ?_
  refine x_geti dX2_payAtMost_2 vc_X2 xin2 fb_X2_2 fl_X2_22 xr_X2_2 k100 ?_
  rcases x_if h with ⟨c1, h⟩ | ⟨c1, h⟩
  · refine x_icmp_ge_t (tgt := 12) dX2_payAtMost_5 (by decide) c1 ?_
    refine x_aload_n 0 dX2_payAtMost_12 rfl rfl ?_
    refine x_geti dX2_payAtMost_13 vc_X2 xin2 fb_X2_2 fl_X2_22 xr_X2_2 k100 ?_
    refine x_istore_n (L' := [(0, .ref a0), (2, .int (gi N a0 2))]) [1, 0] dX2_payAtMost_16 rfl (by decide) rfl ?_
    refine x_aload_n 0 dX2_payAtMost_17 rfl rfl ?_
    refine x_dup dX2_payAtMost_18 rfl ?_
    refine x_geti dX2_payAtMost_19 vc_X2 xin2 fb_X2_2 fl_X2_22 xr_X2_2 k100 ?_
    refine x_iload_n 1 dX2_payAtMost_22 rfl rfl ?_
    refine x_isub dX2_payAtMost_23 ?_
    refine x_puti dX2_payAtMost_24 vc_X2 xin2 tyX2_ok nmX2 fb_X2_2 fl_X2_22 ff_X2_2 xr_X2_2 (nf_X2_2 _) (ft_X2_2 _) k100 ?_
    obtain ⟨N2, eN2, h⟩ := x_lt h
    refine x_nmN eN2 ?_
    refine x_iload_n 1 dX2_payAtMost_27 rfl rfl ?_
    obtain ⟨rfl, rfl⟩ := Prod.mk.inj (x_so h)
    exact x_iret dX2_payAtMost_28 rfl rfl rfl
  · refine x_icmp_ge_f (tgt := 12) dX2_payAtMost_5 (by decide) c1 ?_
    refine x_iload_n 1 dX2_payAtMost_8 rfl rfl ?_
    refine x_goto (tgt := 16) dX2_payAtMost_9 (by decide) ?_
    refine x_istore_n (L' := [(0, .ref a0), (2, .int a1)]) [1, 0] dX2_payAtMost_16 rfl (by decide) rfl ?_
    refine x_aload_n 0 dX2_payAtMost_17 rfl rfl ?_
    refine x_dup dX2_payAtMost_18 rfl ?_
    refine x_geti dX2_payAtMost_19 vc_X2 xin2 fb_X2_2 fl_X2_22 xr_X2_2 k100 ?_
    refine x_iload_n 1 dX2_payAtMost_22 rfl rfl ?_
    refine x_isub dX2_payAtMost_23 ?_
    refine x_puti dX2_payAtMost_24 vc_X2 xin2 tyX2_ok nmX2 fb_X2_2 fl_X2_22 ff_X2_2 xr_X2_2 (nf_X2_2 _) (ft_X2_2 _) k100 ?_
    obtain ⟨N3, eN3, h⟩ := x_lt h
    refine x_nmN eN3 ?_
    refine x_iload_n 1 dX2_payAtMost_27 rfl rfl ?_
    obtain ⟨rfl, rfl⟩ := Prod.mk.inj (x_so h)
    exact x_iret dX2_payAtMost_28 rfl rfl rfl
set_option maxHeartbeats 4000000 in
set_option maxRecDepth 100000 in
theorem T_X3_begin {G : XG} {Y : XY} (hw : WT Y) {a0 : Nat} {a1 : Int32} {a2 : Int32} {a3 : Int32} {N : XN} (k100 : kc Y a0 = 13) {N9 : XN} (h : f_X3_begin Y a0 a1 a2 a3 N = some N9) : Cl G yX3_begin cX3_begin 4 none (xR 1 0 0) [.ref a0, .int a1, .int a2, .int a3] (.inl none) Y N Y N9 := by
  refine x_entry (by decide) (Nat.le_of_ble_eq_true rfl) rfl ?_
  rw [f_X3_begin] at h
  refine x_aload_n 0 dX3_begin_0 rfl rfl ?_
  refine x_iload_n 1 dX3_begin_1 rfl rfl ?_
  refine x_puti dX3_begin_2 vc_X3 xin3 tyX3_ok nmX3 fb_X3_0 fl_X3_9 ff_X3_0 xr_X3_0 (nf_X3_0 _) (ft_X3_0 _) k100 ?_
  obtain ⟨N1, eN1, h⟩ := x_lt h
  refine x_nmN eN1 ?_
  refine x_aload_n 0 dX3_begin_5 rfl rfl ?_
  refine x_iload_n 2 dX3_begin_6 rfl rfl ?_
  refine x_puti dX3_begin_7 vc_X3 xin3 tyX3_ok nmX3 fb_X3_1 fl_X3_15 ff_X3_1 xr_X3_1 (nf_X3_1 _) (ft_X3_1 _) k100 ?_
  obtain ⟨N2, eN2, h⟩ := x_lt h
  refine x_nmN eN2 ?_
  refine x_aload_n 0 dX3_begin_10 rfl rfl ?_
  refine x_iload_n 3 dX3_begin_11 rfl rfl ?_
  refine x_puti dX3_begin_12 vc_X3 xin3 tyX3_ok nmX3 fb_X3_2 fl_X3_18 ff_X3_2 xr_X3_2 (nf_X3_2 _) (ft_X3_2 _) k100 ?_
  obtain ⟨N3, eN3, h⟩ := x_lt h
  refine x_nmN eN3 ?_
  refine x_aload_n 0 dX3_begin_15 rfl rfl ?_
  refine x_iconst (v := 0) dX3_begin_16 rfl ?_
  refine x_puti dX3_begin_17 vc_X3 xin3 tyX3_ok nmX3 fb_X3_3 fl_X3_21 ff_X3_3 xr_X3_3 (nf_X3_3 _) (ft_X3_3 _) k100 ?_
  obtain ⟨N4, eN4, h⟩ := x_lt h
  refine x_nmN eN4 ?_
  refine x_aload_n 0 dX3_begin_20 rfl rfl ?_
  refine x_iconst (v := (-1)) dX3_begin_21 rfl ?_
  refine x_puti dX3_begin_22 vc_X3 xin3 tyX3_ok nmX3 fb_X3_4 fl_X3_24 ff_X3_4 xr_X3_4 (nf_X3_4 _) (ft_X3_4 _) k100 ?_
  obtain ⟨N5, eN5, h⟩ := x_lt h
  refine x_nmN eN5 ?_
  refine x_aload_n 0 dX3_begin_25 rfl rfl ?_
  refine x_iconst (v := 0) dX3_begin_26 rfl ?_
  refine x_puti dX3_begin_27 vc_X3 xin3 tyX3_ok nmX3 fb_X3_5 fl_X3_27 ff_X3_5 xr_X3_5 (nf_X3_5 _) (ft_X3_5 _) k100 ?_
  obtain ⟨N6, eN6, h⟩ := x_lt h
  refine x_nmN eN6 ?_
  refine x_aload_n 0 dX3_begin_30 rfl rfl ?_
  refine x_iconst (v := 0) dX3_begin_31 rfl ?_
  refine x_puti dX3_begin_32 vc_X3 xin3 tyX3_ok nmX3 fb_X3_6 fl_X3_30 ff_X3_6 xr_X3_6 (nf_X3_6 _) (ft_X3_6 _) k100 ?_
  obtain ⟨N7, eN7, h⟩ := x_lt h
  refine x_nmN eN7 ?_
  refine x_aload_n 0 dX3_begin_35 rfl rfl ?_
  refine x_iconst (v := (-1)) dX3_begin_36 rfl ?_
  refine x_puti dX3_begin_37 vc_X3 xin3 tyX3_ok nmX3 fb_X3_7 fl_X3_33 ff_X3_7 xr_X3_7 (nf_X3_7 _) (ft_X3_7 _) k100 ?_
  obtain ⟨N8, eN8, h⟩ := x_lt h
  refine x_nmN eN8 ?_
  obtain rfl := x_so h
  exact x_vret dX3_begin_40 rfl rfl rfl
set_option maxHeartbeats 4000000 in
set_option maxRecDepth 100000 in
theorem T_X3_copyOf {G : XG} {Y : XY} (hw : WT Y) {a0 : Nat} {a1 : Nat} {N : XN} (k100 : kc Y a0 = 13) (k101 : kc Y a1 = 13) {N9 : XN} (h : f_X3_copyOf Y a0 a1 N = some N9) : Cl G yX3_copyOf cX3_copyOf 2 none (xR 1 0 0) [.ref a0, .ref a1] (.inl none) Y N Y N9 := by
  refine x_entry (by decide) (Nat.le_of_ble_eq_true rfl) rfl ?_
  rw [f_X3_copyOf] at h
  refine x_aload_n 0 dX3_copyOf_0 rfl rfl ?_
  refine x_aload_n 1 dX3_copyOf_1 rfl rfl ?_
  refine x_geti dX3_copyOf_2 vc_X3 xin3 fb_X3_0 fl_X3_9 xr_X3_0 k101 ?_
  refine x_puti dX3_copyOf_5 vc_X3 xin3 tyX3_ok nmX3 fb_X3_0 fl_X3_9 ff_X3_0 xr_X3_0 (nf_X3_0 _) (ft_X3_0 _) k100 ?_
  obtain ⟨N1, eN1, h⟩ := x_lt h
  refine x_nmN eN1 ?_
  refine x_aload_n 0 dX3_copyOf_8 rfl rfl ?_
  refine x_aload_n 1 dX3_copyOf_9 rfl rfl ?_
  refine x_geti dX3_copyOf_10 vc_X3 xin3 fb_X3_1 fl_X3_15 xr_X3_1 k101 ?_
  refine x_puti dX3_copyOf_13 vc_X3 xin3 tyX3_ok nmX3 fb_X3_1 fl_X3_15 ff_X3_1 xr_X3_1 (nf_X3_1 _) (ft_X3_1 _) k100 ?_
  obtain ⟨N2, eN2, h⟩ := x_lt h
  refine x_nmN eN2 ?_
  refine x_aload_n 0 dX3_copyOf_16 rfl rfl ?_
  refine x_aload_n 1 dX3_copyOf_17 rfl rfl ?_
  refine x_geti dX3_copyOf_18 vc_X3 xin3 fb_X3_2 fl_X3_18 xr_X3_2 k101 ?_
  refine x_puti dX3_copyOf_21 vc_X3 xin3 tyX3_ok nmX3 fb_X3_2 fl_X3_18 ff_X3_2 xr_X3_2 (nf_X3_2 _) (ft_X3_2 _) k100 ?_
  obtain ⟨N3, eN3, h⟩ := x_lt h
  refine x_nmN eN3 ?_
  refine x_aload_n 0 dX3_copyOf_24 rfl rfl ?_
  refine x_aload_n 1 dX3_copyOf_25 rfl rfl ?_
  refine x_geti dX3_copyOf_26 vc_X3 xin3 fb_X3_3 fl_X3_21 xr_X3_3 k101 ?_
  refine x_puti dX3_copyOf_29 vc_X3 xin3 tyX3_ok nmX3 fb_X3_3 fl_X3_21 ff_X3_3 xr_X3_3 (nf_X3_3 _) (ft_X3_3 _) k100 ?_
  obtain ⟨N4, eN4, h⟩ := x_lt h
  refine x_nmN eN4 ?_
  refine x_aload_n 0 dX3_copyOf_32 rfl rfl ?_
  refine x_aload_n 1 dX3_copyOf_33 rfl rfl ?_
  refine x_geti dX3_copyOf_34 vc_X3 xin3 fb_X3_4 fl_X3_24 xr_X3_4 k101 ?_
  refine x_puti dX3_copyOf_37 vc_X3 xin3 tyX3_ok nmX3 fb_X3_4 fl_X3_24 ff_X3_4 xr_X3_4 (nf_X3_4 _) (ft_X3_4 _) k100 ?_
  obtain ⟨N5, eN5, h⟩ := x_lt h
  refine x_nmN eN5 ?_
  refine x_aload_n 0 dX3_copyOf_40 rfl rfl ?_
  refine x_aload_n 1 dX3_copyOf_41 rfl rfl ?_
  refine x_geti dX3_copyOf_42 vc_X3 xin3 fb_X3_5 fl_X3_27 xr_X3_5 k101 ?_
  refine x_puti dX3_copyOf_45 vc_X3 xin3 tyX3_ok nmX3 fb_X3_5 fl_X3_27 ff_X3_5 xr_X3_5 (nf_X3_5 _) (ft_X3_5 _) k100 ?_
  obtain ⟨N6, eN6, h⟩ := x_lt h
  refine x_nmN eN6 ?_
  refine x_aload_n 0 dX3_copyOf_48 rfl rfl ?_
  refine x_aload_n 1 dX3_copyOf_49 rfl rfl ?_
  refine x_geti dX3_copyOf_50 vc_X3 xin3 fb_X3_6 fl_X3_30 xr_X3_6 k101 ?_
  refine x_puti dX3_copyOf_53 vc_X3 xin3 tyX3_ok nmX3 fb_X3_6 fl_X3_30 ff_X3_6 xr_X3_6 (nf_X3_6 _) (ft_X3_6 _) k100 ?_
  obtain ⟨N7, eN7, h⟩ := x_lt h
  refine x_nmN eN7 ?_
  refine x_aload_n 0 dX3_copyOf_56 rfl rfl ?_
  refine x_aload_n 1 dX3_copyOf_57 rfl rfl ?_
  refine x_geti dX3_copyOf_58 vc_X3 xin3 fb_X3_7 fl_X3_33 xr_X3_7 k101 ?_
  refine x_puti dX3_copyOf_61 vc_X3 xin3 tyX3_ok nmX3 fb_X3_7 fl_X3_33 ff_X3_7 xr_X3_7 (nf_X3_7 _) (ft_X3_7 _) k100 ?_
  obtain ⟨N8, eN8, h⟩ := x_lt h
  refine x_nmN eN8 ?_
  obtain rfl := x_so h
  exact x_vret dX3_copyOf_64 rfl rfl rfl
set_option maxHeartbeats 4000000 in
set_option maxRecDepth 100000 in
theorem T_X6_begin {G : XG} {Y : XY} (hw : WT Y) {a0 : Nat} {N : XN} (k100 : kc Y a0 = 16) {N9 : XN} (h : f_X6_begin Y a0 N = some N9) : Cl G yX6_begin cX6_begin 1 none (xR 1 0 0) [.ref a0] (.inl none) Y N Y N9 := by
  refine x_entry (by decide) (Nat.le_of_ble_eq_true rfl) rfl ?_
  rw [f_X6_begin] at h
  refine x_aload_n 0 dX6_begin_0 rfl rfl ?_
  refine x_iconst (v := 0) dX6_begin_1 rfl ?_
  refine x_puti dX6_begin_2 vc_X6 xin6 tyX6_ok nmX6 fb_X6_1 fl_X6_46 ff_X6_1 xr_X6_1 (nf_X6_1 _) (ft_X6_1 _) k100 ?_
  obtain ⟨N1, eN1, h⟩ := x_lt h
  refine x_nmN eN1 ?_
  refine x_aload_n 0 dX6_begin_5 rfl rfl ?_
  refine x_iconst (v := 0) dX6_begin_6 rfl ?_
  refine x_puti dX6_begin_7 vc_X6 xin6 tyX6_ok nmX6 fb_X6_3 fl_X6_50 ff_X6_3 xr_X6_3 (nf_X6_3 _) (ft_X6_3 _) k100 ?_
  obtain ⟨N2, eN2, h⟩ := x_lt h
  refine x_nmN eN2 ?_
  refine x_aload_n 0 dX6_begin_10 rfl rfl ?_
  refine x_iconst (v := 0) dX6_begin_11 rfl ?_
  refine x_puti dX6_begin_12 vc_X6 xin6 tyX6_ok nmX6 fb_X6_5 fl_X6_53 ff_X6_5 xr_X6_5 (nf_X6_5 _) (ft_X6_5 _) k100 ?_
  obtain ⟨N3, eN3, h⟩ := x_lt h
  refine x_nmN eN3 ?_
  refine x_aload_n 0 dX6_begin_15 rfl rfl ?_
  refine x_iconst (v := 0) dX6_begin_16 rfl ?_
  refine x_puti dX6_begin_17 vc_X6 xin6 tyX6_ok nmX6 fb_X6_6 fl_X6_56 ff_X6_6 xr_X6_6 (nf_X6_6 _) (ft_X6_6 _) k100 ?_
  obtain ⟨N4, eN4, h⟩ := x_lt h
  refine x_nmN eN4 ?_
  refine x_aload_n 0 dX6_begin_20 rfl rfl ?_
  refine x_iconst (v := 0) dX6_begin_21 rfl ?_
  refine x_puti dX6_begin_22 vc_X6 xin6 tyX6_ok nmX6 fb_X6_7 fl_X6_59 ff_X6_7 xr_X6_7 (nf_X6_7 _) (ft_X6_7 _) k100 ?_
  obtain ⟨N5, eN5, h⟩ := x_lt h
  refine x_nmN eN5 ?_
  refine x_aload_n 0 dX6_begin_25 rfl rfl ?_
  refine x_iconst (v := 5) dX6_begin_26 rfl ?_
  refine x_puti dX6_begin_27 vc_X6 xin6 tyX6_ok nmX6 fb_X6_8 fl_X6_62 ff_X6_8 xr_X6_8 (nf_X6_8 _) (ft_X6_8 _) k100 ?_
  obtain ⟨N6, eN6, h⟩ := x_lt h
  refine x_nmN eN6 ?_
  refine x_aload_n 0 dX6_begin_30 rfl rfl ?_
  refine x_bipush (v := 10) dX6_begin_31 rfl ?_
  refine x_puti dX6_begin_33 vc_X6 xin6 tyX6_ok nmX6 fb_X6_9 fl_X6_65 ff_X6_9 xr_X6_9 (nf_X6_9 _) (ft_X6_9 _) k100 ?_
  obtain ⟨N7, eN7, h⟩ := x_lt h
  refine x_nmN eN7 ?_
  refine x_aload_n 0 dX6_begin_36 rfl rfl ?_
  refine x_bipush (v := 10) dX6_begin_37 rfl ?_
  refine x_puti dX6_begin_39 vc_X6 xin6 tyX6_ok nmX6 fb_X6_10 fl_X6_68 ff_X6_10 xr_X6_10 (nf_X6_10 _) (ft_X6_10 _) k100 ?_
  obtain ⟨N8, eN8, h⟩ := x_lt h
  refine x_nmN eN8 ?_
  refine x_aload_n 0 dX6_begin_42 rfl rfl ?_
  refine x_bipush (v := 10) dX6_begin_43 rfl ?_
  refine x_puti dX6_begin_45 vc_X6 xin6 tyX6_ok nmX6 fb_X6_11 fl_X6_71 ff_X6_11 xr_X6_11 (nf_X6_11 _) (ft_X6_11 _) k100 ?_
  obtain ⟨N9, eN9, h⟩ := x_lt h
  refine x_nmN eN9 ?_
  refine x_aload_n 0 dX6_begin_48 rfl rfl ?_
  refine x_iconst (v := 1) dX6_begin_49 rfl ?_
  refine x_puti dX6_begin_50 vc_X6 xin6 tyX6_ok nmX6 fb_X6_12 fl_X6_74 ff_X6_12 xr_X6_12 (nf_X6_12 _) (ft_X6_12 _) k100 ?_
  obtain ⟨N10, eN10, h⟩ := x_lt h
  refine x_nmN eN10 ?_
  refine x_aload_n 0 dX6_begin_53 rfl rfl ?_
  obtain ⟨g11, k12⟩ := wt_X6_13 hw k100
  refine x_getr dX6_begin_54 vc_X6 xin6 fb_X6_13 fl_X6_32 xr_X6_13 k100 g11 ?_
  refine x_iconst (v := 0) dX6_begin_57 rfl ?_
  refine x_puti dX6_begin_58 vc_X0 xin0 tyX0_ok nmX0 fb_X0_1 fl_X6_77 ff_X0_1 xr_X0_1 (nf_X0_1 _) (ft_X0_1 _) k12 ?_
  obtain ⟨N13, eN13, h⟩ := x_lt h
  refine x_nmN eN13 ?_
  obtain rfl := x_so h
  exact x_vret dX6_begin_61 rfl rfl rfl
set_option maxHeartbeats 4000000 in
set_option maxRecDepth 100000 in
theorem T_X6_copyOf_88 {G : XG} {Y : XY} (hw : WT Y) {N9 : XN}: ∀ (D9 : Nat) (p_0 : Nat) (p_1 : Nat) (v_2 : Int32) (N : XN), kc Y p_0 = 16 → kc Y p_1 = 16 → f_X6_copyOf_88 Y D9 p_0 p_1 v_2 N = some N9 → Ex G yX6_copyOf cX6_copyOf 3 none (xR 2 0 0) (.inl none) Y N9 0 0 88 [(0, .ref p_0), (1, .ref p_1), (2, .int v_2)] [] Y N := by
  intro D9
  induction D9 with
  | zero => intro p_0 p_1 v_2 N kk0 kk1 h; exact nomatch (show none = some _ from h)
  | succ D9 ih =>
    intro p_0 p_1 v_2 N kk0 kk1 h
    rw [f_X6_copyOf_88] at h
    refine x_iload_n 2 dX6_copyOf_88 rfl rfl ?_
    refine x_aload_n 0 dX6_copyOf_89 rfl rfl ?_
    refine x_geti dX6_copyOf_90 vc_X6 xin6 fb_X6_5 fl_X6_53 xr_X6_5 kk0 ?_
    rcases x_if h with ⟨c1, h⟩ | ⟨c1, h⟩
    · refine x_icmp_ge_t (tgt := 117) dX6_copyOf_93 (by decide) c1 ?_
      refine x_aload_n 0 dX6_copyOf_117 rfl rfl ?_
      refine x_aload_n 1 dX6_copyOf_118 rfl rfl ?_
      refine x_geti dX6_copyOf_119 vc_X6 xin6 fb_X6_6 fl_X6_56 xr_X6_6 kk1 ?_
      refine x_puti dX6_copyOf_122 vc_X6 xin6 tyX6_ok nmX6 fb_X6_6 fl_X6_56 ff_X6_6 xr_X6_6 (nf_X6_6 _) (ft_X6_6 _) kk0 ?_
      obtain ⟨N2, eN2, h⟩ := x_lt h
      refine x_nmN eN2 ?_
      refine x_aload_n 0 dX6_copyOf_125 rfl rfl ?_
      refine x_aload_n 1 dX6_copyOf_126 rfl rfl ?_
      refine x_geti dX6_copyOf_127 vc_X6 xin6 fb_X6_7 fl_X6_59 xr_X6_7 kk1 ?_
      refine x_puti dX6_copyOf_130 vc_X6 xin6 tyX6_ok nmX6 fb_X6_7 fl_X6_59 ff_X6_7 xr_X6_7 (nf_X6_7 _) (ft_X6_7 _) kk0 ?_
      obtain ⟨N3, eN3, h⟩ := x_lt h
      refine x_nmN eN3 ?_
      refine x_aload_n 0 dX6_copyOf_133 rfl rfl ?_
      refine x_aload_n 1 dX6_copyOf_134 rfl rfl ?_
      refine x_geti dX6_copyOf_135 vc_X6 xin6 fb_X6_8 fl_X6_62 xr_X6_8 kk1 ?_
      refine x_puti dX6_copyOf_138 vc_X6 xin6 tyX6_ok nmX6 fb_X6_8 fl_X6_62 ff_X6_8 xr_X6_8 (nf_X6_8 _) (ft_X6_8 _) kk0 ?_
      obtain ⟨N4, eN4, h⟩ := x_lt h
      refine x_nmN eN4 ?_
      refine x_aload_n 0 dX6_copyOf_141 rfl rfl ?_
      refine x_aload_n 1 dX6_copyOf_142 rfl rfl ?_
      refine x_geti dX6_copyOf_143 vc_X6 xin6 fb_X6_9 fl_X6_65 xr_X6_9 kk1 ?_
      refine x_puti dX6_copyOf_146 vc_X6 xin6 tyX6_ok nmX6 fb_X6_9 fl_X6_65 ff_X6_9 xr_X6_9 (nf_X6_9 _) (ft_X6_9 _) kk0 ?_
      obtain ⟨N5, eN5, h⟩ := x_lt h
      refine x_nmN eN5 ?_
      refine x_aload_n 0 dX6_copyOf_149 rfl rfl ?_
      refine x_aload_n 1 dX6_copyOf_150 rfl rfl ?_
      refine x_geti dX6_copyOf_151 vc_X6 xin6 fb_X6_10 fl_X6_68 xr_X6_10 kk1 ?_
      refine x_puti dX6_copyOf_154 vc_X6 xin6 tyX6_ok nmX6 fb_X6_10 fl_X6_68 ff_X6_10 xr_X6_10 (nf_X6_10 _) (ft_X6_10 _) kk0 ?_
      obtain ⟨N6, eN6, h⟩ := x_lt h
      refine x_nmN eN6 ?_
      refine x_aload_n 0 dX6_copyOf_157 rfl rfl ?_
      refine x_aload_n 1 dX6_copyOf_158 rfl rfl ?_
      refine x_geti dX6_copyOf_159 vc_X6 xin6 fb_X6_11 fl_X6_71 xr_X6_11 kk1 ?_
      refine x_puti dX6_copyOf_162 vc_X6 xin6 tyX6_ok nmX6 fb_X6_11 fl_X6_71 ff_X6_11 xr_X6_11 (nf_X6_11 _) (ft_X6_11 _) kk0 ?_
      obtain ⟨N7, eN7, h⟩ := x_lt h
      refine x_nmN eN7 ?_
      refine x_aload_n 0 dX6_copyOf_165 rfl rfl ?_
      refine x_aload_n 1 dX6_copyOf_166 rfl rfl ?_
      refine x_geti dX6_copyOf_167 vc_X6 xin6 fb_X6_12 fl_X6_74 xr_X6_12 kk1 ?_
      refine x_puti dX6_copyOf_170 vc_X6 xin6 tyX6_ok nmX6 fb_X6_12 fl_X6_74 ff_X6_12 xr_X6_12 (nf_X6_12 _) (ft_X6_12 _) kk0 ?_
      obtain ⟨N8, eN8, h⟩ := x_lt h
      refine x_nmN eN8 ?_
      refine x_aload_n 0 dX6_copyOf_173 rfl rfl ?_
      obtain ⟨g9, k10⟩ := wt_X6_13 hw kk0
      refine x_getr dX6_copyOf_174 vc_X6 xin6 fb_X6_13 fl_X6_32 xr_X6_13 kk0 g9 ?_
      refine x_aload_n 1 dX6_copyOf_177 rfl rfl ?_
      obtain ⟨g11, k12⟩ := wt_X6_13 hw kk1
      refine x_getr dX6_copyOf_178 vc_X6 xin6 fb_X6_13 fl_X6_32 xr_X6_13 kk1 g11 ?_
      obtain ⟨N14, q13, h⟩ := x_bd1 h
      refine x_cv (b := (gp Y p_0 13)) (As := [.ref (gp Y p_1 13)]) (ci := 0) (d' := 1) (zz := yX0_copyOf) dX6_copyOf_181 ml_X6_90 wi_X0_copyOf wv_X0_copyOf wn_X0 wc_X0_copyOf hp_X0_copyOf (by decide) (by decide) rfl (Nat.le_of_ble_eq_true rfl) ⟨Nat.zero_le _, Nat.zero_le _⟩ rfl k10 (T_X0_copyOf (G := G) hw k10 k12 q13) ?_
      obtain rfl := x_so h
      exact x_vret dX6_copyOf_184 rfl rfl rfl
    · refine x_icmp_ge_f (tgt := 117) dX6_copyOf_93 (by decide) c1 ?_
      refine x_aload_n 0 dX6_copyOf_96 rfl rfl ?_
      obtain ⟨g15, k16, n17⟩ := wt_X6_4 hw kk0
      refine x_getr dX6_copyOf_97 vc_X6 xin6 fb_X6_4 fl_X6_25 xr_X6_4 kk0 g15 ?_
      refine x_iload_n 2 dX6_copyOf_100 rfl rfl ?_
      obtain ⟨c18, h⟩ := x_ck h
      obtain ⟨g19, k20⟩ := wt_6 hw k16 (xb_at n17 c18)
      refine x_aald (j := 2) dX6_copyOf_101 (by decide) k16 (xb_at n17 c18) g19 ?_
      refine x_aload_n 1 dX6_copyOf_102 rfl rfl ?_
      obtain ⟨g21, k22, n23⟩ := wt_X6_4 hw kk1
      refine x_getr dX6_copyOf_103 vc_X6 xin6 fb_X6_4 fl_X6_25 xr_X6_4 kk1 g21 ?_
      refine x_iload_n 2 dX6_copyOf_106 rfl rfl ?_
      obtain ⟨c24, h⟩ := x_ck h
      obtain ⟨g25, k26⟩ := wt_6 hw k22 (xb_at n23 c24)
      refine x_aald (j := 2) dX6_copyOf_107 (by decide) k22 (xb_at n23 c24) g25 ?_
      obtain ⟨N28, q27, h⟩ := x_bd1 h
      refine x_cv (b := (gp Y (gp Y p_0 4) v_2.toNatClampNeg)) (As := [.ref (gp Y (gp Y p_1 4) v_2.toNatClampNeg)]) (ci := 3) (d' := 1) (zz := yX3_copyOf) dX6_copyOf_108 ml_X6_87 wi_X3_copyOf wv_X3_copyOf wn_X3 wc_X3_copyOf hp_X3_copyOf (by decide) (by decide) rfl (Nat.le_of_ble_eq_true rfl) ⟨Nat.zero_le _, Nat.zero_le _⟩ rfl k20 (T_X3_copyOf (G := G) hw k20 k26 q27) ?_
      refine x_iinc (L' := [(0, .ref p_0), (1, .ref p_1), (2, .int (v_2 + 1))]) 2 [1, 2, 0] dX6_copyOf_111 rfl rfl (by decide) rfl ?_
      refine x_goto (tgt := 88) dX6_copyOf_114 (by decide) ?_
      exact ih p_0 p_1 (v_2 + 1) N28 kk0 kk1 h
set_option maxHeartbeats 4000000 in
set_option maxRecDepth 100000 in
theorem T_X6_copyOf_49 {G : XG} {Y : XY} (hw : WT Y) {N9 : XN}: ∀ (D9 : Nat) (p_0 : Nat) (p_1 : Nat) (v_2 : Int32) (N : XN), kc Y p_0 = 16 → kc Y p_1 = 16 → f_X6_copyOf_49 Y D9 p_0 p_1 v_2 N = some N9 → Ex G yX6_copyOf cX6_copyOf 3 none (xR 2 0 0) (.inl none) Y N9 0 0 49 [(0, .ref p_0), (1, .ref p_1), (2, .int v_2)] [] Y N := by
  intro D9
  induction D9 with
  | zero => intro p_0 p_1 v_2 N kk0 kk1 h; exact nomatch (show none = some _ from h)
  | succ D9 ih =>
    intro p_0 p_1 v_2 N kk0 kk1 h
    rw [f_X6_copyOf_49] at h
    refine x_iload_n 2 dX6_copyOf_49 rfl rfl ?_
    refine x_aload_n 0 dX6_copyOf_50 rfl rfl ?_
    refine x_geti dX6_copyOf_51 vc_X6 xin6 fb_X6_3 fl_X6_50 xr_X6_3 kk0 ?_
    rcases x_if h with ⟨c1, h⟩ | ⟨c1, h⟩
    · refine x_icmp_ge_t (tgt := 78) dX6_copyOf_54 (by decide) c1 ?_
      refine x_aload_n 0 dX6_copyOf_78 rfl rfl ?_
      refine x_aload_n 1 dX6_copyOf_79 rfl rfl ?_
      refine x_geti dX6_copyOf_80 vc_X6 xin6 fb_X6_5 fl_X6_53 xr_X6_5 kk1 ?_
      refine x_puti dX6_copyOf_83 vc_X6 xin6 tyX6_ok nmX6 fb_X6_5 fl_X6_53 ff_X6_5 xr_X6_5 (nf_X6_5 _) (ft_X6_5 _) kk0 ?_
      obtain ⟨N2, eN2, h⟩ := x_lt h
      refine x_nmN eN2 ?_
      refine x_iconst (v := 0) dX6_copyOf_86 rfl ?_
      refine x_istore_n (L' := [(0, .ref p_0), (1, .ref p_1), (2, .int 0)]) [1, 2, 0] dX6_copyOf_87 rfl (by decide) rfl ?_
      exact T_X6_copyOf_88 (G := G) hw FU p_0 p_1 0 N2 kk0 kk1 h
    · refine x_icmp_ge_f (tgt := 78) dX6_copyOf_54 (by decide) c1 ?_
      refine x_aload_n 0 dX6_copyOf_57 rfl rfl ?_
      obtain ⟨g3, k4, n5⟩ := wt_X6_2 hw kk0
      refine x_getr dX6_copyOf_58 vc_X6 xin6 fb_X6_2 fl_X6_19 xr_X6_2 kk0 g3 ?_
      refine x_iload_n 2 dX6_copyOf_61 rfl rfl ?_
      obtain ⟨c6, h⟩ := x_ck h
      obtain ⟨g7, k8⟩ := wt_5 hw k4 (xb_at n5 c6)
      refine x_aald (j := 1) dX6_copyOf_62 (by decide) k4 (xb_at n5 c6) g7 ?_
      refine x_aload_n 1 dX6_copyOf_63 rfl rfl ?_
      obtain ⟨g9, k10, n11⟩ := wt_X6_2 hw kk1
      refine x_getr dX6_copyOf_64 vc_X6 xin6 fb_X6_2 fl_X6_19 xr_X6_2 kk1 g9 ?_
      refine x_iload_n 2 dX6_copyOf_67 rfl rfl ?_
      obtain ⟨c12, h⟩ := x_ck h
      obtain ⟨g13, k14⟩ := wt_5 hw k10 (xb_at n11 c12)
      refine x_aald (j := 1) dX6_copyOf_68 (by decide) k10 (xb_at n11 c12) g13 ?_
      obtain ⟨N16, q15, h⟩ := x_bd1 h
      refine x_cv (b := (gp Y (gp Y p_0 2) v_2.toNatClampNeg)) (As := [.ref (gp Y (gp Y p_1 2) v_2.toNatClampNeg)]) (ci := 2) (d' := 1) (zz := yX2_copyOf) dX6_copyOf_69 ml_X6_84 wi_X2_copyOf wv_X2_copyOf wn_X2 wc_X2_copyOf hp_X2_copyOf (by decide) (by decide) rfl (Nat.le_of_ble_eq_true rfl) ⟨Nat.zero_le _, Nat.zero_le _⟩ rfl k8 (T_X2_copyOf (G := G) hw k8 k14 q15) ?_
      refine x_iinc (L' := [(0, .ref p_0), (1, .ref p_1), (2, .int (v_2 + 1))]) 2 [1, 2, 0] dX6_copyOf_72 rfl rfl (by decide) rfl ?_
      refine x_goto (tgt := 49) dX6_copyOf_75 (by decide) ?_
      exact ih p_0 p_1 (v_2 + 1) N16 kk0 kk1 h
set_option maxHeartbeats 4000000 in
set_option maxRecDepth 100000 in
theorem T_X6_copyOf_10 {G : XG} {Y : XY} (hw : WT Y) {N9 : XN}: ∀ (D9 : Nat) (p_0 : Nat) (p_1 : Nat) (v_2 : Int32) (N : XN), kc Y p_0 = 16 → kc Y p_1 = 16 → f_X6_copyOf_10 Y D9 p_0 p_1 v_2 N = some N9 → Ex G yX6_copyOf cX6_copyOf 3 none (xR 2 0 0) (.inl none) Y N9 0 0 10 [(0, .ref p_0), (1, .ref p_1), (2, .int v_2)] [] Y N := by
  intro D9
  induction D9 with
  | zero => intro p_0 p_1 v_2 N kk0 kk1 h; exact nomatch (show none = some _ from h)
  | succ D9 ih =>
    intro p_0 p_1 v_2 N kk0 kk1 h
    rw [f_X6_copyOf_10] at h
    refine x_iload_n 2 dX6_copyOf_10 rfl rfl ?_
    refine x_aload_n 0 dX6_copyOf_11 rfl rfl ?_
    refine x_geti dX6_copyOf_12 vc_X6 xin6 fb_X6_1 fl_X6_46 xr_X6_1 kk0 ?_
    rcases x_if h with ⟨c1, h⟩ | ⟨c1, h⟩
    · refine x_icmp_ge_t (tgt := 39) dX6_copyOf_15 (by decide) c1 ?_
      refine x_aload_n 0 dX6_copyOf_39 rfl rfl ?_
      refine x_aload_n 1 dX6_copyOf_40 rfl rfl ?_
      refine x_geti dX6_copyOf_41 vc_X6 xin6 fb_X6_3 fl_X6_50 xr_X6_3 kk1 ?_
      refine x_puti dX6_copyOf_44 vc_X6 xin6 tyX6_ok nmX6 fb_X6_3 fl_X6_50 ff_X6_3 xr_X6_3 (nf_X6_3 _) (ft_X6_3 _) kk0 ?_
      obtain ⟨N2, eN2, h⟩ := x_lt h
      refine x_nmN eN2 ?_
      refine x_iconst (v := 0) dX6_copyOf_47 rfl ?_
      refine x_istore_n (L' := [(0, .ref p_0), (1, .ref p_1), (2, .int 0)]) [1, 2, 0] dX6_copyOf_48 rfl (by decide) rfl ?_
      exact T_X6_copyOf_49 (G := G) hw FU p_0 p_1 0 N2 kk0 kk1 h
    · refine x_icmp_ge_f (tgt := 39) dX6_copyOf_15 (by decide) c1 ?_
      refine x_aload_n 0 dX6_copyOf_18 rfl rfl ?_
      obtain ⟨g3, k4, n5⟩ := wt_X6_0 hw kk0
      refine x_getr dX6_copyOf_19 vc_X6 xin6 fb_X6_0 fl_X6_11 xr_X6_0 kk0 g3 ?_
      refine x_iload_n 2 dX6_copyOf_22 rfl rfl ?_
      obtain ⟨c6, h⟩ := x_ck h
      obtain ⟨g7, k8⟩ := wt_4 hw k4 (xb_at n5 c6)
      refine x_aald (j := 0) dX6_copyOf_23 (by decide) k4 (xb_at n5 c6) g7 ?_
      refine x_aload_n 1 dX6_copyOf_24 rfl rfl ?_
      obtain ⟨g9, k10, n11⟩ := wt_X6_0 hw kk1
      refine x_getr dX6_copyOf_25 vc_X6 xin6 fb_X6_0 fl_X6_11 xr_X6_0 kk1 g9 ?_
      refine x_iload_n 2 dX6_copyOf_28 rfl rfl ?_
      obtain ⟨c12, h⟩ := x_ck h
      obtain ⟨g13, k14⟩ := wt_4 hw k10 (xb_at n11 c12)
      refine x_aald (j := 0) dX6_copyOf_29 (by decide) k10 (xb_at n11 c12) g13 ?_
      obtain ⟨N16, q15, h⟩ := x_bd1 h
      refine x_cv (b := (gp Y (gp Y p_0 0) v_2.toNatClampNeg)) (As := [.ref (gp Y (gp Y p_1 0) v_2.toNatClampNeg)]) (ci := 1) (d' := 1) (zz := yX1_copyOf) dX6_copyOf_30 ml_X6_80 wi_X1_copyOf wv_X1_copyOf wn_X1 wc_X1_copyOf hp_X1_copyOf (by decide) (by decide) rfl (Nat.le_of_ble_eq_true rfl) ⟨Nat.zero_le _, Nat.zero_le _⟩ rfl k8 (T_X1_copyOf (G := G) hw k8 k14 q15) ?_
      refine x_iinc (L' := [(0, .ref p_0), (1, .ref p_1), (2, .int (v_2 + 1))]) 2 [1, 2, 0] dX6_copyOf_33 rfl rfl (by decide) rfl ?_
      refine x_goto (tgt := 10) dX6_copyOf_36 (by decide) ?_
      exact ih p_0 p_1 (v_2 + 1) N16 kk0 kk1 h
set_option maxHeartbeats 4000000 in
set_option maxRecDepth 100000 in
theorem T_X6_copyOf {G : XG} {Y : XY} (hw : WT Y) {a0 : Nat} {a1 : Nat} {N : XN} (k100 : kc Y a0 = 16) (k101 : kc Y a1 = 16) {N9 : XN} (h : f_X6_copyOf Y a0 a1 N = some N9) : Cl G yX6_copyOf cX6_copyOf 3 none (xR 2 0 0) [.ref a0, .ref a1] (.inl none) Y N Y N9 := by
  refine x_entry (by decide) (Nat.le_of_ble_eq_true rfl) rfl ?_
  rw [f_X6_copyOf] at h
  refine x_aload_n 0 dX6_copyOf_0 rfl rfl ?_
  refine x_aload_n 1 dX6_copyOf_1 rfl rfl ?_
  refine x_geti dX6_copyOf_2 vc_X6 xin6 fb_X6_1 fl_X6_46 xr_X6_1 k101 ?_
  refine x_puti dX6_copyOf_5 vc_X6 xin6 tyX6_ok nmX6 fb_X6_1 fl_X6_46 ff_X6_1 xr_X6_1 (nf_X6_1 _) (ft_X6_1 _) k100 ?_
  obtain ⟨N1, eN1, h⟩ := x_lt h
  refine x_nmN eN1 ?_
  refine x_iconst (v := 0) dX6_copyOf_8 rfl ?_
  refine x_istore_n (L' := [(0, .ref a0), (1, .ref a1), (2, .int 0)]) [1, 2, 0] dX6_copyOf_9 rfl (by decide) rfl ?_
  exact T_X6_copyOf_10 (G := G) hw FU a0 a1 0 N1 k100 k101 h
set_option maxHeartbeats 4000000 in
set_option maxRecDepth 100000 in
theorem T_X6_hasHandler {G : XG} {Y : XY} (hw : WT Y) {a0 : Nat} {a1 : Int32} {N : XN} (k100 : kc Y a0 = 16) {r9 : Int32} (h : f_X6_hasHandler Y a0 a1 N = r9) : Cl G yX6_hasHandler cX6_hasHandler 2 (some .boolean) (xR 1 0 0) [.ref a0, .int a1] (.inl (some (.int r9))) Y N Y N := by
  refine x_entry (by decide) (Nat.le_of_ble_eq_true rfl) rfl ?_
  rw [f_X6_hasHandler] at h
  refine x_iload_n 1 dX6_hasHandler_0 rfl rfl ?_
  rcases x_if h with ⟨c1, h⟩ | ⟨c1, h⟩
  · refine x_if_lt_t (tgt := 16) dX6_hasHandler_1 (by decide) c1 ?_
    refine x_iconst (v := 0) dX6_hasHandler_16 rfl ?_
    subst h
    exact x_zret dX6_hasHandler_17 rfl (by decide) rfl rfl
  · refine x_if_lt_f (tgt := 16) dX6_hasHandler_1 (by decide) c1 ?_
    refine x_iload_n 1 dX6_hasHandler_4 rfl rfl ?_
    refine x_aload_n 0 dX6_hasHandler_5 rfl rfl ?_
    refine x_geti dX6_hasHandler_6 vc_X6 xin6 fb_X6_1 fl_X6_46 xr_X6_1 k100 ?_
    rcases x_if h with ⟨c2, h⟩ | ⟨c2, h⟩
    · refine x_icmp_ge_t (tgt := 16) dX6_hasHandler_9 (by decide) c2 ?_
      refine x_iconst (v := 0) dX6_hasHandler_16 rfl ?_
      subst h
      exact x_zret dX6_hasHandler_17 rfl (by decide) rfl rfl
    · refine x_icmp_ge_f (tgt := 16) dX6_hasHandler_9 (by decide) c2 ?_
      refine x_iconst (v := 1) dX6_hasHandler_12 rfl ?_
      refine x_goto (tgt := 17) dX6_hasHandler_13 (by decide) ?_
      subst h
      exact x_zret dX6_hasHandler_17 rfl (by decide) rfl rfl
set_option maxHeartbeats 4000000 in
set_option maxRecDepth 100000 in
theorem T_X6_hasLine {G : XG} {Y : XY} (hw : WT Y) {a0 : Nat} {a1 : Int32} {N : XN} (k100 : kc Y a0 = 16) {r9 : Int32} (h : f_X6_hasLine Y a0 a1 N = r9) : Cl G yX6_hasLine cX6_hasLine 2 (some .boolean) (xR 1 0 0) [.ref a0, .int a1] (.inl (some (.int r9))) Y N Y N := by
  refine x_entry (by decide) (Nat.le_of_ble_eq_true rfl) rfl ?_
  rw [f_X6_hasLine] at h
  refine x_iload_n 1 dX6_hasLine_0 rfl rfl ?_
  rcases x_if h with ⟨c1, h⟩ | ⟨c1, h⟩
  · refine x_if_lt_t (tgt := 16) dX6_hasLine_1 (by decide) c1 ?_
    refine x_iconst (v := 0) dX6_hasLine_16 rfl ?_
    subst h
    exact x_zret dX6_hasLine_17 rfl (by decide) rfl rfl
  · refine x_if_lt_f (tgt := 16) dX6_hasLine_1 (by decide) c1 ?_
    refine x_iload_n 1 dX6_hasLine_4 rfl rfl ?_
    refine x_aload_n 0 dX6_hasLine_5 rfl rfl ?_
    refine x_geti dX6_hasLine_6 vc_X6 xin6 fb_X6_3 fl_X6_50 xr_X6_3 k100 ?_
    rcases x_if h with ⟨c2, h⟩ | ⟨c2, h⟩
    · refine x_icmp_ge_t (tgt := 16) dX6_hasLine_9 (by decide) c2 ?_
      refine x_iconst (v := 0) dX6_hasLine_16 rfl ?_
      subst h
      exact x_zret dX6_hasLine_17 rfl (by decide) rfl rfl
    · refine x_icmp_ge_f (tgt := 16) dX6_hasLine_9 (by decide) c2 ?_
      refine x_iconst (v := 1) dX6_hasLine_12 rfl ?_
      refine x_goto (tgt := 17) dX6_hasLine_13 (by decide) ?_
      subst h
      exact x_zret dX6_hasLine_17 rfl (by decide) rfl rfl
set_option maxHeartbeats 4000000 in
set_option maxRecDepth 100000 in
theorem T_X6_hasRequest {G : XG} {Y : XY} (hw : WT Y) {a0 : Nat} {a1 : Int32} {N : XN} (k100 : kc Y a0 = 16) {r9 : Int32} (h : f_X6_hasRequest Y a0 a1 N = r9) : Cl G yX6_hasRequest cX6_hasRequest 2 (some .boolean) (xR 1 0 0) [.ref a0, .int a1] (.inl (some (.int r9))) Y N Y N := by
  refine x_entry (by decide) (Nat.le_of_ble_eq_true rfl) rfl ?_
  rw [f_X6_hasRequest] at h
  refine x_iload_n 1 dX6_hasRequest_0 rfl rfl ?_
  rcases x_if h with ⟨c1, h⟩ | ⟨c1, h⟩
  · refine x_if_lt_t (tgt := 16) dX6_hasRequest_1 (by decide) c1 ?_
    refine x_iconst (v := 0) dX6_hasRequest_16 rfl ?_
    subst h
    exact x_zret dX6_hasRequest_17 rfl (by decide) rfl rfl
  · refine x_if_lt_f (tgt := 16) dX6_hasRequest_1 (by decide) c1 ?_
    refine x_iload_n 1 dX6_hasRequest_4 rfl rfl ?_
    refine x_aload_n 0 dX6_hasRequest_5 rfl rfl ?_
    refine x_geti dX6_hasRequest_6 vc_X6 xin6 fb_X6_5 fl_X6_53 xr_X6_5 k100 ?_
    rcases x_if h with ⟨c2, h⟩ | ⟨c2, h⟩
    · refine x_icmp_ge_t (tgt := 16) dX6_hasRequest_9 (by decide) c2 ?_
      refine x_iconst (v := 0) dX6_hasRequest_16 rfl ?_
      subst h
      exact x_zret dX6_hasRequest_17 rfl (by decide) rfl rfl
    · refine x_icmp_ge_f (tgt := 16) dX6_hasRequest_9 (by decide) c2 ?_
      refine x_iconst (v := 1) dX6_hasRequest_12 rfl ?_
      refine x_goto (tgt := 17) dX6_hasRequest_13 (by decide) ?_
      subst h
      exact x_zret dX6_hasRequest_17 rfl (by decide) rfl rfl
set_option maxHeartbeats 4000000 in
set_option maxRecDepth 100000 in
theorem T_X6_addHandler {G : XG} {Y : XY} (hw : WT Y) {a0 : Nat} {a1 : Int32} {a2 : Int32} {N : XN} (k100 : kc Y a0 = 16) {N9 : XN} (h : f_X6_addHandler Y a0 a1 a2 N = some N9) : Cl G yX6_addHandler cX6_addHandler 3 none (xR 2 0 0) [.ref a0, .int a1, .int a2] (.inl none) Y N Y N9 := by
  refine x_entry (by decide) (Nat.le_of_ble_eq_true rfl) rfl ?_
  rw [f_X6_addHandler] at h
  refine x_aload_n 0 dX6_addHandler_0 rfl rfl ?_
  refine x_geti dX6_addHandler_1 vc_X6 xin6 fb_X6_1 fl_X6_46 xr_X6_1 k100 ?_
  refine x_aload_n 0 dX6_addHandler_4 rfl rfl ?_
  obtain ⟨g1, k2, n3⟩ := wt_X6_0 hw k100
  refine x_getr dX6_addHandler_5 vc_X6 xin6 fb_X6_0 fl_X6_11 xr_X6_0 k100 g1 ?_
  refine x_rlen (j := 0) dX6_addHandler_8 (by decide) k2 (congrArg Int32.ofNat n3) ?_
  rcases x_if h with ⟨c4, h⟩ | ⟨c4, h⟩
  · refine x_icmp_ge_t (tgt := 36) dX6_addHandler_9 (by decide) c4 ?_
    obtain rfl := x_so h
    exact x_vret dX6_addHandler_36 rfl rfl rfl
  · refine x_icmp_ge_f (tgt := 36) dX6_addHandler_9 (by decide) c4 ?_
    refine x_aload_n 0 dX6_addHandler_12 rfl rfl ?_
    refine x_getr dX6_addHandler_13 vc_X6 xin6 fb_X6_0 fl_X6_11 xr_X6_0 k100 g1 ?_
    refine x_aload_n 0 dX6_addHandler_16 rfl rfl ?_
    refine x_geti dX6_addHandler_17 vc_X6 xin6 fb_X6_1 fl_X6_46 xr_X6_1 k100 ?_
    obtain ⟨c5, h⟩ := x_ck h
    obtain ⟨g6, k7⟩ := wt_4 hw k2 (xb_at n3 c5)
    refine x_aald (j := 0) dX6_addHandler_20 (by decide) k2 (xb_at n3 c5) g6 ?_
    refine x_iload_n 1 dX6_addHandler_21 rfl rfl ?_
    refine x_iload_n 2 dX6_addHandler_22 rfl rfl ?_
    obtain ⟨N9, q8, h⟩ := x_bd1 h
    refine x_cv (b := (gp Y (gp Y a0 0) (gi N a0 1).toNatClampNeg)) (As := [.int a1, .int a2]) (ci := 1) (d' := 1) (zz := yX1_begin) dX6_addHandler_23 ml_X6_93 wi_X1_begin wv_X1_begin wn_X1 wc_X1_begin hp_X1_begin (by decide) (by decide) rfl (Nat.le_of_ble_eq_true rfl) ⟨Nat.zero_le _, Nat.zero_le _⟩ rfl k7 (T_X1_begin (G := G) hw k7 q8) ?_
    refine x_aload_n 0 dX6_addHandler_26 rfl rfl ?_
    refine x_dup dX6_addHandler_27 rfl ?_
    refine x_geti dX6_addHandler_28 vc_X6 xin6 fb_X6_1 fl_X6_46 xr_X6_1 k100 ?_
    refine x_iconst (v := 1) dX6_addHandler_31 rfl ?_
    refine x_iadd dX6_addHandler_32 ?_
    refine x_puti dX6_addHandler_33 vc_X6 xin6 tyX6_ok nmX6 fb_X6_1 fl_X6_46 ff_X6_1 xr_X6_1 (nf_X6_1 _) (ft_X6_1 _) k100 ?_
    obtain ⟨N10, eN10, h⟩ := x_lt h
    refine x_nmN eN10 ?_
    obtain rfl := x_so h
    exact x_vret dX6_addHandler_36 rfl rfl rfl
set_option maxHeartbeats 4000000 in
set_option maxRecDepth 100000 in
theorem T_X6_addLine {G : XG} {Y : XY} (hw : WT Y) {a0 : Nat} {a1 : Int32} {a2 : Int32} {a3 : Int32} {N : XN} (k100 : kc Y a0 = 16) {N9 : XN} (h : f_X6_addLine Y a0 a1 a2 a3 N = some N9) : Cl G yX6_addLine cX6_addLine 4 none (xR 2 0 0) [.ref a0, .int a1, .int a2, .int a3] (.inl none) Y N Y N9 := by
  refine x_entry (by decide) (Nat.le_of_ble_eq_true rfl) rfl ?_
  rw [f_X6_addLine] at h
  refine x_aload_n 0 dX6_addLine_0 rfl rfl ?_
  refine x_geti dX6_addLine_1 vc_X6 xin6 fb_X6_3 fl_X6_50 xr_X6_3 k100 ?_
  refine x_aload_n 0 dX6_addLine_4 rfl rfl ?_
  obtain ⟨g1, k2, n3⟩ := wt_X6_2 hw k100
  refine x_getr dX6_addLine_5 vc_X6 xin6 fb_X6_2 fl_X6_19 xr_X6_2 k100 g1 ?_
  refine x_rlen (j := 1) dX6_addLine_8 (by decide) k2 (congrArg Int32.ofNat n3) ?_
  rcases x_if h with ⟨c4, h⟩ | ⟨c4, h⟩
  · refine x_icmp_ge_t (tgt := 37) dX6_addLine_9 (by decide) c4 ?_
    obtain rfl := x_so h
    exact x_vret dX6_addLine_37 rfl rfl rfl
  · refine x_icmp_ge_f (tgt := 37) dX6_addLine_9 (by decide) c4 ?_
    refine x_aload_n 0 dX6_addLine_12 rfl rfl ?_
    refine x_getr dX6_addLine_13 vc_X6 xin6 fb_X6_2 fl_X6_19 xr_X6_2 k100 g1 ?_
    refine x_aload_n 0 dX6_addLine_16 rfl rfl ?_
    refine x_geti dX6_addLine_17 vc_X6 xin6 fb_X6_3 fl_X6_50 xr_X6_3 k100 ?_
    obtain ⟨c5, h⟩ := x_ck h
    obtain ⟨g6, k7⟩ := wt_5 hw k2 (xb_at n3 c5)
    refine x_aald (j := 1) dX6_addLine_20 (by decide) k2 (xb_at n3 c5) g6 ?_
    refine x_iload_n 1 dX6_addLine_21 rfl rfl ?_
    refine x_iload_n 2 dX6_addLine_22 rfl rfl ?_
    refine x_iload_n 3 dX6_addLine_23 rfl rfl ?_
    obtain ⟨N9, q8, h⟩ := x_bd1 h
    refine x_cv (b := (gp Y (gp Y a0 2) (gi N a0 3).toNatClampNeg)) (As := [.int a1, .int a2, .int a3]) (ci := 2) (d' := 1) (zz := yX2_begin) dX6_addLine_24 ml_X6_96 wi_X2_begin wv_X2_begin wn_X2 wc_X2_begin hp_X2_begin (by decide) (by decide) rfl (Nat.le_of_ble_eq_true rfl) ⟨Nat.zero_le _, Nat.zero_le _⟩ rfl k7 (T_X2_begin (G := G) hw k7 q8) ?_
    refine x_aload_n 0 dX6_addLine_27 rfl rfl ?_
    refine x_dup dX6_addLine_28 rfl ?_
    refine x_geti dX6_addLine_29 vc_X6 xin6 fb_X6_3 fl_X6_50 xr_X6_3 k100 ?_
    refine x_iconst (v := 1) dX6_addLine_32 rfl ?_
    refine x_iadd dX6_addLine_33 ?_
    refine x_puti dX6_addLine_34 vc_X6 xin6 tyX6_ok nmX6 fb_X6_3 fl_X6_50 ff_X6_3 xr_X6_3 (nf_X6_3 _) (ft_X6_3 _) k100 ?_
    obtain ⟨N10, eN10, h⟩ := x_lt h
    refine x_nmN eN10 ?_
    obtain rfl := x_so h
    exact x_vret dX6_addLine_37 rfl rfl rfl
set_option maxHeartbeats 4000000 in
set_option maxRecDepth 100000 in
theorem T_X6_addRequest {G : XG} {Y : XY} (hw : WT Y) {a0 : Nat} {a1 : Int32} {a2 : Int32} {a3 : Int32} {N : XN} (k100 : kc Y a0 = 16) {N9 : XN} (h : f_X6_addRequest Y a0 a1 a2 a3 N = some N9) : Cl G yX6_addRequest cX6_addRequest 4 none (xR 2 0 0) [.ref a0, .int a1, .int a2, .int a3] (.inl none) Y N Y N9 := by
  refine x_entry (by decide) (Nat.le_of_ble_eq_true rfl) rfl ?_
  rw [f_X6_addRequest] at h
  refine x_aload_n 0 dX6_addRequest_0 rfl rfl ?_
  refine x_geti dX6_addRequest_1 vc_X6 xin6 fb_X6_5 fl_X6_53 xr_X6_5 k100 ?_
  refine x_aload_n 0 dX6_addRequest_4 rfl rfl ?_
  obtain ⟨g1, k2, n3⟩ := wt_X6_4 hw k100
  refine x_getr dX6_addRequest_5 vc_X6 xin6 fb_X6_4 fl_X6_25 xr_X6_4 k100 g1 ?_
  refine x_rlen (j := 2) dX6_addRequest_8 (by decide) k2 (congrArg Int32.ofNat n3) ?_
  rcases x_if h with ⟨c4, h⟩ | ⟨c4, h⟩
  · refine x_icmp_ge_t (tgt := 37) dX6_addRequest_9 (by decide) c4 ?_
    obtain rfl := x_so h
    exact x_vret dX6_addRequest_37 rfl rfl rfl
  · refine x_icmp_ge_f (tgt := 37) dX6_addRequest_9 (by decide) c4 ?_
    refine x_aload_n 0 dX6_addRequest_12 rfl rfl ?_
    refine x_getr dX6_addRequest_13 vc_X6 xin6 fb_X6_4 fl_X6_25 xr_X6_4 k100 g1 ?_
    refine x_aload_n 0 dX6_addRequest_16 rfl rfl ?_
    refine x_geti dX6_addRequest_17 vc_X6 xin6 fb_X6_5 fl_X6_53 xr_X6_5 k100 ?_
    obtain ⟨c5, h⟩ := x_ck h
    obtain ⟨g6, k7⟩ := wt_6 hw k2 (xb_at n3 c5)
    refine x_aald (j := 2) dX6_addRequest_20 (by decide) k2 (xb_at n3 c5) g6 ?_
    refine x_iload_n 1 dX6_addRequest_21 rfl rfl ?_
    refine x_iload_n 2 dX6_addRequest_22 rfl rfl ?_
    refine x_iload_n 3 dX6_addRequest_23 rfl rfl ?_
    obtain ⟨N9, q8, h⟩ := x_bd1 h
    refine x_cv (b := (gp Y (gp Y a0 4) (gi N a0 5).toNatClampNeg)) (As := [.int a1, .int a2, .int a3]) (ci := 3) (d' := 1) (zz := yX3_begin) dX6_addRequest_24 ml_X6_99 wi_X3_begin wv_X3_begin wn_X3 wc_X3_begin hp_X3_begin (by decide) (by decide) rfl (Nat.le_of_ble_eq_true rfl) ⟨Nat.zero_le _, Nat.zero_le _⟩ rfl k7 (T_X3_begin (G := G) hw k7 q8) ?_
    refine x_aload_n 0 dX6_addRequest_27 rfl rfl ?_
    refine x_dup dX6_addRequest_28 rfl ?_
    refine x_geti dX6_addRequest_29 vc_X6 xin6 fb_X6_5 fl_X6_53 xr_X6_5 k100 ?_
    refine x_iconst (v := 1) dX6_addRequest_32 rfl ?_
    refine x_iadd dX6_addRequest_33 ?_
    refine x_puti dX6_addRequest_34 vc_X6 xin6 tyX6_ok nmX6 fb_X6_5 fl_X6_53 ff_X6_5 xr_X6_5 (nf_X6_5 _) (ft_X6_5 _) k100 ?_
    obtain ⟨N10, eN10, h⟩ := x_lt h
    refine x_nmN eN10 ?_
    obtain rfl := x_so h
    exact x_vret dX6_addRequest_37 rfl rfl rfl
