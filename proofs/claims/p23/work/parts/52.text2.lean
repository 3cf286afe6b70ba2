set_option maxHeartbeats 4000000 in
set_option maxRecDepth 100000 in
theorem T_X4_readsFactor {G : XG} {Y : XY} (hw : WT Y) {D : Nat} {rc : Nat → Nat → Int32 → XN → Option (Int32 × XN)} (hrc_readsSum : ∀ {a0 : Nat} {a1 : Int32} {N : XN} {r9 : Int32} {N9 : XN}, kc Y a0 = 14 → WR Y a0 → rc 0 a0 a1 N = some (r9, N9) → Cl G yX4_readsSum cX4_readsSum 5 (some .boolean) (xR (3 + D) 0 0) [.ref a0, .int a1] (.inl (some (.int r9))) Y N Y N9) (hrc_readsTerm : ∀ {a0 : Nat} {a1 : Int32} {N : XN} {r9 : Int32} {N9 : XN}, kc Y a0 = 14 → WR Y a0 → rc 1 a0 a1 N = some (r9, N9) → Cl G yX4_readsTerm cX4_readsTerm 5 (some .boolean) (xR (3 + D) 0 0) [.ref a0, .int a1] (.inl (some (.int r9))) Y N Y N9) (hrc_readsFactor : ∀ {a0 : Nat} {a1 : Int32} {N : XN} {r9 : Int32} {N9 : XN}, kc Y a0 = 14 → WR Y a0 → rc 2 a0 a1 N = some (r9, N9) → Cl G yX4_readsFactor cX4_readsFactor 3 (some .boolean) (xR (3 + D) 0 0) [.ref a0, .int a1] (.inl (some (.int r9))) Y N Y N9) {a0 : Nat} {a1 : Int32} {N : XN} (k100 : kc Y a0 = 14) (hr : WR Y a0) {r9 : Int32} {N9 : XN} (h : b_X4_readsFactor Y rc a0 a1 N = some (r9, N9)) : Cl G yX4_readsFactor cX4_readsFactor 3 (some .boolean) (xR (3 + D + 1) 0 0) [.ref a0, .int a1] (.inl (some (.int r9))) Y N Y N9 := by
  refine x_entry (by decide) (Nat.le_of_ble_eq_true rfl) rfl ?_
  rw [b_X4_readsFactor] at h
  refine x_aload_n 0 dX4_readsFactor_0 rfl rfl ?_
  obtain ⟨r2, q1, h⟩ := x_bd1 h
  refine x_cv (b := a0) (As := []) (ci := 4) (d' := 1) (zz := yX4_kind) dX4_readsFactor_1 ml_X4_41 wi_X4_kind wv_X4_kind wn_X4 wc_X4_kind hp_X4_kind (by omega) (by decide) rfl (Nat.le_of_ble_eq_true rfl) ⟨Nat.zero_le _, Nat.zero_le _⟩ rfl k100 (T_X4_kind (G := G) hw k100 hr q1) ?_
  refine x_istore_n (L' := [(0, .ref a0), (1, .int a1), (2, .int r2)]) [1, 2, 0] dX4_readsFactor_4 rfl (by decide) rfl ?_
  refine x_iload_n 2 dX4_readsFactor_5 rfl rfl ?_
  rcases x_if h with ⟨c3, h⟩ | ⟨c3, h⟩
  · refine x_lookup (off := 58) (tgt := 64) dX4_readsFactor_6 (by decide) (by rw [c3]; rfl) (by decide) ?_
    refine x_aload_n 0 dX4_readsFactor_64 rfl rfl ?_
    refine x_iconst (v := 0) dX4_readsFactor_65 rfl ?_
    refine x_sipush (v := 9999) dX4_readsFactor_66 rfl ?_
    obtain ⟨r5, N6, q4, h⟩ := x_bd2 h
    refine x_cv (b := a0) (As := [.int 0, .int 9999]) (ci := 4) (d' := 2) (zz := yX4_readsNumber) dX4_readsFactor_69 ml_X4_88 wi_X4_readsNumber wv_X4_readsNumber wn_X4 wc_X4_readsNumber hp_X4_readsNumber (by omega) (by decide) rfl (Nat.le_of_ble_eq_true rfl) ⟨Nat.zero_le _, Nat.zero_le _⟩ rfl k100 (T_X4_readsNumber (G := G) hw k100 hr q4) ?_
    rcases x_if h with ⟨c7, h⟩ | ⟨c7, h⟩
    · refine x_if_ne_f (tgt := 77) dX4_readsFactor_72 (by decide) c7 ?_
      refine x_iconst (v := 0) dX4_readsFactor_75 rfl ?_
      obtain ⟨rfl, rfl⟩ := Prod.mk.inj (x_so h)
      exact x_zret dX4_readsFactor_76 rfl (by decide) rfl rfl
    · refine x_if_ne_t (tgt := 77) dX4_readsFactor_72 (by decide) c7 ?_
      refine x_aload_n 0 dX4_readsFactor_77 rfl rfl ?_
      obtain ⟨g8, k9⟩ := hr.2
      refine x_getr dX4_readsFactor_78 vc_X4 xin4 fb_X4_3 fl_X4_15 xr_X4_3 k100 g8 ?_
      obtain ⟨g10, k11⟩ := wt_X6_13 hw k9
      refine x_getr dX4_readsFactor_81 vc_X6 xin6 fb_X6_13 fl_X4_151 xr_X6_13 k9 g10 ?_
      refine x_aload_n 0 dX4_readsFactor_84 rfl rfl ?_
      refine x_geti dX4_readsFactor_85 vc_X4 xin4 fb_X4_5 fl_X4_67 xr_X4_5 k100 ?_
      obtain ⟨N13, q12, h⟩ := x_bd1 h
      refine x_cv (b := (gp Y (gp Y a0 3) 13)) (As := [.int (gi N6 a0 5)]) (ci := 0) (d' := 1) (zz := yX0_addStep) dX4_readsFactor_88 ml_X4_155 wi_X0_addStep wv_X0_addStep wn_X0 wc_X0_addStep hp_X0_addStep (by omega) (by decide) rfl (Nat.le_of_ble_eq_true rfl) ⟨Nat.zero_le _, Nat.zero_le _⟩ rfl k11 (T_X0_addStep (G := G) hw k11 q12) ?_
      refine x_iconst (v := 1) dX4_readsFactor_91 rfl ?_
      obtain ⟨rfl, rfl⟩ := Prod.mk.inj (x_so h)
      exact x_zret dX4_readsFactor_92 rfl (by decide) rfl rfl
  · rcases x_if h with ⟨c14, h⟩ | ⟨c14, h⟩
    · refine x_lookup (off := 111) (tgt := 117) dX4_readsFactor_6 (by decide) (by rw [c14]; rfl) (by decide) ?_
      refine x_iload_n 1 dX4_readsFactor_117 rfl rfl ?_
      refine x_iconst (v := 4) dX4_readsFactor_118 rfl ?_
      rcases x_if h with ⟨c15, h⟩ | ⟨c15, h⟩
      · refine x_icmp_lt_t (tgt := 129) dX4_readsFactor_119 (by decide) c15 ?_
        refine x_aload_n 0 dX4_readsFactor_129 rfl rfl ?_
        refine x_dup dX4_readsFactor_130 rfl ?_
        refine x_geti dX4_readsFactor_131 vc_X4 xin4 fb_X4_4 fl_X4_24 xr_X4_4 k100 ?_
        refine x_iconst (v := 1) dX4_readsFactor_134 rfl ?_
        refine x_iadd dX4_readsFactor_135 ?_
        refine x_puti dX4_readsFactor_136 vc_X4 xin4 tyX4_ok nmX4 fb_X4_4 fl_X4_24 ff_X4_4 xr_X4_4 (nf_X4_4 _) (ft_X4_4 _) k100 ?_
        obtain ⟨N16, eN16, h⟩ := x_lt h
        refine x_nmN eN16 ?_
        refine x_aload_n 0 dX4_readsFactor_139 rfl rfl ?_
        refine x_iload_n 1 dX4_readsFactor_140 rfl rfl ?_
        refine x_iconst (v := 1) dX4_readsFactor_141 rfl ?_
        refine x_iadd dX4_readsFactor_142 ?_
        obtain ⟨r18, N19, q17, h⟩ := x_bd2 h
        refine x_cv (b := a0) (As := [.int (a1 + 1)]) (ci := 4) (d' := (3 + D)) (zz := yX4_readsSum) dX4_readsFactor_143 ml_X4_85 wi_X4_readsSum wv_X4_readsSum wn_X4 wc_X4_readsSum hp_X4_readsSum (by omega) (by decide) rfl (Nat.le_of_ble_eq_true rfl) ⟨Nat.zero_le _, Nat.zero_le _⟩ rfl k100 (hrc_readsSum k100 hr q17) ?_
        rcases x_if h with ⟨c20, h⟩ | ⟨c20, h⟩
        · refine x_if_eq_t (tgt := 161) dX4_readsFactor_146 (by decide) c20 ?_
          refine x_iconst (v := 0) dX4_readsFactor_161 rfl ?_
          obtain ⟨rfl, rfl⟩ := Prod.mk.inj (x_so h)
          exact x_zret dX4_readsFactor_162 rfl (by decide) rfl rfl
        · refine x_if_eq_f (tgt := 161) dX4_readsFactor_146 (by decide) c20 ?_
          refine x_aload_n 0 dX4_readsFactor_149 rfl rfl ?_
          refine x_iconst (v := 5) dX4_readsFactor_150 rfl ?_
          obtain ⟨r22, N23, q21, h⟩ := x_bd2 h
          refine x_cv (b := a0) (As := [.int 5]) (ci := 4) (d' := 2) (zz := yX4_takes) dX4_readsFactor_151 ml_X4_37 wi_X4_takes wv_X4_takes wn_X4 wc_X4_takes hp_X4_takes (by omega) (by decide) rfl (Nat.le_of_ble_eq_true rfl) ⟨Nat.zero_le _, Nat.zero_le _⟩ rfl k100 (T_X4_takes (G := G) hw k100 hr q21) ?_
          rcases x_if h with ⟨c24, h⟩ | ⟨c24, h⟩
          · refine x_if_eq_t (tgt := 161) dX4_readsFactor_154 (by decide) c24 ?_
            refine x_iconst (v := 0) dX4_readsFactor_161 rfl ?_
            obtain ⟨rfl, rfl⟩ := Prod.mk.inj (x_so h)
            exact x_zret dX4_readsFactor_162 rfl (by decide) rfl rfl
          · refine x_if_eq_f (tgt := 161) dX4_readsFactor_154 (by decide) c24 ?_
            refine x_iconst (v := 1) dX4_readsFactor_157 rfl ?_
            refine x_goto (tgt := 162) dX4_readsFactor_158 (by decide) ?_
            obtain ⟨rfl, rfl⟩ := Prod.mk.inj (x_so h)
            exact x_zret dX4_readsFactor_162 rfl (by decide) rfl rfl
      · refine x_icmp_lt_f (tgt := 129) dX4_readsFactor_119 (by decide) c15 ?_
        refine x_aload_n 0 dX4_readsFactor_122 rfl rfl ?_
        refine x_bipush (v := (-6)) dX4_readsFactor_123 rfl ?_
        obtain ⟨r26, N27, q25, h⟩ := x_bd2 h
        refine x_cv (b := a0) (As := [.int (-6)]) (ci := 4) (d' := 1) (zz := yX4_fails) dX4_readsFactor_125 ml_X4_61 wi_X4_fails wv_X4_fails wn_X4 wc_X4_fails hp_X4_fails (by omega) (by decide) rfl (Nat.le_of_ble_eq_true rfl) ⟨Nat.zero_le _, Nat.zero_le _⟩ rfl k100 (T_X4_fails (G := G) hw k100 hr q25) ?_
        obtain ⟨c28, h⟩ := x_ck h
        obtain ⟨rfl, rfl⟩ := Prod.mk.inj (x_so h)
        exact x_zret dX4_readsFactor_128 rfl (xz_or c28) rfl rfl
    · rcases x_if h with ⟨c29, h⟩ | ⟨c29, h⟩
      · refine x_lookup (off := 87) (tgt := 93) dX4_readsFactor_6 (by decide) (by rw [c29]; rfl) (by decide) ?_
        refine x_aload_n 0 dX4_readsFactor_93 rfl rfl ?_
        obtain ⟨g30, k31⟩ := hr.2
        refine x_getr dX4_readsFactor_94 vc_X4 xin4 fb_X4_3 fl_X4_15 xr_X4_3 k100 g30 ?_
        obtain ⟨g32, k33⟩ := wt_X6_13 hw k31
        refine x_getr dX4_readsFactor_97 vc_X6 xin6 fb_X6_13 fl_X4_151 xr_X6_13 k31 g32 ?_
        refine x_iload_n 2 dX4_readsFactor_100 rfl rfl ?_
        refine x_ineg dX4_readsFactor_101 ?_
        obtain ⟨N35, q34, h⟩ := x_bd1 h
        refine x_cv (b := (gp Y (gp Y a0 3) 13)) (As := [.int (-r2)]) (ci := 0) (d' := 1) (zz := yX0_addStep) dX4_readsFactor_102 ml_X4_155 wi_X0_addStep wv_X0_addStep wn_X0 wc_X0_addStep hp_X0_addStep (by omega) (by decide) rfl (Nat.le_of_ble_eq_true rfl) ⟨Nat.zero_le _, Nat.zero_le _⟩ rfl k33 (T_X0_addStep (G := G) hw k33 q34) ?_
        refine x_aload_n 0 dX4_readsFactor_105 rfl rfl ?_
        refine x_dup dX4_readsFactor_106 rfl ?_
        refine x_geti dX4_readsFactor_107 vc_X4 xin4 fb_X4_4 fl_X4_24 xr_X4_4 k100 ?_
        refine x_iconst (v := 1) dX4_readsFactor_110 rfl ?_
        refine x_iadd dX4_readsFactor_111 ?_
        refine x_puti dX4_readsFactor_112 vc_X4 xin4 tyX4_ok nmX4 fb_X4_4 fl_X4_24 ff_X4_4 xr_X4_4 (nf_X4_4 _) (ft_X4_4 _) k100 ?_
        obtain ⟨N36, eN36, h⟩ := x_lt h
        refine x_nmN eN36 ?_
        refine x_iconst (v := 1) dX4_readsFactor_115 rfl ?_
        obtain ⟨rfl, rfl⟩ := Prod.mk.inj (x_so h)
        exact x_zret dX4_readsFactor_116 rfl (by decide) rfl rfl
      · rcases x_if h with ⟨c37, h⟩ | ⟨c37, h⟩
        · refine x_lookup (off := 87) (tgt := 93) dX4_readsFactor_6 (by decide) (by rw [c37]; rfl) (by decide) ?_
          refine x_aload_n 0 dX4_readsFactor_93 rfl rfl ?_
          obtain ⟨g38, k39⟩ := hr.2
          refine x_getr dX4_readsFactor_94 vc_X4 xin4 fb_X4_3 fl_X4_15 xr_X4_3 k100 g38 ?_
          obtain ⟨g40, k41⟩ := wt_X6_13 hw k39
          refine x_getr dX4_readsFactor_97 vc_X6 xin6 fb_X6_13 fl_X4_151 xr_X6_13 k39 g40 ?_
          refine x_iload_n 2 dX4_readsFactor_100 rfl rfl ?_
          refine x_ineg dX4_readsFactor_101 ?_
          obtain ⟨N43, q42, h⟩ := x_bd1 h
          refine x_cv (b := (gp Y (gp Y a0 3) 13)) (As := [.int (-r2)]) (ci := 0) (d' := 1) (zz := yX0_addStep) dX4_readsFactor_102 ml_X4_155 wi_X0_addStep wv_X0_addStep wn_X0 wc_X0_addStep hp_X0_addStep (by omega) (by decide) rfl (Nat.le_of_ble_eq_true rfl) ⟨Nat.zero_le _, Nat.zero_le _⟩ rfl k41 (T_X0_addStep (G := G) hw k41 q42) ?_
          refine x_aload_n 0 dX4_readsFactor_105 rfl rfl ?_
          refine x_dup dX4_readsFactor_106 rfl ?_
          refine x_geti dX4_readsFactor_107 vc_X4 xin4 fb_X4_4 fl_X4_24 xr_X4_4 k100 ?_
          refine x_iconst (v := 1) dX4_readsFactor_110 rfl ?_
          refine x_iadd dX4_readsFactor_111 ?_
          refine x_puti dX4_readsFactor_112 vc_X4 xin4 tyX4_ok nmX4 fb_X4_4 fl_X4_24 ff_X4_4 xr_X4_4 (nf_X4_4 _) (ft_X4_4 _) k100 ?_
          obtain ⟨N44, eN44, h⟩ := x_lt h
          refine x_nmN eN44 ?_
          refine x_iconst (v := 1) dX4_readsFactor_115 rfl ?_
          obtain ⟨rfl, rfl⟩ := Prod.mk.inj (x_so h)
          exact x_zret dX4_readsFactor_116 rfl (by decide) rfl rfl
        · rcases x_if h with ⟨c45, h⟩ | ⟨c45, h⟩
          · refine x_lookup (off := 87) (tgt := 93) dX4_readsFactor_6 (by decide) (by rw [c45]; rfl) (by decide) ?_
            refine x_aload_n 0 dX4_readsFactor_93 rfl rfl ?_
            obtain ⟨g46, k47⟩ := hr.2
            refine x_getr dX4_readsFactor_94 vc_X4 xin4 fb_X4_3 fl_X4_15 xr_X4_3 k100 g46 ?_
            obtain ⟨g48, k49⟩ := wt_X6_13 hw k47
            refine x_getr dX4_readsFactor_97 vc_X6 xin6 fb_X6_13 fl_X4_151 xr_X6_13 k47 g48 ?_
            refine x_iload_n 2 dX4_readsFactor_100 rfl rfl ?_
            refine x_ineg dX4_readsFactor_101 ?_
            obtain ⟨N51, q50, h⟩ := x_bd1 h
            refine x_cv (b := (gp Y (gp Y a0 3) 13)) (As := [.int (-r2)]) (ci := 0) (d' := 1) (zz := yX0_addStep) dX4_readsFactor_102 ml_X4_155 wi_X0_addStep wv_X0_addStep wn_X0 wc_X0_addStep hp_X0_addStep (by omega) (by decide) rfl (Nat.le_of_ble_eq_true rfl) ⟨Nat.zero_le _, Nat.zero_le _⟩ rfl k49 (T_X0_addStep (G := G) hw k49 q50) ?_
            refine x_aload_n 0 dX4_readsFactor_105 rfl rfl ?_
            refine x_dup dX4_readsFactor_106 rfl ?_
            refine x_geti dX4_readsFactor_107 vc_X4 xin4 fb_X4_4 fl_X4_24 xr_X4_4 k100 ?_
            refine x_iconst (v := 1) dX4_readsFactor_110 rfl ?_
            refine x_iadd dX4_readsFactor_111 ?_
            refine x_puti dX4_readsFactor_112 vc_X4 xin4 tyX4_ok nmX4 fb_X4_4 fl_X4_24 ff_X4_4 xr_X4_4 (nf_X4_4 _) (ft_X4_4 _) k100 ?_
            obtain ⟨N52, eN52, h⟩ := x_lt h
            refine x_nmN eN52 ?_
            refine x_iconst (v := 1) dX4_readsFactor_115 rfl ?_
            obtain ⟨rfl, rfl⟩ := Prod.mk.inj (x_so h)
            exact x_zret dX4_readsFactor_116 rfl (by decide) rfl rfl
          · rcases x_if h with ⟨c53, h⟩ | ⟨c53, h⟩
            · refine x_lookup (off := 87) (tgt := 93) dX4_readsFactor_6 (by decide) (by rw [c53]; rfl) (by decide) ?_
              refine x_aload_n 0 dX4_readsFactor_93 rfl rfl ?_
              obtain ⟨g54, k55⟩ := hr.2
              refine x_getr dX4_readsFactor_94 vc_X4 xin4 fb_X4_3 fl_X4_15 xr_X4_3 k100 g54 ?_
              obtain ⟨g56, k57⟩ := wt_X6_13 hw k55
              refine x_getr dX4_readsFactor_97 vc_X6 xin6 fb_X6_13 fl_X4_151 xr_X6_13 k55 g56 ?_
              refine x_iload_n 2 dX4_readsFactor_100 rfl rfl ?_
              refine x_ineg dX4_readsFactor_101 ?_
              obtain ⟨N59, q58, h⟩ := x_bd1 h
              refine x_cv (b := (gp Y (gp Y a0 3) 13)) (As := [.int (-r2)]) (ci := 0) (d' := 1) (zz := yX0_addStep) dX4_readsFactor_102 ml_X4_155 wi_X0_addStep wv_X0_addStep wn_X0 wc_X0_addStep hp_X0_addStep (by omega) (by decide) rfl (Nat.le_of_ble_eq_true rfl) ⟨Nat.zero_le _, Nat.zero_le _⟩ rfl k57 (T_X0_addStep (G := G) hw k57 q58) ?_
              refine x_aload_n 0 dX4_readsFactor_105 rfl rfl ?_
              refine x_dup dX4_readsFactor_106 rfl ?_
              refine x_geti dX4_readsFactor_107 vc_X4 xin4 fb_X4_4 fl_X4_24 xr_X4_4 k100 ?_
              refine x_iconst (v := 1) dX4_readsFactor_110 rfl ?_
              refine x_iadd dX4_readsFactor_111 ?_
              refine x_puti dX4_readsFactor_112 vc_X4 xin4 tyX4_ok nmX4 fb_X4_4 fl_X4_24 ff_X4_4 xr_X4_4 (nf_X4_4 _) (ft_X4_4 _) k100 ?_
              obtain ⟨N60, eN60, h⟩ := x_lt h
              refine x_nmN eN60 ?_
              refine x_iconst (v := 1) dX4_readsFactor_115 rfl ?_
              obtain ⟨rfl, rfl⟩ := Prod.mk.inj (x_so h)
              exact x_zret dX4_readsFactor_116 rfl (by decide) rfl rfl
            · refine x_lookup (off := 157) (tgt := 163) dX4_readsFactor_6 (by decide) (by simp [Op.lookupswitch.offset, mt Eq.symm (x_ti c3 (z := 2) rfl), mt Eq.symm (x_ti c14 (z := 4) rfl), mt Eq.symm (x_ti c29 (z := 12) rfl), mt Eq.symm (x_ti c37 (z := 20) rfl), mt Eq.symm (x_ti c45 (z := 21) rfl), mt Eq.symm (x_ti c53 (z := 22) rfl)]) (by decide) ?_
              refine x_aload_n 0 dX4_readsFactor_163 rfl rfl ?_
              refine x_bipush (v := (-2)) dX4_readsFactor_164 rfl ?_
              obtain ⟨r62, N63, q61, h⟩ := x_bd2 h
              refine x_cv (b := a0) (As := [.int (-2)]) (ci := 4) (d' := 1) (zz := yX4_fails) dX4_readsFactor_166 ml_X4_61 wi_X4_fails wv_X4_fails wn_X4 wc_X4_fails hp_X4_fails (by omega) (by decide) rfl (Nat.le_of_ble_eq_true rfl) ⟨Nat.zero_le _, Nat.zero_le _⟩ rfl k100 (T_X4_fails (G := G) hw k100 hr q61) ?_
              obtain ⟨c64, h⟩ := x_ck h
              obtain ⟨rfl, rfl⟩ := Prod.mk.inj (x_so h)
              exact x_zret dX4_readsFactor_169 rfl (xz_or c64) rfl rfl
theorem T_X4_S {G : XG} {Y : XY} (hw : WT Y) : ∀ D : Nat, (∀ {a0 : Nat} {a1 : Int32} {N : XN} {r9 : Int32} {N9 : XN}, kc Y a0 = 14 → WR Y a0 → f_X4_S Y D 0 a0 a1 N = some (r9, N9) → Cl G yX4_readsSum cX4_readsSum 5 (some .boolean) (xR (3 + D) 0 0) [.ref a0, .int a1] (.inl (some (.int r9))) Y N Y N9) ∧ (∀ {a0 : Nat} {a1 : Int32} {N : XN} {r9 : Int32} {N9 : XN}, kc Y a0 = 14 → WR Y a0 → f_X4_S Y D 1 a0 a1 N = some (r9, N9) → Cl G yX4_readsTerm cX4_readsTerm 5 (some .boolean) (xR (3 + D) 0 0) [.ref a0, .int a1] (.inl (some (.int r9))) Y N Y N9) ∧ (∀ {a0 : Nat} {a1 : Int32} {N : XN} {r9 : Int32} {N9 : XN}, kc Y a0 = 14 → WR Y a0 → f_X4_S Y D 2 a0 a1 N = some (r9, N9) → Cl G yX4_readsFactor cX4_readsFactor 3 (some .boolean) (xR (3 + D) 0 0) [.ref a0, .int a1] (.inl (some (.int r9))) Y N Y N9) := by
  intro D
  induction D with
  | zero => exact ⟨fun _ _ h => (nomatch h), fun _ _ h => (nomatch h), fun _ _ h => (nomatch h)⟩
  | succ D ih =>
    obtain ⟨h0, h1, h2⟩ := ih
    refine ⟨fun k hr h => ?_, fun k hr h => ?_, fun k hr h => ?_⟩
    · exact T_X4_readsSum (G := G) hw (rc := f_X4_S Y D) (fun k hr h => h0 k hr h) (fun k hr h => h1 k hr h) (fun k hr h => h2 k hr h) k hr h
    · exact T_X4_readsTerm (G := G) hw (rc := f_X4_S Y D) (fun k hr h => h0 k hr h) (fun k hr h => h1 k hr h) (fun k hr h => h2 k hr h) k hr h
    · exact T_X4_readsFactor (G := G) hw (rc := f_X4_S Y D) (fun k hr h => h0 k hr h) (fun k hr h => h1 k hr h) (fun k hr h => h2 k hr h) k hr h
theorem T_X4_S0 {G : XG} {Y : XY} (hw : WT Y) {a0 : Nat} {a1 : Int32} {N : XN} (k : kc Y a0 = 14) (hr : WR Y a0) (D : Nat) {r9 : Int32} {N9 : XN} (h : f_X4_S Y D 0 a0 a1 N = some (r9, N9)) : Cl G yX4_readsSum cX4_readsSum 5 (some .boolean) (xR (3 + D) 0 0) [.ref a0, .int a1] (.inl (some (.int r9))) Y N Y N9 := (T_X4_S hw D).1 k hr h
theorem T_X4_S1 {G : XG} {Y : XY} (hw : WT Y) {a0 : Nat} {a1 : Int32} {N : XN} (k : kc Y a0 = 14) (hr : WR Y a0) (D : Nat) {r9 : Int32} {N9 : XN} (h : f_X4_S Y D 1 a0 a1 N = some (r9, N9)) : Cl G yX4_readsTerm cX4_readsTerm 5 (some .boolean) (xR (3 + D) 0 0) [.ref a0, .int a1] (.inl (some (.int r9))) Y N Y N9 := (T_X4_S hw D).2.1 k hr h
theorem T_X4_S2 {G : XG} {Y : XY} (hw : WT Y) {a0 : Nat} {a1 : Int32} {N : XN} (k : kc Y a0 = 14) (hr : WR Y a0) (D : Nat) {r9 : Int32} {N9 : XN} (h : f_X4_S Y D 2 a0 a1 N = some (r9, N9)) : Cl G yX4_readsFactor cX4_readsFactor 3 (some .boolean) (xR (3 + D) 0 0) [.ref a0, .int a1] (.inl (some (.int r9))) Y N Y N9 := (T_X4_S hw D).2.2 k hr h
set_option maxHeartbeats 4000000 in
set_option maxRecDepth 100000 in
theorem T_X4_readsStatement {G : XG} {Y : XY} (hw : WT Y) {a0 : Nat} {N : XN} (k100 : kc Y a0 = 14) (hr : WR Y a0) {r9 : Int32} {N9 : XN} (h : f_X4_readsStatement Y a0 N = some (r9, N9)) : Cl G yX4_readsStatement cX4_readsStatement 2 (some .boolean) (xR 28 0 0) [.ref a0] (.inl (some (.int r9))) Y N Y N9 := by
  refine x_entry (by decide) (Nat.le_of_ble_eq_true rfl) rfl ?_
  rw [f_X4_readsStatement] at h
  refine x_aload_n 0 dX4_readsStatement_0 rfl rfl ?_
  obtain ⟨r2, q1, h⟩ := x_bd1 h
  refine x_cv (b := a0) (As := []) (ci := 4) (d' := 1) (zz := yX4_kind) dX4_readsStatement_1 ml_X4_41 wi_X4_kind wv_X4_kind wn_X4 wc_X4_kind hp_X4_kind (by decide) (by decide) rfl (Nat.le_of_ble_eq_true rfl) ⟨Nat.zero_le _, Nat.zero_le _⟩ rfl k100 (T_X4_kind (G := G) hw k100 hr q1) ?_
  refine x_istore_n (L' := [(0, .ref a0), (1, .int r2)]) [1, 0] dX4_readsStatement_4 rfl (by decide) rfl ?_
  refine x_iload_n 1 dX4_readsStatement_5 rfl rfl ?_
  rcases x_if h with ⟨c3, h⟩ | ⟨c3, h⟩
  · refine x_swIn (off := 50) (tgt := 56) dX4_readsStatement_6 (by rw [c3]; decide) (by rw [c3]; decide) (by rw [c3]; rfl) (by decide) ?_
    refine x_aload_n 0 dX4_readsStatement_56 rfl rfl ?_
    obtain ⟨r5, N6, q4, h⟩ := x_bd2 h
    refine x_cv (b := a0) (As := []) (ci := 4) (d' := 3) (zz := yX4_readsHandler) dX4_readsStatement_57 ml_X4_70 wi_X4_readsHandler wv_X4_readsHandler wn_X4 wc_X4_readsHandler hp_X4_readsHandler (by decide) (by decide) rfl (Nat.le_of_ble_eq_true rfl) ⟨Nat.zero_le _, Nat.zero_le _⟩ rfl k100 (T_X4_readsHandler (G := G) hw k100 hr q4) ?_
    obtain ⟨c7, h⟩ := x_ck h
    obtain ⟨rfl, rfl⟩ := Prod.mk.inj (x_so h)
    exact x_zret dX4_readsStatement_60 rfl (xz_or c7) rfl rfl
  · rcases x_if h with ⟨c8, h⟩ | ⟨c8, h⟩
    · refine x_swIn (off := 55) (tgt := 61) dX4_readsStatement_6 (by rw [c8]; decide) (by rw [c8]; decide) (by rw [c8]; rfl) (by decide) ?_
      refine x_aload_n 0 dX4_readsStatement_61 rfl rfl ?_
      obtain ⟨r10, N11, q9, h⟩ := x_bd2 h
      refine x_cv (b := a0) (As := []) (ci := 4) (d' := 4) (zz := yX4_readsLine) dX4_readsStatement_62 ml_X4_73 wi_X4_readsLine wv_X4_readsLine wn_X4 wc_X4_readsLine hp_X4_readsLine (by decide) (by decide) rfl (Nat.le_of_ble_eq_true rfl) ⟨Nat.zero_le _, Nat.zero_le _⟩ rfl k100 (T_X4_readsLine (G := G) hw k100 hr q9) ?_
      obtain ⟨c12, h⟩ := x_ck h
      obtain ⟨rfl, rfl⟩ := Prod.mk.inj (x_so h)
      exact x_zret dX4_readsStatement_65 rfl (xz_or c12) rfl rfl
    · rcases x_if h with ⟨c13, h⟩ | ⟨c13, h⟩
      · refine x_swIn (off := 60) (tgt := 66) dX4_readsStatement_6 (by rw [c13]; decide) (by rw [c13]; decide) (by rw [c13]; rfl) (by decide) ?_
        refine x_aload_n 0 dX4_readsStatement_66 rfl rfl ?_
        obtain ⟨r15, N16, q14, h⟩ := x_bd2 h
        refine x_cv (b := a0) (As := []) (ci := 4) (d' := 3) (zz := yX4_readsRaise) dX4_readsStatement_67 ml_X4_76 wi_X4_readsRaise wv_X4_readsRaise wn_X4 wc_X4_readsRaise hp_X4_readsRaise (by decide) (by decide) rfl (Nat.le_of_ble_eq_true rfl) ⟨Nat.zero_le _, Nat.zero_le _⟩ rfl k100 (T_X4_readsRaise (G := G) hw k100 hr q14) ?_
        obtain ⟨c17, h⟩ := x_ck h
        obtain ⟨rfl, rfl⟩ := Prod.mk.inj (x_so h)
        exact x_zret dX4_readsStatement_70 rfl (xz_or c17) rfl rfl
      · rcases x_if h with ⟨c18, h⟩ | ⟨c18, h⟩
        · refine x_swIn (off := 65) (tgt := 71) dX4_readsStatement_6 (by rw [c18]; decide) (by rw [c18]; decide) (by rw [c18]; rfl) (by decide) ?_
          refine x_aload_n 0 dX4_readsStatement_71 rfl rfl ?_
          refine x_iload_n 1 dX4_readsStatement_72 rfl rfl ?_
          obtain ⟨r20, N21, q19, h⟩ := x_bd2 h
          refine x_cv (b := a0) (As := [.int r2]) (ci := 4) (d' := 2) (zz := yX4_beginsOnce) dX4_readsStatement_73 ml_X4_79 wi_X4_beginsOnce wv_X4_beginsOnce wn_X4 wc_X4_beginsOnce hp_X4_beginsOnce (by decide) (by decide) rfl (Nat.le_of_ble_eq_true rfl) ⟨Nat.zero_le _, Nat.zero_le _⟩ rfl k100 (T_X4_beginsOnce (G := G) hw k100 hr q19) ?_
          rcases x_if h with ⟨c22, h⟩ | ⟨c22, h⟩
          · refine x_if_eq_t (tgt := 91) dX4_readsStatement_76 (by decide) c22 ?_
            refine x_iconst (v := 0) dX4_readsStatement_91 rfl ?_
            obtain ⟨rfl, rfl⟩ := Prod.mk.inj (x_so h)
            exact x_zret dX4_readsStatement_92 rfl (by decide) rfl rfl
          · refine x_if_eq_f (tgt := 91) dX4_readsStatement_76 (by decide) c22 ?_
            refine x_aload_n 0 dX4_readsStatement_79 rfl rfl ?_
            refine x_iload_n 1 dX4_readsStatement_80 rfl rfl ?_
            obtain ⟨r24, N25, q23, h⟩ := x_bd2 h
            refine x_cv (b := a0) (As := [.int r2]) (ci := 4) (d' := 3) (zz := yX4_readsRule) dX4_readsStatement_81 ml_X4_82 wi_X4_readsRule wv_X4_readsRule wn_X4 wc_X4_readsRule hp_X4_readsRule (by decide) (by decide) rfl (Nat.le_of_ble_eq_true rfl) ⟨Nat.zero_le _, Nat.zero_le _⟩ rfl k100 (T_X4_readsRule (G := G) hw k100 hr q23) ?_
            rcases x_if h with ⟨c26, h⟩ | ⟨c26, h⟩
            · refine x_if_eq_t (tgt := 91) dX4_readsStatement_84 (by decide) c26 ?_
              refine x_iconst (v := 0) dX4_readsStatement_91 rfl ?_
              obtain ⟨rfl, rfl⟩ := Prod.mk.inj (x_so h)
              exact x_zret dX4_readsStatement_92 rfl (by decide) rfl rfl
            · refine x_if_eq_f (tgt := 91) dX4_readsStatement_84 (by decide) c26 ?_
              refine x_iconst (v := 1) dX4_readsStatement_87 rfl ?_
              refine x_goto (tgt := 92) dX4_readsStatement_88 (by decide) ?_
              obtain ⟨rfl, rfl⟩ := Prod.mk.inj (x_so h)
              exact x_zret dX4_readsStatement_92 rfl (by decide) rfl rfl
        · rcases x_if h with ⟨c27, h⟩ | ⟨c27, h⟩
          · refine x_swIn (off := 65) (tgt := 71) dX4_readsStatement_6 (by rw [c27]; decide) (by rw [c27]; decide) (by rw [c27]; rfl) (by decide) ?_
            refine x_aload_n 0 dX4_readsStatement_71 rfl rfl ?_
            refine x_iload_n 1 dX4_readsStatement_72 rfl rfl ?_
            obtain ⟨r29, N30, q28, h⟩ := x_bd2 h
            refine x_cv (b := a0) (As := [.int r2]) (ci := 4) (d' := 2) (zz := yX4_beginsOnce) dX4_readsStatement_73 ml_X4_79 wi_X4_beginsOnce wv_X4_beginsOnce wn_X4 wc_X4_beginsOnce hp_X4_beginsOnce (by decide) (by decide) rfl (Nat.le_of_ble_eq_true rfl) ⟨Nat.zero_le _, Nat.zero_le _⟩ rfl k100 (T_X4_beginsOnce (G := G) hw k100 hr q28) ?_
            rcases x_if h with ⟨c31, h⟩ | ⟨c31, h⟩
            · refine x_if_eq_t (tgt := 91) dX4_readsStatement_76 (by decide) c31 ?_
              refine x_iconst (v := 0) dX4_readsStatement_91 rfl ?_
              obtain ⟨rfl, rfl⟩ := Prod.mk.inj (x_so h)
              exact x_zret dX4_readsStatement_92 rfl (by decide) rfl rfl
            · refine x_if_eq_f (tgt := 91) dX4_readsStatement_76 (by decide) c31 ?_
              refine x_aload_n 0 dX4_readsStatement_79 rfl rfl ?_
              refine x_iload_n 1 dX4_readsStatement_80 rfl rfl ?_
              obtain ⟨r33, N34, q32, h⟩ := x_bd2 h
              refine x_cv (b := a0) (As := [.int r2]) (ci := 4) (d' := 3) (zz := yX4_readsRule) dX4_readsStatement_81 ml_X4_82 wi_X4_readsRule wv_X4_readsRule wn_X4 wc_X4_readsRule hp_X4_readsRule (by decide) (by decide) rfl (Nat.le_of_ble_eq_true rfl) ⟨Nat.zero_le _, Nat.zero_le _⟩ rfl k100 (T_X4_readsRule (G := G) hw k100 hr q32) ?_
              rcases x_if h with ⟨c35, h⟩ | ⟨c35, h⟩
              · refine x_if_eq_t (tgt := 91) dX4_readsStatement_84 (by decide) c35 ?_
                refine x_iconst (v := 0) dX4_readsStatement_91 rfl ?_
                obtain ⟨rfl, rfl⟩ := Prod.mk.inj (x_so h)
                exact x_zret dX4_readsStatement_92 rfl (by decide) rfl rfl
              · refine x_if_eq_f (tgt := 91) dX4_readsStatement_84 (by decide) c35 ?_
                refine x_iconst (v := 1) dX4_readsStatement_87 rfl ?_
                refine x_goto (tgt := 92) dX4_readsStatement_88 (by decide) ?_
                obtain ⟨rfl, rfl⟩ := Prod.mk.inj (x_so h)
                exact x_zret dX4_readsStatement_92 rfl (by decide) rfl rfl
          · rcases x_if h with ⟨c36, h⟩ | ⟨c36, h⟩
            · refine x_swIn (off := 65) (tgt := 71) dX4_readsStatement_6 (by rw [c36]; decide) (by rw [c36]; decide) (by rw [c36]; rfl) (by decide) ?_
              refine x_aload_n 0 dX4_readsStatement_71 rfl rfl ?_
              refine x_iload_n 1 dX4_readsStatement_72 rfl rfl ?_
              obtain ⟨r38, N39, q37, h⟩ := x_bd2 h
              refine x_cv (b := a0) (As := [.int r2]) (ci := 4) (d' := 2) (zz := yX4_beginsOnce) dX4_readsStatement_73 ml_X4_79 wi_X4_beginsOnce wv_X4_beginsOnce wn_X4 wc_X4_beginsOnce hp_X4_beginsOnce (by decide) (by decide) rfl (Nat.le_of_ble_eq_true rfl) ⟨Nat.zero_le _, Nat.zero_le _⟩ rfl k100 (T_X4_beginsOnce (G := G) hw k100 hr q37) ?_
              rcases x_if h with ⟨c40, h⟩ | ⟨c40, h⟩
              · refine x_if_eq_t (tgt := 91) dX4_readsStatement_76 (by decide) c40 ?_
                refine x_iconst (v := 0) dX4_readsStatement_91 rfl ?_
                obtain ⟨rfl, rfl⟩ := Prod.mk.inj (x_so h)
                exact x_zret dX4_readsStatement_92 rfl (by decide) rfl rfl
              · refine x_if_eq_f (tgt := 91) dX4_readsStatement_76 (by decide) c40 ?_
                refine x_aload_n 0 dX4_readsStatement_79 rfl rfl ?_
                refine x_iload_n 1 dX4_readsStatement_80 rfl rfl ?_
                obtain ⟨r42, N43, q41, h⟩ := x_bd2 h
                refine x_cv (b := a0) (As := [.int r2]) (ci := 4) (d' := 3) (zz := yX4_readsRule) dX4_readsStatement_81 ml_X4_82 wi_X4_readsRule wv_X4_readsRule wn_X4 wc_X4_readsRule hp_X4_readsRule (by decide) (by decide) rfl (Nat.le_of_ble_eq_true rfl) ⟨Nat.zero_le _, Nat.zero_le _⟩ rfl k100 (T_X4_readsRule (G := G) hw k100 hr q41) ?_
                rcases x_if h with ⟨c44, h⟩ | ⟨c44, h⟩
                · refine x_if_eq_t (tgt := 91) dX4_readsStatement_84 (by decide) c44 ?_
                  refine x_iconst (v := 0) dX4_readsStatement_91 rfl ?_
                  obtain ⟨rfl, rfl⟩ := Prod.mk.inj (x_so h)
                  exact x_zret dX4_readsStatement_92 rfl (by decide) rfl rfl
                · refine x_if_eq_f (tgt := 91) dX4_readsStatement_84 (by decide) c44 ?_
                  refine x_iconst (v := 1) dX4_readsStatement_87 rfl ?_
                  refine x_goto (tgt := 92) dX4_readsStatement_88 (by decide) ?_
                  obtain ⟨rfl, rfl⟩ := Prod.mk.inj (x_so h)
                  exact x_zret dX4_readsStatement_92 rfl (by decide) rfl rfl
            · rcases x_if h with ⟨c45, h⟩ | ⟨c45, h⟩
              · refine x_swIn (off := 65) (tgt := 71) dX4_readsStatement_6 (by rw [c45]; decide) (by rw [c45]; decide) (by rw [c45]; rfl) (by decide) ?_
                refine x_aload_n 0 dX4_readsStatement_71 rfl rfl ?_
                refine x_iload_n 1 dX4_readsStatement_72 rfl rfl ?_
                obtain ⟨r47, N48, q46, h⟩ := x_bd2 h
                refine x_cv (b := a0) (As := [.int r2]) (ci := 4) (d' := 2) (zz := yX4_beginsOnce) dX4_readsStatement_73 ml_X4_79 wi_X4_beginsOnce wv_X4_beginsOnce wn_X4 wc_X4_beginsOnce hp_X4_beginsOnce (by decide) (by decide) rfl (Nat.le_of_ble_eq_true rfl) ⟨Nat.zero_le _, Nat.zero_le _⟩ rfl k100 (T_X4_beginsOnce (G := G) hw k100 hr q46) ?_
                rcases x_if h with ⟨c49, h⟩ | ⟨c49, h⟩
                · refine x_if_eq_t (tgt := 91) dX4_readsStatement_76 (by decide) c49 ?_
                  refine x_iconst (v := 0) dX4_readsStatement_91 rfl ?_
                  obtain ⟨rfl, rfl⟩ := Prod.mk.inj (x_so h)
                  exact x_zret dX4_readsStatement_92 rfl (by decide) rfl rfl
                · refine x_if_eq_f (tgt := 91) dX4_readsStatement_76 (by decide) c49 ?_
                  refine x_aload_n 0 dX4_readsStatement_79 rfl rfl ?_
                  refine x_iload_n 1 dX4_readsStatement_80 rfl rfl ?_
                  obtain ⟨r51, N52, q50, h⟩ := x_bd2 h
                  refine x_cv (b := a0) (As := [.int r2]) (ci := 4) (d' := 3) (zz := yX4_readsRule) dX4_readsStatement_81 ml_X4_82 wi_X4_readsRule wv_X4_readsRule wn_X4 wc_X4_readsRule hp_X4_readsRule (by decide) (by decide) rfl (Nat.le_of_ble_eq_true rfl) ⟨Nat.zero_le _, Nat.zero_le _⟩ rfl k100 (T_X4_readsRule (G := G) hw k100 hr q50) ?_
                  rcases x_if h with ⟨c53, h⟩ | ⟨c53, h⟩
                  · refine x_if_eq_t (tgt := 91) dX4_readsStatement_84 (by decide) c53 ?_
                    refine x_iconst (v := 0) dX4_readsStatement_91 rfl ?_
                    obtain ⟨rfl, rfl⟩ := Prod.mk.inj (x_so h)
                    exact x_zret dX4_readsStatement_92 rfl (by decide) rfl rfl
                  · refine x_if_eq_f (tgt := 91) dX4_readsStatement_84 (by decide) c53 ?_
                    refine x_iconst (v := 1) dX4_readsStatement_87 rfl ?_
                    refine x_goto (tgt := 92) dX4_readsStatement_88 (by decide) ?_
                    obtain ⟨rfl, rfl⟩ := Prod.mk.inj (x_so h)
                    exact x_zret dX4_readsStatement_92 rfl (by decide) rfl rfl
              · rcases x_if h with ⟨c54, h⟩ | ⟨c54, h⟩
                · refine x_swIn (off := 65) (tgt := 71) dX4_readsStatement_6 (by rw [c54]; decide) (by rw [c54]; decide) (by rw [c54]; rfl) (by decide) ?_
                  refine x_aload_n 0 dX4_readsStatement_71 rfl rfl ?_
                  refine x_iload_n 1 dX4_readsStatement_72 rfl rfl ?_
                  obtain ⟨r56, N57, q55, h⟩ := x_bd2 h
                  refine x_cv (b := a0) (As := [.int r2]) (ci := 4) (d' := 2) (zz := yX4_beginsOnce) dX4_readsStatement_73 ml_X4_79 wi_X4_beginsOnce wv_X4_beginsOnce wn_X4 wc_X4_beginsOnce hp_X4_beginsOnce (by decide) (by decide) rfl (Nat.le_of_ble_eq_true rfl) ⟨Nat.zero_le _, Nat.zero_le _⟩ rfl k100 (T_X4_beginsOnce (G := G) hw k100 hr q55) ?_
                  rcases x_if h with ⟨c58, h⟩ | ⟨c58, h⟩
                  · refine x_if_eq_t (tgt := 91) dX4_readsStatement_76 (by decide) c58 ?_
                    refine x_iconst (v := 0) dX4_readsStatement_91 rfl ?_
                    obtain ⟨rfl, rfl⟩ := Prod.mk.inj (x_so h)
                    exact x_zret dX4_readsStatement_92 rfl (by decide) rfl rfl
                  · refine x_if_eq_f (tgt := 91) dX4_readsStatement_76 (by decide) c58 ?_
                    refine x_aload_n 0 dX4_readsStatement_79 rfl rfl ?_
                    refine x_iload_n 1 dX4_readsStatement_80 rfl rfl ?_
                    obtain ⟨r60, N61, q59, h⟩ := x_bd2 h
                    refine x_cv (b := a0) (As := [.int r2]) (ci := 4) (d' := 3) (zz := yX4_readsRule) dX4_readsStatement_81 ml_X4_82 wi_X4_readsRule wv_X4_readsRule wn_X4 wc_X4_readsRule hp_X4_readsRule (by decide) (by decide) rfl (Nat.le_of_ble_eq_true rfl) ⟨Nat.zero_le _, Nat.zero_le _⟩ rfl k100 (T_X4_readsRule (G := G) hw k100 hr q59) ?_
                    rcases x_if h with ⟨c62, h⟩ | ⟨c62, h⟩
                    · refine x_if_eq_t (tgt := 91) dX4_readsStatement_84 (by decide) c62 ?_
                      refine x_iconst (v := 0) dX4_readsStatement_91 rfl ?_
                      obtain ⟨rfl, rfl⟩ := Prod.mk.inj (x_so h)
                      exact x_zret dX4_readsStatement_92 rfl (by decide) rfl rfl
                    · refine x_if_eq_f (tgt := 91) dX4_readsStatement_84 (by decide) c62 ?_
                      refine x_iconst (v := 1) dX4_readsStatement_87 rfl ?_
                      refine x_goto (tgt := 92) dX4_readsStatement_88 (by decide) ?_
                      obtain ⟨rfl, rfl⟩ := Prod.mk.inj (x_so h)
                      exact x_zret dX4_readsStatement_92 rfl (by decide) rfl rfl
                · rcases x_if h with ⟨c63, h⟩ | ⟨c63, h⟩
                  · refine x_swIn (off := 87) (tgt := 93) dX4_readsStatement_6 (by rw [c63]; decide) (by rw [c63]; decide) (by rw [c63]; rfl) (by decide) ?_
                    refine x_aload_n 0 dX4_readsStatement_93 rfl rfl ?_
                    refine x_iload_n 1 dX4_readsStatement_94 rfl rfl ?_
                    obtain ⟨r65, N66, q64, h⟩ := x_bd2 h
                    refine x_cv (b := a0) (As := [.int r2]) (ci := 4) (d' := 2) (zz := yX4_beginsOnce) dX4_readsStatement_95 ml_X4_79 wi_X4_beginsOnce wv_X4_beginsOnce wn_X4 wc_X4_beginsOnce hp_X4_beginsOnce (by decide) (by decide) rfl (Nat.le_of_ble_eq_true rfl) ⟨Nat.zero_le _, Nat.zero_le _⟩ rfl k100 (T_X4_beginsOnce (G := G) hw k100 hr q64) ?_
                    rcases x_if h with ⟨c67, h⟩ | ⟨c67, h⟩
                    · refine x_if_eq_t (tgt := 113) dX4_readsStatement_98 (by decide) c67 ?_
                      refine x_iconst (v := 0) dX4_readsStatement_113 rfl ?_
                      obtain ⟨rfl, rfl⟩ := Prod.mk.inj (x_so h)
                      exact x_zret dX4_readsStatement_114 rfl (by decide) rfl rfl
                    · refine x_if_eq_f (tgt := 113) dX4_readsStatement_98 (by decide) c67 ?_
                      refine x_aload_n 0 dX4_readsStatement_101 rfl rfl ?_
                      refine x_iconst (v := 0) dX4_readsStatement_102 rfl ?_
                      obtain ⟨r69, N70, q68, h⟩ := x_bd2 h
                      refine x_cv (b := a0) (As := [.int 0]) (ci := 4) (d' := 27) (zz := yX4_readsSum) dX4_readsStatement_103 ml_X4_85 wi_X4_readsSum wv_X4_readsSum wn_X4 wc_X4_readsSum hp_X4_readsSum (by decide) (by decide) rfl (Nat.le_of_ble_eq_true rfl) ⟨Nat.zero_le _, Nat.zero_le _⟩ rfl k100 (T_X4_S0 (G := G) hw k100 hr 24 q68) ?_
                      rcases x_if h with ⟨c71, h⟩ | ⟨c71, h⟩
                      · refine x_if_eq_t (tgt := 113) dX4_readsStatement_106 (by decide) c71 ?_
                        refine x_iconst (v := 0) dX4_readsStatement_113 rfl ?_
                        obtain ⟨rfl, rfl⟩ := Prod.mk.inj (x_so h)
                        exact x_zret dX4_readsStatement_114 rfl (by decide) rfl rfl
                      · refine x_if_eq_f (tgt := 113) dX4_readsStatement_106 (by decide) c71 ?_
                        refine x_iconst (v := 1) dX4_readsStatement_109 rfl ?_
                        refine x_goto (tgt := 114) dX4_readsStatement_110 (by decide) ?_
                        obtain ⟨rfl, rfl⟩ := Prod.mk.inj (x_so h)
                        exact x_zret dX4_readsStatement_114 rfl (by decide) rfl rfl
                  · refine x_swOut (tgt := 115) dX4_readsStatement_6 (x_swo (fun z h1 h2 => by
                      rcases (show z = 11 ∨ z = 12 ∨ z = 13 ∨ z = 14 ∨ z = 15 ∨ z = 16 ∨ z = 17 ∨ z = 18 ∨ z = 19 by omega) with rfl | rfl | rfl | rfl | rfl | rfl | rfl | rfl | rfl
                      · exact x_ti c3 rfl
                      · exact x_ti c8 rfl
                      · exact x_ti c13 rfl
                      · exact x_ti c18 rfl
                      · exact x_ti c27 rfl
                      · exact x_ti c36 rfl
                      · exact x_ti c45 rfl
                      · exact x_ti c54 rfl
                      · exact x_ti c63 rfl)) (by decide) ?_
                    refine x_aload_n 0 dX4_readsStatement_115 rfl rfl ?_
                    refine x_bipush (v := (-2)) dX4_readsStatement_116 rfl ?_
                    obtain ⟨r73, N74, q72, h⟩ := x_bd2 h
                    refine x_cv (b := a0) (As := [.int (-2)]) (ci := 4) (d' := 1) (zz := yX4_fails) dX4_readsStatement_118 ml_X4_61 wi_X4_fails wv_X4_fails wn_X4 wc_X4_fails hp_X4_fails (by decide) (by decide) rfl (Nat.le_of_ble_eq_true rfl) ⟨Nat.zero_le _, Nat.zero_le _⟩ rfl k100 (T_X4_fails (G := G) hw k100 hr q72) ?_
                    obtain ⟨c75, h⟩ := x_ck h
                    obtain ⟨rfl, rfl⟩ := Prod.mk.inj (x_so h)
                    exact x_zret dX4_readsStatement_121 rfl (xz_or c75) rfl rfl
set_option maxHeartbeats 4000000 in
set_option maxRecDepth 100000 in
theorem T_X5_endOfRun_5 {G : XG} {Y : XY} (hw : WT Y) {r9 : Int32}: ∀ (D9 : Nat) (p_0 : Nat) (v_1 : Int32) (v_3 : Int32) (v_4 : Int32) (v_5 : Int32) (N : XN), kc Y p_0 = 2 → f_X5_endOfRun_5 Y D9 p_0 v_1 v_3 v_4 v_5 N = some r9 → Ex G yX5_endOfRun cX5_endOfRun 6 (some .int) (xR 1 0 0) (.inl (some (.int r9))) Y N 0 0 5 [(0, .ref p_0), (1, .int v_1), (3, .int v_3), (4, .int v_4), (5, .int v_5)] [] Y N := by
  intro D9
  induction D9 with
  | zero => intro p_0 v_1 v_3 v_4 v_5 N kk0 h; exact nomatch (show none = some _ from h)
  | succ D9 ih =>
    intro p_0 v_1 v_3 v_4 v_5 N kk0 h
    rw [f_X5_endOfRun_5] at h
    refine x_iload 4 dX5_endOfRun_5 rfl ?_
    refine x_iload_n 1 dX5_endOfRun_7 rfl rfl ?_
    rcases x_if h with ⟨c1, h⟩ | ⟨c1, h⟩
    · refine x_icmp_ge_t (tgt := 41) dX5_endOfRun_8 (by decide) c1 ?_
      refine x_iload 4 dX5_endOfRun_41 rfl ?_
      obtain rfl := x_so h
      exact x_iret dX5_endOfRun_43 rfl rfl rfl
    · refine x_icmp_ge_f (tgt := 41) dX5_endOfRun_8 (by decide) c1 ?_
      refine x_iload 4 dX5_endOfRun_11 rfl ?_
      refine x_aload_n 0 dX5_endOfRun_13 rfl rfl ?_
      refine x_blen dX5_endOfRun_14 kk0 rfl ?_
      rcases x_if h with ⟨c2, h⟩ | ⟨c2, h⟩
      · refine x_icmp_ge_t (tgt := 41) dX5_endOfRun_15 (by decide) c2 ?_
        refine x_iload 4 dX5_endOfRun_41 rfl ?_
        obtain rfl := x_so h
        exact x_iret dX5_endOfRun_43 rfl rfl rfl
      · refine x_icmp_ge_f (tgt := 41) dX5_endOfRun_15 (by decide) c2 ?_
        refine x_aload_n 0 dX5_endOfRun_18 rfl rfl ?_
        refine x_iload 4 dX5_endOfRun_19 rfl ?_
        obtain ⟨c3, h⟩ := x_ck h
        refine x_bald dX5_endOfRun_21 kk0 (xb_in c3) rfl ?_
        refine x_iload_n 2 dX5_endOfRun_22 rfl rfl ?_
        rcases x_if h with ⟨c4, h⟩ | ⟨c4, h⟩
        · refine x_icmp_lt_t (tgt := 41) dX5_endOfRun_23 (by decide) c4 ?_
          refine x_iload 4 dX5_endOfRun_41 rfl ?_
          obtain rfl := x_so h
          exact x_iret dX5_endOfRun_43 rfl rfl rfl
        · refine x_icmp_lt_f (tgt := 41) dX5_endOfRun_23 (by decide) c4 ?_
          refine x_aload_n 0 dX5_endOfRun_26 rfl rfl ?_
          refine x_iload 4 dX5_endOfRun_27 rfl ?_
          obtain ⟨c5, h⟩ := x_ck h
          refine x_bald dX5_endOfRun_29 kk0 (xb_in c5) rfl ?_
          refine x_iload 3 dX5_endOfRun_30 rfl ?_
          rcases x_if h with ⟨c6, h⟩ | ⟨c6, h⟩
          · refine x_icmp_gt_t (tgt := 41) dX5_endOfRun_32 (by decide) c6 ?_
            refine x_iload 4 dX5_endOfRun_41 rfl ?_
            obtain rfl := x_so h
            exact x_iret dX5_endOfRun_43 rfl rfl rfl
          · refine x_icmp_gt_f (tgt := 41) dX5_endOfRun_32 (by decide) c6 ?_
            refine x_iinc (L' := [(0, .ref p_0), (1, .int v_1), (3, .int v_3), (4, .int v_4), (5, .int (v_5 + 1))]) 4 [1, 2, 3, 4, 0] dX5_endOfRun_35 rfl rfl (by decide) rfl ?_
            refine x_goto (tgt := 5) dX5_endOfRun_38 (by decide) ?_
            exact ih p_0 v_1 v_3 v_4 (v_5 + 1) N kk0 h
set_option maxHeartbeats 4000000 in
set_option maxRecDepth 100000 in
theorem T_X5_endOfRun {G : XG} {Y : XY} (hw : WT Y) {a0 : Nat} {a1 : Int32} {a2 : Int32} {a3 : Int32} {a4 : Int32} {N : XN} (k100 : kc Y a0 = 2) {r9 : Int32} (h : f_X5_endOfRun Y a0 a1 a2 a3 a4 N = some r9) : Cl G yX5_endOfRun cX5_endOfRun 6 (some .int) (xR 1 0 0) [.ref a0, .int a1, .int a2, .int a3, .int a4] (.inl (some (.int r9))) Y N Y N := by
  refine x_entry (by decide) (Nat.le_of_ble_eq_true rfl) rfl ?_
  rw [f_X5_endOfRun] at h
  refine x_iload_n 2 dX5_endOfRun_0 rfl rfl ?_
  refine x_iconst (v := 1) dX5_endOfRun_1 rfl ?_
  refine x_iadd dX5_endOfRun_2 ?_
  refine x_istore (L' := [(0, .ref a0), (1, .int a1), (3, .int a3), (4, .int a4), (5, .int (a2 + 1))]) [1, 2, 4, 5, 0] dX5_endOfRun_3 (by decide) rfl ?_
  exact T_X5_endOfRun_5 (G := G) hw FU a0 a1 a3 a4 (a2 + 1) N k100 h
set_option maxHeartbeats 4000000 in
set_option maxRecDepth 100000 in
theorem T_X5_spelling {G : XG} {Y : XY} (hw : WT Y) {a0 : Int32} {N : XN}  {r9 : Nat} (h : f_X5_spelling Y a0 N = r9) : Cl G yX5_spelling cX5_spelling 1 (some (.object "java/lang/String")) (xR 1 0 0) [.int a0] (.inl (some (.ref (xS G r9)))) Y N Y N := by
  refine x_entry (by decide) (Nat.le_of_ble_eq_true rfl) rfl ?_
  rw [f_X5_spelling] at h
  refine x_iload_n 0 dX5_spelling_0 rfl rfl ?_
  rcases x_if h with ⟨c1, h⟩ | ⟨c1, h⟩
  · refine x_swIn (off := 63) (tgt := 64) dX5_spelling_1 (by rw [c1]; decide) (by rw [c1]; decide) (by rw [c1]; rfl) (by decide) ?_
    refine x_ldcS (tx := "lines") (i := 0) dX5_spelling_64 (by decide) ?_
    subst h
    exact x_aret dX5_spelling_66 rfl rfl rfl
  · rcases x_if h with ⟨c2, h⟩ | ⟨c2, h⟩
    · refine x_swIn (off := 66) (tgt := 67) dX5_spelling_1 (by rw [c2]; decide) (by rw [c2]; decide) (by rw [c2]; rfl) (by decide) ?_
      refine x_ldcS (tx := "handler") (i := 1) dX5_spelling_67 (by decide) ?_
      subst h
      exact x_aret dX5_spelling_69 rfl rfl rfl
    · rcases x_if h with ⟨c3, h⟩ | ⟨c3, h⟩
      · refine x_swIn (off := 69) (tgt := 70) dX5_spelling_1 (by rw [c3]; decide) (by rw [c3]; decide) (by rw [c3]; rfl) (by decide) ?_
        refine x_ldcS (tx := "line") (i := 2) dX5_spelling_70 (by decide) ?_
        subst h
        exact x_aret dX5_spelling_72 rfl rfl rfl
      · rcases x_if h with ⟨c4, h⟩ | ⟨c4, h⟩
        · refine x_swIn (off := 72) (tgt := 73) dX5_spelling_1 (by rw [c4]; decide) (by rw [c4]; decide) (by rw [c4]; rfl) (by decide) ?_
          refine x_ldcS (tx := "raise") (i := 3) dX5_spelling_73 (by decide) ?_
          subst h
          exact x_aret dX5_spelling_75 rfl rfl rfl
        · rcases x_if h with ⟨c5, h⟩ | ⟨c5, h⟩
          · refine x_swIn (off := 75) (tgt := 76) dX5_spelling_1 (by rw [c5]; decide) (by rw [c5]; decide) (by rw [c5]; rfl) (by decide) ?_
            refine x_ldcS (tx := "patience") (i := 4) dX5_spelling_76 (by decide) ?_
            subst h
            exact x_aret dX5_spelling_78 rfl rfl rfl
          · rcases x_if h with ⟨c6, h⟩ | ⟨c6, h⟩
            · refine x_swIn (off := 78) (tgt := 79) dX5_spelling_1 (by rw [c6]; decide) (by rw [c6]; decide) (by rw [c6]; rfl) (by decide) ?_
              refine x_ldcS (tx := "window") (i := 5) dX5_spelling_79 (by decide) ?_
              subst h
              exact x_aret dX5_spelling_81 rfl rfl rfl
            · rcases x_if h with ⟨c7, h⟩ | ⟨c7, h⟩
              · refine x_swIn (off := 81) (tgt := 82) dX5_spelling_1 (by rw [c7]; decide) (by rw [c7]; decide) (by rw [c7]; rfl) (by decide) ?_
                refine x_ldcS (tx := "storm") (i := 6) dX5_spelling_82 (by decide) ?_
                subst h
                exact x_aret dX5_spelling_84 rfl rfl rfl
              · rcases x_if h with ⟨c8, h⟩ | ⟨c8, h⟩
                · refine x_swIn (off := 84) (tgt := 85) dX5_spelling_1 (by rw [c8]; decide) (by rw [c8]; decide) (by rw [c8]; rfl) (by decide) ?_
                  refine x_ldcS (tx := "period") (i := 7) dX5_spelling_85 (by decide) ?_
                  subst h
                  exact x_aret dX5_spelling_87 rfl rfl rfl
                · rcases x_if h with ⟨c9, h⟩ | ⟨c9, h⟩
                  · refine x_swIn (off := 87) (tgt := 88) dX5_spelling_1 (by rw [c9]; decide) (by rw [c9]; decide) (by rw [c9]; rfl) (by decide) ?_
                    refine x_ldcS (tx := "wage") (i := 8) dX5_spelling_88 (by decide) ?_
                    subst h
                    exact x_aret dX5_spelling_90 rfl rfl rfl
                  · rcases x_if h with ⟨c10, h⟩ | ⟨c10, h⟩
                    · refine x_swIn (off := 90) (tgt := 91) dX5_spelling_1 (by rw [c10]; decide) (by rw [c10]; decide) (by rw [c10]; rfl) (by decide) ?_
                      refine x_ldcS (tx := "fine") (i := 9) dX5_spelling_91 (by decide) ?_
                      subst h
                      exact x_aret dX5_spelling_93 rfl rfl rfl
                    · rcases x_if h with ⟨c11, h⟩ | ⟨c11, h⟩
                      · refine x_swIn (off := 93) (tgt := 94) dX5_spelling_1 (by rw [c11]; decide) (by rw [c11]; decide) (by rw [c11]; rfl) (by decide) ?_
                        refine x_ldcS (tx := "left") (i := 10) dX5_spelling_94 (by decide) ?_
                        subst h
                        exact x_aret dX5_spelling_96 rfl rfl rfl
                      · rcases x_if h with ⟨c12, h⟩ | ⟨c12, h⟩
                        · refine x_swIn (off := 96) (tgt := 97) dX5_spelling_1 (by rw [c12]; decide) (by rw [c12]; decide) (by rw [c12]; rfl) (by decide) ?_
                          refine x_ldcS (tx := "held") (i := 11) dX5_spelling_97 (by decide) ?_
                          subst h
                          exact x_aret dX5_spelling_99 rfl rfl rfl
                        · refine x_swOut (tgt := 100) dX5_spelling_1 (x_swo (fun z h1 h2 => by
                            rcases (show z = 10 ∨ z = 11 ∨ z = 12 ∨ z = 13 ∨ z = 14 ∨ z = 15 ∨ z = 16 ∨ z = 17 ∨ z = 18 ∨ z = 19 ∨ z = 20 ∨ z = 21 by omega) with rfl | rfl | rfl | rfl | rfl | rfl | rfl | rfl | rfl | rfl | rfl | rfl
                            · exact x_ti c1 rfl
                            · exact x_ti c2 rfl
                            · exact x_ti c3 rfl
                            · exact x_ti c4 rfl
                            · exact x_ti c5 rfl
                            · exact x_ti c6 rfl
                            · exact x_ti c7 rfl
                            · exact x_ti c8 rfl
                            · exact x_ti c9 rfl
                            · exact x_ti c10 rfl
                            · exact x_ti c11 rfl
                            · exact x_ti c12 rfl)) (by decide) ?_
                          refine x_ldcS (tx := "waited") (i := 12) dX5_spelling_100 (by decide) ?_
                          subst h
                          exact x_aret dX5_spelling_102 rfl rfl rfl
set_option maxHeartbeats 4000000 in
set_option maxRecDepth 100000 in
theorem T_X5_isWord_15 {G : XG} {Y : XY} (hw : WT Y) {r9 : Int32}: ∀ (D9 : Nat) (p_0 : Nat) (v_1 : Int32) (t_3 : Nat) (v_4 : Int32) (N : XN), kc Y p_0 = 2 → f_X5_isWord_15 Y D9 p_0 v_1 t_3 v_4 N = some r9 → Ex G yX5_isWord cX5_isWord 5 (some .boolean) (xR 8 0 0) (.inl (some (.int r9))) Y N 0 0 15 [(0, .ref p_0), (1, .int v_1), (3, .ref (xS G t_3)), (4, .int v_4)] [] Y N := by
  intro D9
  induction D9 with
  | zero => intro p_0 v_1 t_3 v_4 N kk0 h; exact nomatch (show none = some _ from h)
  | succ D9 ih =>
    intro p_0 v_1 t_3 v_4 N kk0 h
    rw [f_X5_isWord_15] at h
    refine x_iload 3 dX5_isWord_15 rfl ?_
    refine x_aload_n 2 dX5_isWord_17 rfl rfl ?_
    obtain ⟨c1, h⟩ := x_ck h
    refine x_slen dX5_isWord_18 js_X5_53 (Nat.lt_trans c1 (by decide)) (by decide) (Nat.le_of_ble_eq_true rfl) ⟨Nat.zero_le _, Nat.zero_le _⟩ ?_
    rcases x_if h with ⟨c2, h⟩ | ⟨c2, h⟩
    · refine x_icmp_ge_t (tgt := 47) dX5_isWord_21 (by decide) c2 ?_
      refine x_iconst (v := 1) dX5_isWord_47 rfl ?_
      obtain rfl := x_so h
      exact x_zret dX5_isWord_48 rfl (by decide) rfl rfl
    · refine x_icmp_ge_f (tgt := 47) dX5_isWord_21 (by decide) c2 ?_
      refine x_aload_n 0 dX5_isWord_24 rfl rfl ?_
      refine x_iload_n 1 dX5_isWord_25 rfl rfl ?_
      refine x_iload 3 dX5_isWord_26 rfl ?_
      refine x_iadd dX5_isWord_28 ?_
      obtain ⟨c3, h⟩ := x_ck h
      refine x_bald dX5_isWord_29 kk0 (xb_in c3) rfl ?_
      refine x_aload_n 2 dX5_isWord_30 rfl rfl ?_
      refine x_iload 3 dX5_isWord_31 rfl ?_
      obtain ⟨c4, h⟩ := x_ck h
      refine x_schar dX5_isWord_33 js_X5_59 (Nat.lt_trans c4.1 (by decide)) (xb_in c4.2) (by decide) (Nat.le_of_ble_eq_true rfl) ⟨Nat.zero_le _, Nat.zero_le _⟩ ?_
      rcases x_if h with ⟨c5, h⟩ | ⟨c5, h⟩
      · refine x_icmp_eq_t (tgt := 41) dX5_isWord_36 (by decide) c5 ?_
        refine x_iinc (L' := [(0, .ref p_0), (1, .int v_1), (3, .ref (xS G t_3)), (4, .int (v_4 + 1))]) 3 [1, 2, 3, 0] dX5_isWord_41 rfl rfl (by decide) rfl ?_
        refine x_goto (tgt := 15) dX5_isWord_44 (by decide) ?_
        exact ih p_0 v_1 t_3 (v_4 + 1) N kk0 h
      · refine x_icmp_eq_f (tgt := 41) dX5_isWord_36 (by decide) c5 ?_
        refine x_iconst (v := 0) dX5_isWord_39 rfl ?_
        obtain rfl := x_so h
        exact x_zret dX5_isWord_40 rfl (by decide) rfl rfl
set_option maxHeartbeats 4000000 in
set_option maxRecDepth 100000 in
theorem T_X5_isWord {G : XG} {Y : XY} (hw : WT Y) {a0 : Nat} {a1 : Int32} {a2 : Int32} {a3 : Nat} {N : XN} (k100 : kc Y a0 = 2) {r9 : Int32} (h : f_X5_isWord Y a0 a1 a2 a3 N = some r9) : Cl G yX5_isWord cX5_isWord 5 (some .boolean) (xR 8 0 0) [.ref a0, .int a1, .int a2, .ref (xS G a3)] (.inl (some (.int r9))) Y N Y N := by
  refine x_entry (by decide) (Nat.le_of_ble_eq_true rfl) rfl ?_
  rw [f_X5_isWord] at h
  refine x_iload_n 2 dX5_isWord_0 rfl rfl ?_
  refine x_iload_n 1 dX5_isWord_1 rfl rfl ?_
  refine x_isub dX5_isWord_2 ?_
  refine x_aload_n 3 dX5_isWord_3 rfl rfl ?_
  obtain ⟨c1, h⟩ := x_ck h
  refine x_slen dX5_isWord_4 js_X5_53 (Nat.lt_trans c1 (by decide)) (by decide) (Nat.le_of_ble_eq_true rfl) ⟨Nat.zero_le _, Nat.zero_le _⟩ ?_
  rcases x_if h with ⟨c2, h⟩ | ⟨c2, h⟩
  · refine x_icmp_eq_t (tgt := 12) dX5_isWord_7 (by decide) c2 ?_
    refine x_iconst (v := 0) dX5_isWord_12 rfl ?_
    refine x_istore (L' := [(0, .ref a0), (1, .int a1), (3, .ref (xS G a3)), (4, .int 0)]) [1, 2, 4, 0] dX5_isWord_13 (by decide) rfl ?_
    exact T_X5_isWord_15 (G := G) hw FU a0 a1 a3 0 N k100 h
  · refine x_icmp_eq_f (tgt := 12) dX5_isWord_7 (by decide) c2 ?_
    refine x_iconst (v := 0) dX5_isWord_10 rfl ?_
    obtain rfl := x_so h
    exact x_zret dX5_isWord_11 rfl (by decide) rfl rfl
set_option maxHeartbeats 4000000 in
set_option maxRecDepth 100000 in
theorem T_X5_wordKind_3 {G : XG} {Y : XY} (hw : WT Y) {r9 : Int32}: ∀ (D9 : Nat) (p_0 : Nat) (v_1 : Int32) (v_2 : Int32) (v_3 : Int32) (N : XN), kc Y p_0 = 2 → f_X5_wordKind_3 Y D9 p_0 v_1 v_2 v_3 N = some r9 → Ex G yX5_wordKind cX5_wordKind 4 (some .int) (xR 9 0 0) (.inl (some (.int r9))) Y N 0 0 3 [(0, .ref p_0), (1, .int v_1), (2, .int v_2), (3, .int v_3)] [] Y N := by
  intro D9
  induction D9 with
  | zero => intro p_0 v_1 v_2 v_3 N kk0 h; exact nomatch (show none = some _ from h)
  | succ D9 ih =>
    intro p_0 v_1 v_2 v_3 N kk0 h
    rw [f_X5_wordKind_3] at h
    refine x_iload_n 3 dX5_wordKind_3 rfl rfl ?_
    refine x_bipush (v := 23) dX5_wordKind_4 rfl ?_
    rcases x_if h with ⟨c1, h⟩ | ⟨c1, h⟩
    · refine x_icmp_ge_t (tgt := 30) dX5_wordKind_6 (by decide) c1 ?_
      refine x_bipush (v := 23) dX5_wordKind_30 rfl ?_
      obtain rfl := x_so h
      exact x_iret dX5_wordKind_32 rfl rfl rfl
    · refine x_icmp_ge_f (tgt := 30) dX5_wordKind_6 (by decide) c1 ?_
      refine x_aload_n 0 dX5_wordKind_9 rfl rfl ?_
      refine x_iload_n 1 dX5_wordKind_10 rfl rfl ?_
      refine x_iload_n 2 dX5_wordKind_11 rfl rfl ?_
      refine x_iload_n 3 dX5_wordKind_12 rfl rfl ?_
      refine x_cs (As := [.int v_3]) (d' := 1) (zz := yX5_spelling) dX5_wordKind_13 ml_X5_45 wt_X5_spelling wn_X5 wc_X5_spelling hp_X5_spelling (by decide) (by decide) rfl (Nat.le_of_ble_eq_true rfl) ⟨Nat.zero_le _, Nat.zero_le _⟩ (T_X5_spelling (G := G) hw  rfl) ?_
      obtain ⟨r3, q2, h⟩ := x_bd1 h
      refine x_cs (As := [.ref p_0, .int v_1, .int v_2, .ref (xS G (f_X5_spelling Y v_3 N))]) (d' := 8) (zz := yX5_isWord) dX5_wordKind_16 ml_X5_49 wt_X5_isWord wn_X5 wc_X5_isWord hp_X5_isWord (by decide) (by decide) rfl (Nat.le_of_ble_eq_true rfl) ⟨Nat.zero_le _, Nat.zero_le _⟩ (T_X5_isWord (G := G) hw kk0 q2) ?_
      rcases x_if h with ⟨c4, h⟩ | ⟨c4, h⟩
      · refine x_if_eq_t (tgt := 24) dX5_wordKind_19 (by decide) c4 ?_
        refine x_iinc (L' := [(0, .ref p_0), (1, .int v_1), (2, .int v_2), (3, .int (v_3 + 1))]) 3 [1, 2, 3, 0] dX5_wordKind_24 rfl rfl (by decide) rfl ?_
        refine x_goto (tgt := 3) dX5_wordKind_27 (by decide) ?_
        exact ih p_0 v_1 v_2 (v_3 + 1) N kk0 h
      · refine x_if_eq_f (tgt := 24) dX5_wordKind_19 (by decide) c4 ?_
        refine x_iload_n 3 dX5_wordKind_22 rfl rfl ?_
        obtain rfl := x_so h
        exact x_iret dX5_wordKind_23 rfl rfl rfl
set_option maxHeartbeats 4000000 in
set_option maxRecDepth 100000 in
theorem T_X5_wordKind {G : XG} {Y : XY} (hw : WT Y) {a0 : Nat} {a1 : Int32} {a2 : Int32} {N : XN} (k100 : kc Y a0 = 2) {r9 : Int32} (h : f_X5_wordKind Y a0 a1 a2 N = some r9) : Cl G yX5_wordKind cX5_wordKind 4 (some .int) (xR 9 0 0) [.ref a0, .int a1, .int a2] (.inl (some (.int r9))) Y N Y N := by
  refine x_entry (by decide) (Nat.le_of_ble_eq_true rfl) rfl ?_
  rw [f_X5_wordKind] at h
  refine x_bipush (v := 10) dX5_wordKind_0 rfl ?_
  refine x_istore_n (L' := [(0, .ref a0), (1, .int a1), (2, .int a2), (3, .int 10)]) [1, 2, 3, 0] dX5_wordKind_2 rfl (by decide) rfl ?_
  exact T_X5_wordKind_3 (G := G) hw FU a0 a1 a2 10 N k100 h
set_option maxHeartbeats 4000000 in
set_option maxRecDepth 100000 in
theorem T_X5_addToken {G : XG} {Y : XY} (hw : WT Y) {a0 : Nat} {a1 : Int32} {a2 : Int32} {a3 : Int32} {N : XN} (k100 : kc Y a0 = 15) {N9 : XN} (h : f_X5_addToken Y a0 a1 a2 a3 N = some N9) : Cl G yX5_addToken cX5_addToken 4 none (xR 1 0 0) [.ref a0, .int a1, .int a2, .int a3] (.inl none) Y N Y N9 := by
  refine x_entry (by decide) (Nat.le_of_ble_eq_true rfl) rfl ?_
  rw [f_X5_addToken] at h
  refine x_aload_n 0 dX5_addToken_0 rfl rfl ?_
  refine x_geti dX5_addToken_1 vc_X5 xin5 fb_X5_3 fl_X5_21 xr_X5_3 k100 ?_
  refine x_aload_n 0 dX5_addToken_4 rfl rfl ?_
  obtain ⟨g1, k2, n3⟩ := wt_X5_0 hw k100
  refine x_getr dX5_addToken_5 vc_X5 xin5 fb_X5_0 fl_X5_9 xr_X5_0 k100 g1 ?_
  refine x_ilen dX5_addToken_8 k2 (congrArg Int32.ofNat n3) ?_
  rcases x_if h with ⟨c4, h⟩ | ⟨c4, h⟩
  · refine x_icmp_ge_t (tgt := 52) dX5_addToken_9 (by decide) c4 ?_
    obtain rfl := x_so h
    exact x_vret dX5_addToken_52 rfl rfl rfl
  · refine x_icmp_ge_f (tgt := 52) dX5_addToken_9 (by decide) c4 ?_
    refine x_aload_n 0 dX5_addToken_12 rfl rfl ?_
    refine x_getr dX5_addToken_13 vc_X5 xin5 fb_X5_0 fl_X5_9 xr_X5_0 k100 g1 ?_
    refine x_aload_n 0 dX5_addToken_16 rfl rfl ?_
    refine x_geti dX5_addToken_17 vc_X5 xin5 fb_X5_3 fl_X5_21 xr_X5_3 k100 ?_
    refine x_iload_n 1 dX5_addToken_20 rfl rfl ?_
    obtain ⟨c5, h⟩ := x_ck h
    refine x_iast dX5_addToken_21 k2 (xb_at n3 c5) rfl ?_
    obtain ⟨N6, eN6, h⟩ := x_lt h
    refine x_nmN eN6 ?_
    refine x_aload_n 0 dX5_addToken_22 rfl rfl ?_
    obtain ⟨g7, k8, n9⟩ := wt_X5_1 hw k100
    refine x_getr dX5_addToken_23 vc_X5 xin5 fb_X5_1 fl_X5_15 xr_X5_1 k100 g7 ?_
    refine x_aload_n 0 dX5_addToken_26 rfl rfl ?_
    refine x_geti dX5_addToken_27 vc_X5 xin5 fb_X5_3 fl_X5_21 xr_X5_3 k100 ?_
    refine x_iload_n 2 dX5_addToken_30 rfl rfl ?_
    obtain ⟨c10, h⟩ := x_ck h
    refine x_iast dX5_addToken_31 k8 (xb_at n9 c10) rfl ?_
    obtain ⟨N11, eN11, h⟩ := x_lt h
    refine x_nmN eN11 ?_
    refine x_aload_n 0 dX5_addToken_32 rfl rfl ?_
    obtain ⟨g12, k13, n14⟩ := wt_X5_2 hw k100
    refine x_getr dX5_addToken_33 vc_X5 xin5 fb_X5_2 fl_X5_18 xr_X5_2 k100 g12 ?_
    refine x_aload_n 0 dX5_addToken_36 rfl rfl ?_
    refine x_geti dX5_addToken_37 vc_X5 xin5 fb_X5_3 fl_X5_21 xr_X5_3 k100 ?_
    refine x_iload_n 3 dX5_addToken_40 rfl rfl ?_
    obtain ⟨c15, h⟩ := x_ck h
    refine x_iast dX5_addToken_41 k13 (xb_at n14 c15) rfl ?_
    obtain ⟨N16, eN16, h⟩ := x_lt h
    refine x_nmN eN16 ?_
    refine x_aload_n 0 dX5_addToken_42 rfl rfl ?_
    refine x_dup dX5_addToken_43 rfl ?_
    refine x_geti dX5_addToken_44 vc_X5 xin5 fb_X5_3 fl_X5_21 xr_X5_3 k100 ?_
    refine x_iconst (v := 1) dX5_addToken_47 rfl ?_
    refine x_iadd dX5_addToken_48 ?_
    refine x_puti dX5_addToken_49 vc_X5 xin5 tyX5_ok nmX5 fb_X5_3 fl_X5_21 ff_X5_3 xr_X5_3 (nf_X5_3 _) (ft_X5_3 _) k100 ?_
    obtain ⟨N17, eN17, h⟩ := x_lt h
    refine x_nmN eN17 ?_
    obtain rfl := x_so h
    exact x_vret dX5_addToken_52 rfl rfl rfl
set_option maxHeartbeats 4000000 in
set_option maxRecDepth 100000 in
theorem T_X5_numberIn_5 {G : XG} {Y : XY} (hw : WT Y) {r9 : Int32}: ∀ (D9 : Nat) (p_0 : Nat) (v_2 : Int32) (v_3 : Int32) (v_4 : Int32) (N : XN), kc Y p_0 = 2 → f_X5_numberIn_5 Y D9 p_0 v_2 v_3 v_4 N = some r9 → Ex G yX5_numberIn cX5_numberIn 5 (some .int) (xR 1 0 0) (.inl (some (.int r9))) Y N 0 0 5 [(0, .ref p_0), (2, .int v_2), (3, .int v_3), (4, .int v_4)] [] Y N := by
  intro D9
  induction D9 with
  | zero => intro p_0 v_2 v_3 v_4 N kk0 h; exact nomatch (show none = some _ from h)
  | succ D9 ih =>
    intro p_0 v_2 v_3 v_4 N kk0 h
    rw [f_X5_numberIn_5] at h
    refine x_iload 3 dX5_numberIn_5 rfl ?_
    refine x_iload_n 1 dX5_numberIn_7 rfl rfl ?_
    rcases x_if h with ⟨c1, h⟩ | ⟨c1, h⟩
    · refine x_icmp_ge_t (tgt := 39) dX5_numberIn_8 (by decide) c1 ?_
      refine x_iload_n 2 dX5_numberIn_39 rfl rfl ?_
      obtain rfl := x_so h
      exact x_iret dX5_numberIn_40 rfl rfl rfl
    · refine x_icmp_ge_f (tgt := 39) dX5_numberIn_8 (by decide) c1 ?_
      refine x_iload_n 2 dX5_numberIn_11 rfl rfl ?_
      refine x_bipush (v := 10) dX5_numberIn_12 rfl ?_
      refine x_imul dX5_numberIn_14 ?_
      refine x_aload_n 0 dX5_numberIn_15 rfl rfl ?_
      refine x_iload 3 dX5_numberIn_16 rfl ?_
      obtain ⟨c2, h⟩ := x_ck h
      refine x_bald dX5_numberIn_18 kk0 (xb_in c2) rfl ?_
      refine x_bipush (v := 48) dX5_numberIn_19 rfl ?_
      refine x_isub dX5_numberIn_21 ?_
      refine x_iadd dX5_numberIn_22 ?_
      obtain ⟨v3, ev3, h⟩ := x_lt h
      refine x_nmi ev3 ?_
      refine x_istore_n (L' := [(0, .ref p_0), (2, .int v_2), (3, .int v3), (4, .int v_4)]) [1, 2, 0, 3] dX5_numberIn_23 rfl (by decide) rfl ?_
      refine x_iload_n 2 dX5_numberIn_24 rfl rfl ?_
      refine x_ldc (v := 100000) dX5_numberIn_25 kc_X5_44 ?_
      rcases x_if h with ⟨c4, h⟩ | ⟨c4, h⟩
      · refine x_icmp_le_t (tgt := 33) dX5_numberIn_27 (by decide) c4 ?_
        refine x_iinc (L' := [(0, .ref p_0), (2, .int v_2), (3, .int v3), (4, .int (v_4 + 1))]) 3 [1, 2, 3, 0] dX5_numberIn_33 rfl rfl (by decide) rfl ?_
        refine x_goto (tgt := 5) dX5_numberIn_36 (by decide) ?_
        exact ih p_0 v_2 v3 (v_4 + 1) N kk0 h
      · refine x_icmp_le_f (tgt := 33) dX5_numberIn_27 (by decide) c4 ?_
        refine x_ldc (v := 100000) dX5_numberIn_30 kc_X5_44 ?_
        refine x_istore_n (L' := [(0, .ref p_0), (2, .int v_2), (3, .int 100000), (4, .int v_4)]) [1, 2, 0, 3] dX5_numberIn_32 rfl (by decide) rfl ?_
        refine x_iinc (L' := [(0, .ref p_0), (2, .int v_2), (3, .int 100000), (4, .int (v_4 + 1))]) 3 [1, 2, 3, 0] dX5_numberIn_33 rfl rfl (by decide) rfl ?_
        refine x_goto (tgt := 5) dX5_numberIn_36 (by decide) ?_
        exact ih p_0 v_2 100000 (v_4 + 1) N kk0 h
set_option maxHeartbeats 4000000 in
set_option maxRecDepth 100000 in
theorem T_X5_numberIn {G : XG} {Y : XY} (hw : WT Y) {a0 : Nat} {a1 : Int32} {a2 : Int32} {N : XN} (k100 : kc Y a0 = 2) {r9 : Int32} (h : f_X5_numberIn Y a0 a1 a2 N = some r9) : Cl G yX5_numberIn cX5_numberIn 5 (some .int) (xR 1 0 0) [.ref a0, .int a1, .int a2] (.inl (some (.int r9))) Y N Y N := by
  refine x_entry (by decide) (Nat.le_of_ble_eq_true rfl) rfl ?_
  rw [f_X5_numberIn] at h
  refine x_iconst (v := 0) dX5_numberIn_0 rfl ?_
  refine x_istore_n (L' := [(0, .ref a0), (1, .int a1), (2, .int a2), (3, .int 0)]) [1, 2, 3, 0] dX5_numberIn_1 rfl (by decide) rfl ?_
  refine x_iload_n 1 dX5_numberIn_2 rfl rfl ?_
  refine x_istore (L' := [(0, .ref a0), (2, .int a2), (3, .int 0), (4, .int a1)]) [1, 3, 4, 0] dX5_numberIn_3 (by decide) rfl ?_
  exact T_X5_numberIn_5 (G := G) hw FU a0 a2 0 a1 N k100 h
set_option maxHeartbeats 4000000 in
set_option maxRecDepth 100000 in
theorem T_X5_signKind {G : XG} {Y : XY} (hw : WT Y) {a0 : Int32} {N : XN}  {r9 : Int32} (h : f_X5_signKind Y a0 N = r9) : Cl G yX5_signKind cX5_signKind 1 (some .int) (xR 1 0 0) [.int a0] (.inl (some (.int r9))) Y N Y N := by
  refine x_entry (by decide) (Nat.le_of_ble_eq_true rfl) rfl ?_
  rw [f_X5_signKind] at h
  refine x_iload_n 0 dX5_signKind_0 rfl rfl ?_
  rcases x_if h with ⟨c1, h⟩ | ⟨c1, h⟩
  · refine x_swIn (off := 97) (tgt := 98) dX5_signKind_1 (by rw [c1]; decide) (by rw [c1]; decide) (by rw [c1]; rfl) (by decide) ?_
    refine x_iconst (v := 4) dX5_signKind_98 rfl ?_
    subst h
    exact x_iret dX5_signKind_99 rfl rfl rfl
  · rcases x_if h with ⟨c2, h⟩ | ⟨c2, h⟩
    · refine x_swIn (off := 99) (tgt := 100) dX5_signKind_1 (by rw [c2]; decide) (by rw [c2]; decide) (by rw [c2]; rfl) (by decide) ?_
      refine x_iconst (v := 5) dX5_signKind_100 rfl ?_
      subst h
      exact x_iret dX5_signKind_101 rfl rfl rfl
    · rcases x_if h with ⟨c3, h⟩ | ⟨c3, h⟩
      · refine x_swIn (off := 107) (tgt := 108) dX5_signKind_1 (by rw [c3]; decide) (by rw [c3]; decide) (by rw [c3]; rfl) (by decide) ?_
        refine x_bipush (v := 8) dX5_signKind_108 rfl ?_
        subst h
        exact x_iret dX5_signKind_110 rfl rfl rfl
      · rcases x_if h with ⟨c4, h⟩ | ⟨c4, h⟩
        · refine x_swIn (off := 101) (tgt := 102) dX5_signKind_1 (by rw [c4]; decide) (by rw [c4]; decide) (by rw [c4]; rfl) (by decide) ?_
          refine x_bipush (v := 6) dX5_signKind_102 rfl ?_
          subst h
          exact x_iret dX5_signKind_104 rfl rfl rfl
        · rcases x_if h with ⟨c5, h⟩ | ⟨c5, h⟩
          · refine x_swIn (off := 113) (tgt := 114) dX5_signKind_1 (by rw [c5]; decide) (by rw [c5]; decide) (by rw [c5]; rfl) (by decide) ?_
            refine x_iconst (v := 1) dX5_signKind_114 rfl ?_
            subst h
            exact x_iret dX5_signKind_115 rfl rfl rfl
          · rcases x_if h with ⟨c6, h⟩ | ⟨c6, h⟩
            · refine x_swIn (off := 104) (tgt := 105) dX5_signKind_1 (by rw [c6]; decide) (by rw [c6]; decide) (by rw [c6]; rfl) (by decide) ?_
              refine x_bipush (v := 7) dX5_signKind_105 rfl ?_
              subst h
              exact x_iret dX5_signKind_107 rfl rfl rfl
            · rcases x_if h with ⟨c7, h⟩ | ⟨c7, h⟩
              · refine x_swIn (off := 113) (tgt := 114) dX5_signKind_1 (by rw [c7]; decide) (by rw [c7]; decide) (by rw [c7]; rfl) (by decide) ?_
                refine x_iconst (v := 1) dX5_signKind_114 rfl ?_
                subst h
                exact x_iret dX5_signKind_115 rfl rfl rfl
              · rcases x_if h with ⟨c8, h⟩ | ⟨c8, h⟩
                · refine x_swIn (off := 110) (tgt := 111) dX5_signKind_1 (by rw [c8]; decide) (by rw [c8]; decide) (by rw [c8]; rfl) (by decide) ?_
                  refine x_bipush (v := 9) dX5_signKind_111 rfl ?_
                  subst h
                  exact x_iret dX5_signKind_113 rfl rfl rfl
                · rcases x_if h with ⟨c9, h⟩ | ⟨c9, h⟩
                  · refine x_swIn (off := 113) (tgt := 114) dX5_signKind_1 (by rw [c9]; decide) (by rw [c9]; decide) (by rw [c9]; rfl) (by decide) ?_
                    refine x_iconst (v := 1) dX5_signKind_114 rfl ?_
                    subst h
                    exact x_iret dX5_signKind_115 rfl rfl rfl
                  · rcases x_if h with ⟨c10, h⟩ | ⟨c10, h⟩
                    · refine x_swIn (off := 113) (tgt := 114) dX5_signKind_1 (by rw [c10]; decide) (by rw [c10]; decide) (by rw [c10]; rfl) (by decide) ?_
                      refine x_iconst (v := 1) dX5_signKind_114 rfl ?_
                      subst h
                      exact x_iret dX5_signKind_115 rfl rfl rfl
                    · rcases x_if h with ⟨c11, h⟩ | ⟨c11, h⟩
                      · refine x_swIn (off := 113) (tgt := 114) dX5_signKind_1 (by rw [c11]; decide) (by rw [c11]; decide) (by rw [c11]; rfl) (by decide) ?_
                        refine x_iconst (v := 1) dX5_signKind_114 rfl ?_
                        subst h
                        exact x_iret dX5_signKind_115 rfl rfl rfl
                      · rcases x_if h with ⟨c12, h⟩ | ⟨c12, h⟩
                        · refine x_swIn (off := 113) (tgt := 114) dX5_signKind_1 (by rw [c12]; decide) (by rw [c12]; decide) (by rw [c12]; rfl) (by decide) ?_
                          refine x_iconst (v := 1) dX5_signKind_114 rfl ?_
                          subst h
                          exact x_iret dX5_signKind_115 rfl rfl rfl
                        · rcases x_if h with ⟨c13, h⟩ | ⟨c13, h⟩
                          · refine x_swIn (off := 113) (tgt := 114) dX5_signKind_1 (by rw [c13]; decide) (by rw [c13]; decide) (by rw [c13]; rfl) (by decide) ?_
                            refine x_iconst (v := 1) dX5_signKind_114 rfl ?_
                            subst h
                            exact x_iret dX5_signKind_115 rfl rfl rfl
                          · rcases x_if h with ⟨c14, h⟩ | ⟨c14, h⟩
                            · refine x_swIn (off := 113) (tgt := 114) dX5_signKind_1 (by rw [c14]; decide) (by rw [c14]; decide) (by rw [c14]; rfl) (by decide) ?_
                              refine x_iconst (v := 1) dX5_signKind_114 rfl ?_
                              subst h
                              exact x_iret dX5_signKind_115 rfl rfl rfl
                            · rcases x_if h with ⟨c15, h⟩ | ⟨c15, h⟩
                              · refine x_swIn (off := 113) (tgt := 114) dX5_signKind_1 (by rw [c15]; decide) (by rw [c15]; decide) (by rw [c15]; rfl) (by decide) ?_
                                refine x_iconst (v := 1) dX5_signKind_114 rfl ?_
                                subst h
                                exact x_iret dX5_signKind_115 rfl rfl rfl
                              · rcases x_if h with ⟨c16, h⟩ | ⟨c16, h⟩
                                · refine x_swIn (off := 113) (tgt := 114) dX5_signKind_1 (by rw [c16]; decide) (by rw [c16]; decide) (by rw [c16]; rfl) (by decide) ?_
                                  refine x_iconst (v := 1) dX5_signKind_114 rfl ?_
                                  subst h
                                  exact x_iret dX5_signKind_115 rfl rfl rfl
                                · rcases x_if h with ⟨c17, h⟩ | ⟨c17, h⟩
                                  · refine x_swIn (off := 113) (tgt := 114) dX5_signKind_1 (by rw [c17]; decide) (by rw [c17]; decide) (by rw [c17]; rfl) (by decide) ?_
                                    refine x_iconst (v := 1) dX5_signKind_114 rfl ?_
                                    subst h
                                    exact x_iret dX5_signKind_115 rfl rfl rfl
                                  · rcases x_if h with ⟨c18, h⟩ | ⟨c18, h⟩
                                    · refine x_swIn (off := 113) (tgt := 114) dX5_signKind_1 (by rw [c18]; decide) (by rw [c18]; decide) (by rw [c18]; rfl) (by decide) ?_
                                      refine x_iconst (v := 1) dX5_signKind_114 rfl ?_
                                      subst h
                                      exact x_iret dX5_signKind_115 rfl rfl rfl
                                    · rcases x_if h with ⟨c19, h⟩ | ⟨c19, h⟩
                                      · refine x_swIn (off := 113) (tgt := 114) dX5_signKind_1 (by rw [c19]; decide) (by rw [c19]; decide) (by rw [c19]; rfl) (by decide) ?_
                                        refine x_iconst (v := 1) dX5_signKind_114 rfl ?_
                                        subst h
                                        exact x_iret dX5_signKind_115 rfl rfl rfl
                                      · rcases x_if h with ⟨c20, h⟩ | ⟨c20, h⟩
                                        · refine x_swIn (off := 95) (tgt := 96) dX5_signKind_1 (by rw [c20]; decide) (by rw [c20]; decide) (by rw [c20]; rfl) (by decide) ?_
                                          refine x_iconst (v := 3) dX5_signKind_96 rfl ?_
                                          subst h
                                          exact x_iret dX5_signKind_97 rfl rfl rfl
                                        · refine x_swOut (tgt := 114) dX5_signKind_1 (x_swo (fun z h1 h2 => by
                                            rcases (show z = 40 ∨ z = 41 ∨ z = 42 ∨ z = 43 ∨ z = 44 ∨ z = 45 ∨ z = 46 ∨ z = 47 ∨ z = 48 ∨ z = 49 ∨ z = 50 ∨ z = 51 ∨ z = 52 ∨ z = 53 ∨ z = 54 ∨ z = 55 ∨ z = 56 ∨ z = 57 ∨ z = 58 ∨ z = 59 by omega) with rfl | rfl | rfl | rfl | rfl | rfl | rfl | rfl | rfl | rfl | rfl | rfl | rfl | rfl | rfl | rfl | rfl | rfl | rfl | rfl
                                            · exact x_ti c1 rfl
                                            · exact x_ti c2 rfl
                                            · exact x_ti c3 rfl
                                            · exact x_ti c4 rfl
                                            · exact x_ti c5 rfl
                                            · exact x_ti c6 rfl
                                            · exact x_ti c7 rfl
                                            · exact x_ti c8 rfl
                                            · exact x_ti c9 rfl
                                            · exact x_ti c10 rfl
                                            · exact x_ti c11 rfl
                                            · exact x_ti c12 rfl
                                            · exact x_ti c13 rfl
                                            · exact x_ti c14 rfl
                                            · exact x_ti c15 rfl
                                            · exact x_ti c16 rfl
                                            · exact x_ti c17 rfl
                                            · exact x_ti c18 rfl
                                            · exact x_ti c19 rfl
                                            · exact x_ti c20 rfl)) (by decide) ?_
                                          refine x_iconst (v := 1) dX5_signKind_114 rfl ?_
                                          subst h
                                          exact x_iret dX5_signKind_115 rfl rfl rfl
set_option maxHeartbeats 4000000 in
set_option maxRecDepth 100000 in
theorem T_X5_split_10 {G : XG} {Y : XY} (hw : WT Y) {N9 : XN}: ∀ (D9 : Nat) (p_0 : Nat) (p_1 : Nat) (v_2 : Int32) (v_3 : Int32) (v_4 : Int32) (N : XN), kc Y p_0 = 15 → kc Y p_1 = 2 → f_X5_split_10 Y D9 p_0 p_1 v_2 v_3 v_4 N = some N9 → Ex G yX5_split cX5_split 6 none (xR 10 0 0) (.inl none) Y N9 0 0 10 [(0, .ref p_0), (1, .ref p_1), (2, .int v_2), (3, .int v_3), (4, .int v_4)] [] Y N := by
  intro D9
  induction D9 with
  | zero => intro p_0 p_1 v_2 v_3 v_4 N kk0 kk1 h; exact nomatch (show none = some _ from h)
  | succ D9 ih =>
    intro p_0 p_1 v_2 v_3 v_4 N kk0 kk1 h
    rw [f_X5_split_10] at h
    refine x_iload 4 dX5_split_10 rfl ?_
    refine x_sipush (v := 700) dX5_split_12 rfl ?_
    rcases x_if h with ⟨c1, h⟩ | ⟨c1, h⟩
    · refine x_icmp_ge_t (tgt := 151) dX5_split_15 (by decide) c1 ?_
      refine x_aload_n 0 dX5_split_151 rfl rfl ?_
      refine x_iconst (v := 0) dX5_split_152 rfl ?_
      refine x_iload_n 2 dX5_split_153 rfl rfl ?_
      refine x_iconst (v := 0) dX5_split_154 rfl ?_
      obtain ⟨N3, q2, h⟩ := x_bd1 h
      refine x_cv (b := p_0) (As := [.int 0, .int v_2, .int 0]) (ci := 5) (d' := 1) (zz := yX5_addToken) dX5_split_155 ml_X5_33 wi_X5_addToken wv_X5_addToken wn_X5 wc_X5_addToken hp_X5_addToken (by decide) (by decide) rfl (Nat.le_of_ble_eq_true rfl) ⟨Nat.zero_le _, Nat.zero_le _⟩ rfl kk0 (T_X5_addToken (G := G) hw kk0 q2) ?_
      obtain rfl := x_so h
      exact x_vret dX5_split_158 rfl rfl rfl
    · refine x_icmp_ge_f (tgt := 151) dX5_split_15 (by decide) c1 ?_
      refine x_iload_n 3 dX5_split_18 rfl rfl ?_
      refine x_iload_n 2 dX5_split_19 rfl rfl ?_
      rcases x_if h with ⟨c4, h⟩ | ⟨c4, h⟩
      · refine x_icmp_ge_t (tgt := 151) dX5_split_20 (by decide) c4 ?_
        refine x_aload_n 0 dX5_split_151 rfl rfl ?_
        refine x_iconst (v := 0) dX5_split_152 rfl ?_
        refine x_iload_n 2 dX5_split_153 rfl rfl ?_
        refine x_iconst (v := 0) dX5_split_154 rfl ?_
        obtain ⟨N6, q5, h⟩ := x_bd1 h
        refine x_cv (b := p_0) (As := [.int 0, .int v_2, .int 0]) (ci := 5) (d' := 1) (zz := yX5_addToken) dX5_split_155 ml_X5_33 wi_X5_addToken wv_X5_addToken wn_X5 wc_X5_addToken hp_X5_addToken (by decide) (by decide) rfl (Nat.le_of_ble_eq_true rfl) ⟨Nat.zero_le _, Nat.zero_le _⟩ rfl kk0 (T_X5_addToken (G := G) hw kk0 q5) ?_
        obtain rfl := x_so h
        exact x_vret dX5_split_158 rfl rfl rfl
      · refine x_icmp_ge_f (tgt := 151) dX5_split_20 (by decide) c4 ?_
        refine x_iload_n 3 dX5_split_23 rfl rfl ?_
        refine x_aload_n 1 dX5_split_24 rfl rfl ?_
        refine x_blen dX5_split_25 kk1 rfl ?_
        rcases x_if h with ⟨c7, h⟩ | ⟨c7, h⟩
        · refine x_icmp_ge_t (tgt := 151) dX5_split_26 (by decide) c7 ?_
          refine x_aload_n 0 dX5_split_151 rfl rfl ?_
          refine x_iconst (v := 0) dX5_split_152 rfl ?_
          refine x_iload_n 2 dX5_split_153 rfl rfl ?_
          refine x_iconst (v := 0) dX5_split_154 rfl ?_
          obtain ⟨N9, q8, h⟩ := x_bd1 h
          refine x_cv (b := p_0) (As := [.int 0, .int v_2, .int 0]) (ci := 5) (d' := 1) (zz := yX5_addToken) dX5_split_155 ml_X5_33 wi_X5_addToken wv_X5_addToken wn_X5 wc_X5_addToken hp_X5_addToken (by decide) (by decide) rfl (Nat.le_of_ble_eq_true rfl) ⟨Nat.zero_le _, Nat.zero_le _⟩ rfl kk0 (T_X5_addToken (G := G) hw kk0 q8) ?_
          obtain rfl := x_so h
          exact x_vret dX5_split_158 rfl rfl rfl
        · refine x_icmp_ge_f (tgt := 151) dX5_split_26 (by decide) c7 ?_
          refine x_iload_n 3 dX5_split_29 rfl rfl ?_
          refine x_iconst (v := 1) dX5_split_30 rfl ?_
          refine x_iadd dX5_split_31 ?_
          refine x_istore (L' := [(0, .ref p_0), (1, .ref p_1), (2, .int v_2), (3, .int v_3), (4, .int v_4), (5, .int (v_3 + 1))]) [1, 2, 3, 4, 5, 0] dX5_split_32 (by decide) rfl ?_
          refine x_aload_n 1 dX5_split_34 rfl rfl ?_
          refine x_iload_n 3 dX5_split_35 rfl rfl ?_
          obtain ⟨c10, h⟩ := x_ck h
          refine x_bald dX5_split_36 kk1 (xb_in c10) rfl ?_
          refine x_bipush (v := 97) dX5_split_37 rfl ?_
          rcases x_if h with ⟨c11, h⟩ | ⟨c11, h⟩
          · refine x_icmp_lt_t (tgt := 78) dX5_split_39 (by decide) c11 ?_
            refine x_aload_n 1 dX5_split_78 rfl rfl ?_
            refine x_iload_n 3 dX5_split_79 rfl rfl ?_
            obtain ⟨c12, h⟩ := x_ck h
            refine x_bald dX5_split_80 kk1 (xb_in c12) rfl ?_
            refine x_bipush (v := 48) dX5_split_81 rfl ?_
            rcases x_if h with ⟨c13, h⟩ | ⟨c13, h⟩
            · refine x_icmp_lt_t (tgt := 122) dX5_split_83 (by decide) c13 ?_
              refine x_aload_n 1 dX5_split_122 rfl rfl ?_
              refine x_iload_n 3 dX5_split_123 rfl rfl ?_
              obtain ⟨c14, h⟩ := x_ck h
              refine x_bald dX5_split_124 kk1 (xb_in c14) rfl ?_
              refine x_bipush (v := 32) dX5_split_125 rfl ?_
              rcases x_if h with ⟨c15, h⟩ | ⟨c15, h⟩
              · refine x_icmp_eq_t (tgt := 142) dX5_split_127 (by decide) c15 ?_
                refine x_iload 5 dX5_split_142 rfl ?_
                refine x_istore_n (L' := [(0, .ref p_0), (1, .ref p_1), (2, .int v_2), (3, .int (v_3 + 1)), (4, .int v_4)]) [1, 2, 3, 0, 4] dX5_split_144 rfl (by decide) rfl ?_
                refine x_iinc (L' := [(0, .ref p_0), (1, .ref p_1), (2, .int v_2), (3, .int (v_3 + 1)), (4, .int (v_4 + 1))]) 4 [1, 2, 3, 4, 0] dX5_split_145 rfl rfl (by decide) rfl ?_
                refine x_goto (tgt := 10) dX5_split_148 (by decide) ?_
                exact ih p_0 p_1 v_2 (v_3 + 1) (v_4 + 1) N kk0 kk1 h
              · refine x_icmp_eq_f (tgt := 142) dX5_split_127 (by decide) c15 ?_
                refine x_aload_n 0 dX5_split_130 rfl rfl ?_
                refine x_aload_n 1 dX5_split_131 rfl rfl ?_
                refine x_iload_n 3 dX5_split_132 rfl rfl ?_
                obtain ⟨c16, h⟩ := x_ck h
                refine x_bald dX5_split_133 kk1 (xb_in c16) rfl ?_
                refine x_cs (As := [.int (gi N p_1 v_3.toNatClampNeg)]) (d' := 1) (zz := yX5_signKind) dX5_split_134 ml_X5_40 wt_X5_signKind wn_X5 wc_X5_signKind hp_X5_signKind (by decide) (by decide) rfl (Nat.le_of_ble_eq_true rfl) ⟨Nat.zero_le _, Nat.zero_le _⟩ (T_X5_signKind (G := G) hw  rfl) ?_
                refine x_iload_n 3 dX5_split_137 rfl rfl ?_
                refine x_iconst (v := 0) dX5_split_138 rfl ?_
                obtain ⟨N18, q17, h⟩ := x_bd1 h
                refine x_cv (b := p_0) (As := [.int (f_X5_signKind Y (gi N p_1 v_3.toNatClampNeg) N), .int v_3, .int 0]) (ci := 5) (d' := 1) (zz := yX5_addToken) dX5_split_139 ml_X5_33 wi_X5_addToken wv_X5_addToken wn_X5 wc_X5_addToken hp_X5_addToken (by decide) (by decide) rfl (Nat.le_of_ble_eq_true rfl) ⟨Nat.zero_le _, Nat.zero_le _⟩ rfl kk0 (T_X5_addToken (G := G) hw kk0 q17) ?_
                refine x_iload 5 dX5_split_142 rfl ?_
                refine x_istore_n (L' := [(0, .ref p_0), (1, .ref p_1), (2, .int v_2), (3, .int (v_3 + 1)), (4, .int v_4)]) [1, 2, 3, 0, 4] dX5_split_144 rfl (by decide) rfl ?_
                refine x_iinc (L' := [(0, .ref p_0), (1, .ref p_1), (2, .int v_2), (3, .int (v_3 + 1)), (4, .int (v_4 + 1))]) 4 [1, 2, 3, 4, 0] dX5_split_145 rfl rfl (by decide) rfl ?_
                refine x_goto (tgt := 10) dX5_split_148 (by decide) ?_
                exact ih p_0 p_1 v_2 (v_3 + 1) (v_4 + 1) N18 kk0 kk1 h
            · refine x_icmp_lt_f (tgt := 122) dX5_split_83 (by decide) c13 ?_
              refine x_aload_n 1 dX5_split_86 rfl rfl ?_
              refine x_iload_n 3 dX5_split_87 rfl rfl ?_
              obtain ⟨c19, h⟩ := x_ck h
              refine x_bald dX5_split_88 kk1 (xb_in c19) rfl ?_
              refine x_bipush (v := 57) dX5_split_89 rfl ?_
              rcases x_if h with ⟨c20, h⟩ | ⟨c20, h⟩
              · refine x_icmp_gt_t (tgt := 122) dX5_split_91 (by decide) c20 ?_
                refine x_aload_n 1 dX5_split_122 rfl rfl ?_
                refine x_iload_n 3 dX5_split_123 rfl rfl ?_
                obtain ⟨c21, h⟩ := x_ck h
                refine x_bald dX5_split_124 kk1 (xb_in c21) rfl ?_
                refine x_bipush (v := 32) dX5_split_125 rfl ?_
                rcases x_if h with ⟨c22, h⟩ | ⟨c22, h⟩
                · refine x_icmp_eq_t (tgt := 142) dX5_split_127 (by decide) c22 ?_
                  refine x_iload 5 dX5_split_142 rfl ?_
                  refine x_istore_n (L' := [(0, .ref p_0), (1, .ref p_1), (2, .int v_2), (3, .int (v_3 + 1)), (4, .int v_4)]) [1, 2, 3, 0, 4] dX5_split_144 rfl (by decide) rfl ?_
                  refine x_iinc (L' := [(0, .ref p_0), (1, .ref p_1), (2, .int v_2), (3, .int (v_3 + 1)), (4, .int (v_4 + 1))]) 4 [1, 2, 3, 4, 0] dX5_split_145 rfl rfl (by decide) rfl ?_
                  refine x_goto (tgt := 10) dX5_split_148 (by decide) ?_
                  exact ih p_0 p_1 v_2 (v_3 + 1) (v_4 + 1) N kk0 kk1 h
                · refine x_icmp_eq_f (tgt := 142) dX5_split_127 (by decide) c22 ?_
                  refine x_aload_n 0 dX5_split_130 rfl rfl ?_
                  refine x_aload_n 1 dX5_split_131 rfl rfl ?_
                  refine x_iload_n 3 dX5_split_132 rfl rfl ?_
                  obtain ⟨c23, h⟩ := x_ck h
                  refine x_bald dX5_split_133 kk1 (xb_in c23) rfl ?_
                  refine x_cs (As := [.int (gi N p_1 v_3.toNatClampNeg)]) (d' := 1) (zz := yX5_signKind) dX5_split_134 ml_X5_40 wt_X5_signKind wn_X5 wc_X5_signKind hp_X5_signKind (by decide) (by decide) rfl (Nat.le_of_ble_eq_true rfl) ⟨Nat.zero_le _, Nat.zero_le _⟩ (T_X5_signKind (G := G) hw  rfl) ?_
                  refine x_iload_n 3 dX5_split_137 rfl rfl ?_
                  refine x_iconst (v := 0) dX5_split_138 rfl ?_
                  obtain ⟨N25, q24, h⟩ := x_bd1 h
                  refine x_cv (b := p_0) (As := [.int (f_X5_signKind Y (gi N p_1 v_3.toNatClampNeg) N), .int v_3, .int 0]) (ci := 5) (d' := 1) (zz := yX5_addToken) dX5_split_139 ml_X5_33 wi_X5_addToken wv_X5_addToken wn_X5 wc_X5_addToken hp_X5_addToken (by decide) (by decide) rfl (Nat.le_of_ble_eq_true rfl) ⟨Nat.zero_le _, Nat.zero_le _⟩ rfl kk0 (T_X5_addToken (G := G) hw kk0 q24) ?_
                  refine x_iload 5 dX5_split_142 rfl ?_
                  refine x_istore_n (L' := [(0, .ref p_0), (1, .ref p_1), (2, .int v_2), (3, .int (v_3 + 1)), (4, .int v_4)]) [1, 2, 3, 0, 4] dX5_split_144 rfl (by decide) rfl ?_
                  refine x_iinc (L' := [(0, .ref p_0), (1, .ref p_1), (2, .int v_2), (3, .int (v_3 + 1)), (4, .int (v_4 + 1))]) 4 [1, 2, 3, 4, 0] dX5_split_145 rfl rfl (by decide) rfl ?_
                  refine x_goto (tgt := 10) dX5_split_148 (by decide) ?_
                  exact ih p_0 p_1 v_2 (v_3 + 1) (v_4 + 1) N25 kk0 kk1 h
              · refine x_icmp_gt_f (tgt := 122) dX5_split_91 (by decide) c20 ?_
                refine x_aload_n 1 dX5_split_94 rfl rfl ?_
                refine x_iload_n 2 dX5_split_95 rfl rfl ?_
                refine x_iload_n 3 dX5_split_96 rfl rfl ?_
                refine x_bipush (v := 48) dX5_split_97 rfl ?_
                refine x_bipush (v := 57) dX5_split_99 rfl ?_
                obtain ⟨r27, q26, h⟩ := x_bd1 h
                refine x_cs (As := [.ref p_1, .int v_2, .int v_3, .int 48, .int 57]) (d' := 1) (zz := yX5_endOfRun) dX5_split_101 ml_X5_25 wt_X5_endOfRun wn_X5 wc_X5_endOfRun hp_X5_endOfRun (by decide) (by decide) rfl (Nat.le_of_ble_eq_true rfl) ⟨Nat.zero_le _, Nat.zero_le _⟩ (T_X5_endOfRun (G := G) hw kk1 q26) ?_
                refine x_istore (L' := [(0, .ref p_0), (1, .ref p_1), (2, .int v_2), (3, .int v_3), (4, .int v_4), (5, .int r27)]) [1, 2, 3, 4, 5, 0] dX5_split_104 (by decide) rfl ?_
                refine x_aload_n 0 dX5_split_106 rfl rfl ?_
                refine x_iconst (v := 2) dX5_split_107 rfl ?_
                refine x_iload_n 3 dX5_split_108 rfl rfl ?_
                refine x_aload_n 1 dX5_split_109 rfl rfl ?_
                refine x_iload_n 3 dX5_split_110 rfl rfl ?_
                refine x_iload 5 dX5_split_111 rfl ?_
                obtain ⟨r29, q28, h⟩ := x_bd1 h
                refine x_cs (As := [.ref p_1, .int v_3, .int r27]) (d' := 1) (zz := yX5_numberIn) dX5_split_113 ml_X5_37 wt_X5_numberIn wn_X5 wc_X5_numberIn hp_X5_numberIn (by decide) (by decide) rfl (Nat.le_of_ble_eq_true rfl) ⟨Nat.zero_le _, Nat.zero_le _⟩ (T_X5_numberIn (G := G) hw kk1 q28) ?_
                obtain ⟨N31, q30, h⟩ := x_bd1 h
                refine x_cv (b := p_0) (As := [.int 2, .int v_3, .int r29]) (ci := 5) (d' := 1) (zz := yX5_addToken) dX5_split_116 ml_X5_33 wi_X5_addToken wv_X5_addToken wn_X5 wc_X5_addToken hp_X5_addToken (by decide) (by decide) rfl (Nat.le_of_ble_eq_true rfl) ⟨Nat.zero_le _, Nat.zero_le _⟩ rfl kk0 (T_X5_addToken (G := G) hw kk0 q30) ?_
                refine x_goto (tgt := 142) dX5_split_119 (by decide) ?_
                refine x_iload 5 dX5_split_142 rfl ?_
                refine x_istore_n (L' := [(0, .ref p_0), (1, .ref p_1), (2, .int v_2), (3, .int r27), (4, .int v_4)]) [1, 2, 3, 0, 4] dX5_split_144 rfl (by decide) rfl ?_
                refine x_iinc (L' := [(0, .ref p_0), (1, .ref p_1), (2, .int v_2), (3, .int r27), (4, .int (v_4 + 1))]) 4 [1, 2, 3, 4, 0] dX5_split_145 rfl rfl (by decide) rfl ?_
                refine x_goto (tgt := 10) dX5_split_148 (by decide) ?_
                exact ih p_0 p_1 v_2 r27 (v_4 + 1) N31 kk0 kk1 h
          · refine x_icmp_lt_f (tgt := 78) dX5_split_39 (by decide) c11 ?_
            refine x_aload_n 1 dX5_split_42 rfl rfl ?_
            refine x_iload_n 3 dX5_split_43 rfl rfl ?_
            obtain ⟨c32, h⟩ := x_ck h
            refine x_bald dX5_split_44 kk1 (xb_in c32) rfl ?_
            refine x_bipush (v := 122) dX5_split_45 rfl ?_
            rcases x_if h with ⟨c33, h⟩ | ⟨c33, h⟩
            · refine x_icmp_gt_t (tgt := 78) dX5_split_47 (by decide) c33 ?_
              refine x_aload_n 1 dX5_split_78 rfl rfl ?_
              refine x_iload_n 3 dX5_split_79 rfl rfl ?_
              obtain ⟨c34, h⟩ := x_ck h
              refine x_bald dX5_split_80 kk1 (xb_in c34) rfl ?_
              refine x_bipush (v := 48) dX5_split_81 rfl ?_
              rcases x_if h with ⟨c35, h⟩ | ⟨c35, h⟩
              · refine x_icmp_lt_t (tgt := 122) dX5_split_83 (by decide) c35 ?_
                refine x_aload_n 1 dX5_split_122 rfl rfl ?_
                refine x_iload_n 3 dX5_split_123 rfl rfl ?_
                obtain ⟨c36, h⟩ := x_ck h
                refine x_bald dX5_split_124 kk1 (xb_in c36) rfl ?_
                refine x_bipush (v := 32) dX5_split_125 rfl ?_
                rcases x_if h with ⟨c37, h⟩ | ⟨c37, h⟩
                · refine x_icmp_eq_t (tgt := 142) dX5_split_127 (by decide) c37 ?_
                  refine x_iload 5 dX5_split_142 rfl ?_
                  refine x_istore_n (L' := [(0, .ref p_0), (1, .ref p_1), (2, .int v_2), (3, .int (v_3 + 1)), (4, .int v_4)]) [1, 2, 3, 0, 4] dX5_split_144 rfl (by decide) rfl ?_
                  refine x_iinc (L' := [(0, .ref p_0), (1, .ref p_1), (2, .int v_2), (3, .int (v_3 + 1)), (4, .int (v_4 + 1))]) 4 [1, 2, 3, 4, 0] dX5_split_145 rfl rfl (by decide) rfl ?_
                  refine x_goto (tgt := 10) dX5_split_148 (by decide) ?_
                  exact ih p_0 p_1 v_2 (v_3 + 1) (v_4 + 1) N kk0 kk1 h
                · refine x_icmp_eq_f (tgt := 142) dX5_split_127 (by decide) c37 ?_
                  refine x_aload_n 0 dX5_split_130 rfl rfl ?_
                  refine x_aload_n 1 dX5_split_131 rfl rfl ?_
                  refine x_iload_n 3 dX5_split_132 rfl rfl ?_
                  obtain ⟨c38, h⟩ := x_ck h
                  refine x_bald dX5_split_133 kk1 (xb_in c38) rfl ?_
                  refine x_cs (As := [.int (gi N p_1 v_3.toNatClampNeg)]) (d' := 1) (zz := yX5_signKind) dX5_split_134 ml_X5_40 wt_X5_signKind wn_X5 wc_X5_signKind hp_X5_signKind (by decide) (by decide) rfl (Nat.le_of_ble_eq_true rfl) ⟨Nat.zero_le _, Nat.zero_le _⟩ (T_X5_signKind (G := G) hw  rfl) ?_
                  refine x_iload_n 3 dX5_split_137 rfl rfl ?_
                  refine x_iconst (v := 0) dX5_split_138 rfl ?_
                  obtain ⟨N40, q39, h⟩ := x_bd1 h
                  refine x_cv (b := p_0) (As := [.int (f_X5_signKind Y (gi N p_1 v_3.toNatClampNeg) N), .int v_3, .int 0]) (ci := 5) (d' := 1) (zz := yX5_addToken) dX5_split_139 ml_X5_33 wi_X5_addToken wv_X5_addToken wn_X5 wc_X5_addToken hp_X5_addToken (by decide) (by decide) rfl (Nat.le_of_ble_eq_true rfl) ⟨Nat.zero_le _, Nat.zero_le _⟩ rfl kk0 (T_X5_addToken (G := G) hw kk0 q39) ?_
                  refine x_iload 5 dX5_split_142 rfl ?_
                  refine x_istore_n (L' := [(0, .ref p_0), (1, .ref p_1), (2, .int v_2), (3, .int (v_3 + 1)), (4, .int v_4)]) [1, 2, 3, 0, 4] dX5_split_144 rfl (by decide) rfl ?_
                  refine x_iinc (L' := [(0, .ref p_0), (1, .ref p_1), (2, .int v_2), (3, .int (v_3 + 1)), (4, .int (v_4 + 1))]) 4 [1, 2, 3, 4, 0] dX5_split_145 rfl rfl (by decide) rfl ?_
                  refine x_goto (tgt := 10) dX5_split_148 (by decide) ?_
                  exact ih p_0 p_1 v_2 (v_3 + 1) (v_4 + 1) N40 kk0 kk1 h
              · refine x_icmp_lt_f (tgt := 122) dX5_split_83 (by decide) c35 ?_
                refine x_aload_n 1 dX5_split_86 rfl rfl ?_
                refine x_iload_n 3 dX5_split_87 rfl rfl ?_
                obtain ⟨c41, h⟩ := x_ck h
                refine x_bald dX5_split_88 kk1 (xb_in c41) rfl ?_
                refine x_bipush (v := 57) dX5_split_89 rfl ?_
                rcases x_if h with ⟨c42, h⟩ | ⟨c42, h⟩
                · refine x_icmp_gt_t (tgt := 122) dX5_split_91 (by decide) c42 ?_
                  refine x_aload_n 1 dX5_split_122 rfl rfl ?_
                  refine x_iload_n 3 dX5_split_123 rfl rfl ?_
                  obtain ⟨c43, h⟩ := x_ck h
                  refine x_bald dX5_split_124 kk1 (xb_in c43) rfl ?_
                  refine x_bipush (v := 32) dX5_split_125 rfl ?_
                  rcases x_if h with ⟨c44, h⟩ | ⟨c44, h⟩
                  · refine x_icmp_eq_t (tgt := 142) dX5_split_127 (by decide) c44 ?_
                    refine x_iload 5 dX5_split_142 rfl ?_
                    refine x_istore_n (L' := [(0, .ref p_0), (1, .ref p_1), (2, .int v_2), (3, .int (v_3 + 1)), (4, .int v_4)]) [1, 2, 3, 0, 4] dX5_split_144 rfl (by decide) rfl ?_
                    refine x_iinc (L' := [(0, .ref p_0), (1, .ref p_1), (2, .int v_2), (3, .int (v_3 + 1)), (4, .int (v_4 + 1))]) 4 [1, 2, 3, 4, 0] dX5_split_145 rfl rfl (by decide) rfl ?_
                    refine x_goto (tgt := 10) dX5_split_148 (by decide) ?_
                    exact ih p_0 p_1 v_2 (v_3 + 1) (v_4 + 1) N kk0 kk1 h
                  · refine x_icmp_eq_f (tgt := 142) dX5_split_127 (by decide) c44 ?_
                    refine x_aload_n 0 dX5_split_130 rfl rfl ?_
                    refine x_aload_n 1 dX5_split_131 rfl rfl ?_
                    refine x_iload_n 3 dX5_split_132 rfl rfl ?_
                    obtain ⟨c45, h⟩ := x_ck h
                    refine x_bald dX5_split_133 kk1 (xb_in c45) rfl ?_
                    refine x_cs (As := [.int (gi N p_1 v_3.toNatClampNeg)]) (d' := 1) (zz := yX5_signKind) dX5_split_134 ml_X5_40 wt_X5_signKind wn_X5 wc_X5_signKind hp_X5_signKind (by decide) (by decide) rfl (Nat.le_of_ble_eq_true rfl) ⟨Nat.zero_le _, Nat.zero_le _⟩ (T_X5_signKind (G := G) hw  rfl) ?_
                    refine x_iload_n 3 dX5_split_137 rfl rfl ?_
                    refine x_iconst (v := 0) dX5_split_138 rfl ?_
                    obtain ⟨N47, q46, h⟩ := x_bd1 h
                    refine x_cv (b := p_0) (As := [.int (f_X5_signKind Y (gi N p_1 v_3.toNatClampNeg) N), .int v_3, .int 0]) (ci := 5) (d' := 1) (zz := yX5_addToken) dX5_split_139 ml_X5_33 wi_X5_addToken wv_X5_addToken wn_X5 wc_X5_addToken hp_X5_addToken (by decide) (by decide) rfl (Nat.le_of_ble_eq_true rfl) ⟨Nat.zero_le _, Nat.zero_le _⟩ rfl kk0 (T_X5_addToken (G := G) hw kk0 q46) ?_
                    refine x_iload 5 dX5_split_142 rfl ?_
                    refine x_istore_n (L' := [(0, .ref p_0), (1, .ref p_1), (2, .int v_2), (3, .int (v_3 + 1)), (4, .int v_4)]) [1, 2, 3, 0, 4] dX5_split_144 rfl (by decide) rfl ?_
                    refine x_iinc (L' := [(0, .ref p_0), (1, .ref p_1), (2, .int v_2), (3, .int (v_3 + 1)), (4, .int (v_4 + 1))]) 4 [1, 2, 3, 4, 0] dX5_split_145 rfl rfl (by decide) rfl ?_
                    refine x_goto (tgt := 10) dX5_split_148 (by decide) ?_
                    exact ih p_0 p_1 v_2 (v_3 + 1) (v_4 + 1) N47 kk0 kk1 h
                · refine x_icmp_gt_f (tgt := 122) dX5_split_91 (by decide) c42 ?_
                  refine x_aload_n 1 dX5_split_94 rfl rfl ?_
                  refine x_iload_n 2 dX5_split_95 rfl rfl ?_
                  refine x_iload_n 3 dX5_split_96 rfl rfl ?_
                  refine x_bipush (v := 48) dX5_split_97 rfl ?_
                  refine x_bipush (v := 57) dX5_split_99 rfl ?_
                  obtain ⟨r49, q48, h⟩ := x_bd1 h
                  refine x_cs (As := [.ref p_1, .int v_2, .int v_3, .int 48, .int 57]) (d' := 1) (zz := yX5_endOfRun) dX5_split_101 ml_X5_25 wt_X5_endOfRun wn_X5 wc_X5_endOfRun hp_X5_endOfRun (by decide) (by decide) rfl (Nat.le_of_ble_eq_true rfl) ⟨Nat.zero_le _, Nat.zero_le _⟩ (T_X5_endOfRun (G := G) hw kk1 q48) ?_
                  refine x_istore (L' := [(0, .ref p_0), (1, .ref p_1), (2, .int v_2), (3, .int v_3), (4, .int v_4), (5, .int r49)]) [1, 2, 3, 4, 5, 0] dX5_split_104 (by decide) rfl ?_
                  refine x_aload_n 0 dX5_split_106 rfl rfl ?_
                  refine x_iconst (v := 2) dX5_split_107 rfl ?_
                  refine x_iload_n 3 dX5_split_108 rfl rfl ?_
                  refine x_aload_n 1 dX5_split_109 rfl rfl ?_
                  refine x_iload_n 3 dX5_split_110 rfl rfl ?_
                  refine x_iload 5 dX5_split_111 rfl ?_
                  obtain ⟨r51, q50, h⟩ := x_bd1 h
                  refine x_cs (As := [.ref p_1, .int v_3, .int r49]) (d' := 1) (zz := yX5_numberIn) dX5_split_113 ml_X5_37 wt_X5_numberIn wn_X5 wc_X5_numberIn hp_X5_numberIn (by decide) (by decide) rfl (Nat.le_of_ble_eq_true rfl) ⟨Nat.zero_le _, Nat.zero_le _⟩ (T_X5_numberIn (G := G) hw kk1 q50) ?_
                  obtain ⟨N53, q52, h⟩ := x_bd1 h
                  refine x_cv (b := p_0) (As := [.int 2, .int v_3, .int r51]) (ci := 5) (d' := 1) (zz := yX5_addToken) dX5_split_116 ml_X5_33 wi_X5_addToken wv_X5_addToken wn_X5 wc_X5_addToken hp_X5_addToken (by decide) (by decide) rfl (Nat.le_of_ble_eq_true rfl) ⟨Nat.zero_le _, Nat.zero_le _⟩ rfl kk0 (T_X5_addToken (G := G) hw kk0 q52) ?_
                  refine x_goto (tgt := 142) dX5_split_119 (by decide) ?_
                  refine x_iload 5 dX5_split_142 rfl ?_
                  refine x_istore_n (L' := [(0, .ref p_0), (1, .ref p_1), (2, .int v_2), (3, .int r49), (4, .int v_4)]) [1, 2, 3, 0, 4] dX5_split_144 rfl (by decide) rfl ?_
                  refine x_iinc (L' := [(0, .ref p_0), (1, .ref p_1), (2, .int v_2), (3, .int r49), (4, .int (v_4 + 1))]) 4 [1, 2, 3, 4, 0] dX5_split_145 rfl rfl (by decide) rfl ?_
                  refine x_goto (tgt := 10) dX5_split_148 (by decide) ?_
                  exact ih p_0 p_1 v_2 r49 (v_4 + 1) N53 kk0 kk1 h
            · refine x_icmp_gt_f (tgt := 78) dX5_split_47 (by decide) c33 ?_
              refine x_aload_n 1 dX5_split_50 rfl rfl ?_
              refine x_iload_n 2 dX5_split_51 rfl rfl ?_
              refine x_iload_n 3 dX5_split_52 rfl rfl ?_
              refine x_bipush (v := 97) dX5_split_53 rfl ?_
              refine x_bipush (v := 122) dX5_split_55 rfl ?_
              obtain ⟨r55, q54, h⟩ := x_bd1 h
              refine x_cs (As := [.ref p_1, .int v_2, .int v_3, .int 97, .int 122]) (d' := 1) (zz := yX5_endOfRun) dX5_split_57 ml_X5_25 wt_X5_endOfRun wn_X5 wc_X5_endOfRun hp_X5_endOfRun (by decide) (by decide) rfl (Nat.le_of_ble_eq_true rfl) ⟨Nat.zero_le _, Nat.zero_le _⟩ (T_X5_endOfRun (G := G) hw kk1 q54) ?_
              refine x_istore (L' := [(0, .ref p_0), (1, .ref p_1), (2, .int v_2), (3, .int v_3), (4, .int v_4), (5, .int r55)]) [1, 2, 3, 4, 5, 0] dX5_split_60 (by decide) rfl ?_
              refine x_aload_n 0 dX5_split_62 rfl rfl ?_
              refine x_aload_n 1 dX5_split_63 rfl rfl ?_
              refine x_iload_n 3 dX5_split_64 rfl rfl ?_
              refine x_iload 5 dX5_split_65 rfl ?_
              obtain ⟨r57, q56, h⟩ := x_bd1 h
              refine x_cs (As := [.ref p_1, .int v_3, .int r55]) (d' := 9) (zz := yX5_wordKind) dX5_split_67 ml_X5_29 wt_X5_wordKind wn_X5 wc_X5_wordKind hp_X5_wordKind (by decide) (by decide) rfl (Nat.le_of_ble_eq_true rfl) ⟨Nat.zero_le _, Nat.zero_le _⟩ (T_X5_wordKind (G := G) hw kk1 q56) ?_
              refine x_iload_n 3 dX5_split_70 rfl rfl ?_
              refine x_iconst (v := 0) dX5_split_71 rfl ?_
              obtain ⟨N59, q58, h⟩ := x_bd1 h
              refine x_cv (b := p_0) (As := [.int r57, .int v_3, .int 0]) (ci := 5) (d' := 1) (zz := yX5_addToken) dX5_split_72 ml_X5_33 wi_X5_addToken wv_X5_addToken wn_X5 wc_X5_addToken hp_X5_addToken (by decide) (by decide) rfl (Nat.le_of_ble_eq_true rfl) ⟨Nat.zero_le _, Nat.zero_le _⟩ rfl kk0 (T_X5_addToken (G := G) hw kk0 q58) ?_
              refine x_goto (tgt := 142) dX5_split_75 (by decide) ?_
              refine x_iload 5 dX5_split_142 rfl ?_
              refine x_istore_n (L' := [(0, .ref p_0), (1, .ref p_1), (2, .int v_2), (3, .int r55), (4, .int v_4)]) [1, 2, 3, 0, 4] dX5_split_144 rfl (by decide) rfl ?_
              refine x_iinc (L' := [(0, .ref p_0), (1, .ref p_1), (2, .int v_2), (3, .int r55), (4, .int (v_4 + 1))]) 4 [1, 2, 3, 4, 0] dX5_split_145 rfl rfl (by decide) rfl ?_
              refine x_goto (tgt := 10) dX5_split_148 (by decide) ?_
              exact ih p_0 p_1 v_2 r55 (v_4 + 1) N59 kk0 kk1 h
set_option maxHeartbeats 4000000 in
set_option maxRecDepth 100000 in
theorem T_X5_split {G : XG} {Y : XY} (hw : WT Y) {a0 : Nat} {a1 : Nat} {a2 : Int32} {N : XN} (k100 : kc Y a0 = 15) (k101 : kc Y a1 = 2) {N9 : XN} (h : f_X5_split Y a0 a1 a2 N = some N9) : Cl G yX5_split cX5_split 6 none (xR 10 0 0) [.ref a0, .ref a1, .int a2] (.inl none) Y N Y N9 := by
  refine x_entry (by decide) (Nat.le_of_ble_eq_true rfl) rfl ?_
  rw [f_X5_split] at h
  refine x_aload_n 0 dX5_split_0 rfl rfl ?_
  refine x_iconst (v := 0) dX5_split_1 rfl ?_
  refine x_puti dX5_split_2 vc_X5 xin5 tyX5_ok nmX5 fb_X5_3 fl_X5_21 ff_X5_3 xr_X5_3 (nf_X5_3 _) (ft_X5_3 _) k100 ?_
  obtain ⟨N1, eN1, h⟩ := x_lt h
  refine x_nmN eN1 ?_
  refine x_iconst (v := 0) dX5_split_5 rfl ?_
  refine x_istore_n (L' := [(0, .ref a0), (1, .ref a1), (2, .int a2), (3, .int 0)]) [1, 2, 3, 0] dX5_split_6 rfl (by decide) rfl ?_
  refine x_iconst (v := 0) dX5_split_7 rfl ?_
  refine x_istore (L' := [(0, .ref a0), (1, .ref a1), (2, .int a2), (3, .int 0), (4, .int 0)]) [1, 2, 3, 4, 0] dX5_split_8 (by decide) rfl ?_
  exact T_X5_split_10 (G := G) hw FU a0 a1 a2 0 0 N1 k100 k101 h

