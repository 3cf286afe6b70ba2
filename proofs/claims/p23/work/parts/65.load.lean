set_option maxHeartbeats 4000000 in
set_option maxRecDepth 100000 in
theorem T_X4_reads_63 {G : XG} {Y : XY} (hw : WT Y) {r9 : Int32} {N9 : XN}: ∀ (D9 : Nat) (p_0 : Nat) (v_3 : Int32) (v_4 : Int32) (N : XN), kc Y p_0 = 14 → WR Y p_0 → f_X4_reads_63 Y D9 p_0 v_3 v_4 N = some (r9, N9) → Ex G yX4_reads cX4_reads 5 (some .boolean) (xR 29 0 0) (.inl (some (.int r9))) Y N9 0 0 63 [(0, .ref p_0), (3, .int v_3), (4, .int v_4)] [] Y N := by
  intro D9
  induction D9 with
  | zero => intro p_0 v_3 v_4 N kk0 hr h; exact nomatch (show none = some _ from h)
  | succ D9 ih =>
    intro p_0 v_3 v_4 N kk0 hr h
    rw [f_X4_reads_63] at h
    refine x_iload 2 dX4_reads_63 rfl ?_
    refine x_sipush (v := 700) dX4_reads_65 rfl ?_
    rcases x_if h with ⟨c1, h⟩ | ⟨c1, h⟩
    · refine x_icmp_ge_t (tgt := 109) dX4_reads_68 (by decide) c1 ?_
      refine x_iload_n 1 dX4_reads_109 rfl rfl ?_
      obtain ⟨c2, h⟩ := x_ck h
      obtain ⟨rfl, rfl⟩ := Prod.mk.inj (x_so h)
      exact x_zret dX4_reads_110 rfl (xz_or c2) rfl rfl
    · refine x_icmp_ge_f (tgt := 109) dX4_reads_68 (by decide) c1 ?_
      refine x_iload_n 1 dX4_reads_71 rfl rfl ?_
      rcases x_if h with ⟨c3, h⟩ | ⟨c3, h⟩
      · refine x_if_eq_t (tgt := 109) dX4_reads_72 (by decide) c3 ?_
        refine x_iload_n 1 dX4_reads_109 rfl rfl ?_
        obtain ⟨c4, h⟩ := x_ck h
        obtain ⟨rfl, rfl⟩ := Prod.mk.inj (x_so h)
        exact x_zret dX4_reads_110 rfl (xz_or c4) rfl rfl
      · refine x_if_eq_f (tgt := 109) dX4_reads_72 (by decide) c3 ?_
        refine x_aload_n 0 dX4_reads_75 rfl rfl ?_
        obtain ⟨r6, q5, h⟩ := x_bd1 h
        refine x_cv (b := p_0) (As := []) (ci := 4) (d' := 1) (zz := yX4_kind) dX4_reads_76 ml_X4_41 wi_X4_kind wv_X4_kind wn_X4 wc_X4_kind hp_X4_kind (by decide) (by decide) rfl (Nat.le_of_ble_eq_true rfl) ⟨Nat.zero_le _, Nat.zero_le _⟩ rfl kk0 (T_X4_kind (G := G) hw kk0 hr q5) ?_
        rcases x_if h with ⟨c7, h⟩ | ⟨c7, h⟩
        · refine x_if_eq_t (tgt := 109) dX4_reads_79 (by decide) c7 ?_
          refine x_iload_n 1 dX4_reads_109 rfl rfl ?_
          obtain ⟨c8, h⟩ := x_ck h
          obtain ⟨rfl, rfl⟩ := Prod.mk.inj (x_so h)
          exact x_zret dX4_reads_110 rfl (xz_or c8) rfl rfl
        · refine x_if_eq_f (tgt := 109) dX4_reads_79 (by decide) c7 ?_
          refine x_aload_n 0 dX4_reads_82 rfl rfl ?_
          obtain ⟨r10, N11, q9, h⟩ := x_bd2 h
          refine x_cv (b := p_0) (As := []) (ci := 4) (d' := 28) (zz := yX4_readsStatement) dX4_reads_83 ml_X4_45 wi_X4_readsStatement wv_X4_readsStatement wn_X4 wc_X4_readsStatement hp_X4_readsStatement (by decide) (by decide) rfl (Nat.le_of_ble_eq_true rfl) ⟨Nat.zero_le _, Nat.zero_le _⟩ rfl kk0 (T_X4_readsStatement (G := G) hw kk0 hr q9) ?_
          rcases x_if h with ⟨c12, h⟩ | ⟨c12, h⟩
          · refine x_if_eq_t (tgt := 101) dX4_reads_86 (by decide) c12 ?_
            refine x_iconst (v := 0) dX4_reads_101 rfl ?_
            refine x_istore_n (L' := [(0, .ref p_0), (3, .int 0), (4, .int v_4)]) [1, 0, 2] dX4_reads_102 rfl (by decide) rfl ?_
            refine x_iinc (L' := [(0, .ref p_0), (3, .int 0), (4, .int (v_4 + 1))]) 2 [1, 2, 0] dX4_reads_103 rfl rfl (by decide) rfl ?_
            refine x_goto (tgt := 63) dX4_reads_106 (by decide) ?_
            exact ih p_0 0 (v_4 + 1) N11 kk0 hr h
          · refine x_if_eq_f (tgt := 101) dX4_reads_86 (by decide) c12 ?_
            refine x_aload_n 0 dX4_reads_89 rfl rfl ?_
            refine x_iconst (v := 3) dX4_reads_90 rfl ?_
            obtain ⟨r14, N15, q13, h⟩ := x_bd2 h
            refine x_cv (b := p_0) (As := [.int 3]) (ci := 4) (d' := 2) (zz := yX4_takes) dX4_reads_91 ml_X4_37 wi_X4_takes wv_X4_takes wn_X4 wc_X4_takes hp_X4_takes (by decide) (by decide) rfl (Nat.le_of_ble_eq_true rfl) ⟨Nat.zero_le _, Nat.zero_le _⟩ rfl kk0 (T_X4_takes (G := G) hw kk0 hr q13) ?_
            rcases x_if h with ⟨c16, h⟩ | ⟨c16, h⟩
            · refine x_if_eq_t (tgt := 101) dX4_reads_94 (by decide) c16 ?_
              refine x_iconst (v := 0) dX4_reads_101 rfl ?_
              refine x_istore_n (L' := [(0, .ref p_0), (3, .int 0), (4, .int v_4)]) [1, 0, 2] dX4_reads_102 rfl (by decide) rfl ?_
              refine x_iinc (L' := [(0, .ref p_0), (3, .int 0), (4, .int (v_4 + 1))]) 2 [1, 2, 0] dX4_reads_103 rfl rfl (by decide) rfl ?_
              refine x_goto (tgt := 63) dX4_reads_106 (by decide) ?_
              exact ih p_0 0 (v_4 + 1) N15 kk0 hr h
            · refine x_if_eq_f (tgt := 101) dX4_reads_94 (by decide) c16 ?_
              refine x_iconst (v := 1) dX4_reads_97 rfl ?_
              refine x_goto (tgt := 102) dX4_reads_98 (by decide) ?_
              refine x_istore_n (L' := [(0, .ref p_0), (3, .int 1), (4, .int v_4)]) [1, 0, 2] dX4_reads_102 rfl (by decide) rfl ?_
              refine x_iinc (L' := [(0, .ref p_0), (3, .int 1), (4, .int (v_4 + 1))]) 2 [1, 2, 0] dX4_reads_103 rfl rfl (by decide) rfl ?_
              refine x_goto (tgt := 63) dX4_reads_106 (by decide) ?_
              exact ih p_0 1 (v_4 + 1) N15 kk0 hr h
set_option maxHeartbeats 4000000 in
set_option maxRecDepth 100000 in
theorem T_X4_reads {G : XG} {Y : XY} (hw : WT Y) {a0 : Nat} {N : XN} (k100 : kc Y a0 = 14) (hr : WR Y a0) {r9 : Int32} {N9 : XN} (h : f_X4_reads Y a0 N = some (r9, N9)) : Ex G yX4_reads cX4_reads 5 (some .boolean) (xR 29 0 0) (.inl (some (.int r9))) Y N9 0 0 10 [(0, .ref a0)] [] Y N := by
  rw [f_X4_reads] at h
  refine x_aload_n 0 dX4_reads_10 rfl rfl ?_
  obtain ⟨g1, k2⟩ := hr.2
  refine x_getr dX4_reads_11 vc_X4 xin4 fb_X4_3 fl_X4_15 xr_X4_3 k100 g1 ?_
  obtain ⟨N4, q3, h⟩ := x_bd1 h
  refine x_cv (b := (gp Y a0 3)) (As := []) (ci := 6) (d' := 1) (zz := yX6_begin) dX4_reads_14 ml_X4_19 wi_X6_begin wv_X6_begin wn_X6 wc_X6_begin hp_X6_begin (by decide) (by decide) rfl (Nat.le_of_ble_eq_true rfl) ⟨Nat.zero_le _, Nat.zero_le _⟩ rfl k2 (T_X6_begin (G := G) hw k2 q3) ?_
  refine x_aload_n 0 dX4_reads_17 rfl rfl ?_
  refine x_iconst (v := 0) dX4_reads_18 rfl ?_
  refine x_puti dX4_reads_19 vc_X4 xin4 tyX4_ok nmX4 fb_X4_4 fl_X4_24 ff_X4_4 xr_X4_4 (nf_X4_4 _) (ft_X4_4 _) k100 ?_
  obtain ⟨N5, eN5, h⟩ := x_lt h
  refine x_nmN eN5 ?_
  refine x_aload_n 0 dX4_reads_22 rfl rfl ?_
  refine x_iconst (v := 0) dX4_reads_23 rfl ?_
  refine x_puti dX4_reads_24 vc_X4 xin4 tyX4_ok nmX4 fb_X4_6 fl_X4_28 ff_X4_6 xr_X4_6 (nf_X4_6 _) (ft_X4_6 _) k100 ?_
  obtain ⟨N6, eN6, h⟩ := x_lt h
  refine x_nmN eN6 ?_
  refine x_aload_n 0 dX4_reads_27 rfl rfl ?_
  refine x_iconst (v := 0) dX4_reads_28 rfl ?_
  refine x_puti dX4_reads_29 vc_X4 xin4 tyX4_ok nmX4 fb_X4_0 fl_X4_31 ff_X4_0 xr_X4_0 (nf_X4_0 _) (ft_X4_0 _) k100 ?_
  obtain ⟨N7, eN7, h⟩ := x_lt h
  refine x_nmN eN7 ?_
  refine x_aload_n 0 dX4_reads_32 rfl rfl ?_
  refine x_iconst (v := (-1)) dX4_reads_33 rfl ?_
  refine x_puti dX4_reads_34 vc_X4 xin4 tyX4_ok nmX4 fb_X4_1 fl_X4_34 ff_X4_1 xr_X4_1 (nf_X4_1 _) (ft_X4_1 _) k100 ?_
  obtain ⟨N8, eN8, h⟩ := x_lt h
  refine x_nmN eN8 ?_
  refine x_aload_n 0 dX4_reads_37 rfl rfl ?_
  refine x_bipush (v := 10) dX4_reads_38 rfl ?_
  obtain ⟨r10, N11, q9, h⟩ := x_bd2 h
  refine x_cv (b := a0) (As := [.int 10]) (ci := 4) (d' := 2) (zz := yX4_takes) dX4_reads_40 ml_X4_37 wi_X4_takes wv_X4_takes wn_X4 wc_X4_takes hp_X4_takes (by decide) (by decide) rfl (Nat.le_of_ble_eq_true rfl) ⟨Nat.zero_le _, Nat.zero_le _⟩ rfl k100 (T_X4_takes (G := G) hw k100 hr q9) ?_
  rcases x_if h with ⟨c12, h⟩ | ⟨c12, h⟩
  · refine x_if_eq_t (tgt := 58) dX4_reads_43 (by decide) c12 ?_
    refine x_iconst (v := 0) dX4_reads_58 rfl ?_
    refine x_istore_n (L' := [(0, .ref a0), (3, .int 0)]) [1, 0] dX4_reads_59 rfl (by decide) rfl ?_
    refine x_iconst (v := 0) dX4_reads_60 rfl ?_
    refine x_istore (L' := [(0, .ref a0), (3, .int 0), (4, .int 0)]) [1, 2, 0] dX4_reads_61 (by decide) rfl ?_
    exact T_X4_reads_63 (G := G) hw FU a0 0 0 N11 k100 hr h
  · refine x_if_eq_f (tgt := 58) dX4_reads_43 (by decide) c12 ?_
    refine x_aload_n 0 dX4_reads_46 rfl rfl ?_
    refine x_iconst (v := 3) dX4_reads_47 rfl ?_
    obtain ⟨r14, N15, q13, h⟩ := x_bd2 h
    refine x_cv (b := a0) (As := [.int 3]) (ci := 4) (d' := 2) (zz := yX4_takes) dX4_reads_48 ml_X4_37 wi_X4_takes wv_X4_takes wn_X4 wc_X4_takes hp_X4_takes (by decide) (by decide) rfl (Nat.le_of_ble_eq_true rfl) ⟨Nat.zero_le _, Nat.zero_le _⟩ rfl k100 (T_X4_takes (G := G) hw k100 hr q13) ?_
    rcases x_if h with ⟨c16, h⟩ | ⟨c16, h⟩
    · refine x_if_eq_t (tgt := 58) dX4_reads_51 (by decide) c16 ?_
      refine x_iconst (v := 0) dX4_reads_58 rfl ?_
      refine x_istore_n (L' := [(0, .ref a0), (3, .int 0)]) [1, 0] dX4_reads_59 rfl (by decide) rfl ?_
      refine x_iconst (v := 0) dX4_reads_60 rfl ?_
      refine x_istore (L' := [(0, .ref a0), (3, .int 0), (4, .int 0)]) [1, 2, 0] dX4_reads_61 (by decide) rfl ?_
      exact T_X4_reads_63 (G := G) hw FU a0 0 0 N15 k100 hr h
    · refine x_if_eq_f (tgt := 58) dX4_reads_51 (by decide) c16 ?_
      refine x_iconst (v := 1) dX4_reads_54 rfl ?_
      refine x_goto (tgt := 59) dX4_reads_55 (by decide) ?_
      refine x_istore_n (L' := [(0, .ref a0), (3, .int 1)]) [1, 0] dX4_reads_59 rfl (by decide) rfl ?_
      refine x_iconst (v := 0) dX4_reads_60 rfl ?_
      refine x_istore (L' := [(0, .ref a0), (3, .int 1), (4, .int 0)]) [1, 2, 0] dX4_reads_61 (by decide) rfl ?_
      exact T_X4_reads_63 (G := G) hw FU a0 1 0 N15 k100 hr h
theorem kc_sr {Y : XY} {a f : Nat} {v : Option Nat} (b : Nat) : kc (sr Y a f v) b = kc Y b := rfl
theorem kn_sr {Y : XY} {a f : Nat} {v : Option Nat} (b : Nat) : kn (sr Y a f v) b = kn Y b := rfl
theorem gr_sr_ne {Y : XY} {a f : Nat} {v : Option Nat} {b : Nat} (h : b ≠ a) (j : Nat) : gr (sr Y a f v) b j = gr Y b j := by
  show (if b = a ∧ j = f then v else Y.1 b j) = _
  rw [if_neg (fun q => h q.1)]
  rfl
theorem gr_sr_nf {Y : XY} {a f : Nat} {v : Option Nat} {b j : Nat} (h : j ≠ f) : gr (sr Y a f v) b j = gr Y b j := by
  show (if b = a ∧ j = f then v else Y.1 b j) = _
  rw [if_neg (fun q => h q.2)]
  rfl
theorem gr_sr_s {Y : XY} {a f : Nat} {v : Option Nat} : gr (sr Y a f v) a f = v := by
  show (if a = a ∧ f = f then v else Y.1 a f) = _
  rw [if_pos ⟨rfl, rfl⟩]
theorem gp_sr_ne {Y : XY} {a f : Nat} {v : Option Nat} {b : Nat} (h : b ≠ a) (j : Nat) : gp (sr Y a f v) b j = gp Y b j := by
  have := gr_sr_ne (Y := Y) (f := f) (v := v) h j
  unfold gp
  unfold gr at this
  rw [this]
theorem WT_sr {Y : XY} {a0 f : Nat} {v : Option Nat} (h : WT Y) (k : kc Y a0 = 14) : WT (sr Y a0 f v) := by
  intro a
  by_cases e : a = a0
  · subst e
    have e1 : kc (sr Y a f v) a = 14 := k
    rw [e1]
    refine ⟨?_, ?_, ?_, ?_, ?_, ?_, ?_, ?_, ?_⟩ <;> (intro q; exact absurd q (by decide))
  · have hg : ∀ j, gr (sr Y a0 f v) a j = gr Y a j := fun j => gr_sr_ne e j
    have hp : ∀ j, gp (sr Y a0 f v) a j = gp Y a j := fun j => gp_sr_ne e j
    have h1 := h a
    simp only [wtF, wtO] at h1 ⊢
    simp only [hg, hp, kc_sr, kn_sr]
    exact h1
theorem WT_yrd {Y : XY} {rd tk wd : Nat} (h : WT Y) (k : kc Y rd = 14) : WT (yrd Y rd tk wd) := WT_sr (WT_sr h k) k
theorem WR_yrd {Y : XY} {rd tk wd : Nat} (k1 : kc Y tk = 15) (k2 : kc Y wd = 16) : WR (yrd Y rd tk wd) rd := by
  have h2 : gr (yrd Y rd tk wd) rd 2 = some tk := (gr_sr_nf (by decide)).trans gr_sr_s
  have h3 : gr (yrd Y rd tk wd) rd 3 = some wd := gr_sr_s
  have g2 : gp (yrd Y rd tk wd) rd 2 = tk := by unfold gr at h2; unfold gp; rw [h2]; rfl
  have g3 : gp (yrd Y rd tk wd) rd 3 = wd := by unfold gr at h3; unfold gp; rw [h3]; rfl
  refine ⟨⟨?_, ?_⟩, ?_, ?_⟩
  · rw [h2, g2]
  · rw [g2]; exact k1
  · rw [h3, g3]
  · rw [g3]; exact k2
theorem T_X4_readsW {G : XG} {Y : XY} (hw : WT Y) {a0 a1 a2 : Nat} {N : XN} (k0 : kc Y a0 = 14) (k1 : kc Y a1 = 15) (k2 : kc Y a2 = 16) {r9 : Int32} {N9 : XN} (h : f_X4_reads (yrd Y a0 a1 a2) a0 N = some (r9, N9)) : Cl G yX4_reads cX4_reads 5 (some .boolean) (xR 29 0 0) [.ref a0, .ref a1, .ref a2] (.inl (some (.int r9))) Y N (yrd Y a0 a1 a2) N9 := by
  refine x_entry (by decide) (Nat.le_of_ble_eq_true rfl) rfl ?_
  refine x_aload_n 0 dX4_reads_0 rfl rfl ?_
  refine x_aload_n 1 dX4_reads_1 rfl rfl ?_
  refine x_putr dX4_reads_2 vc_X4 xin4 tyX4_ok nmX4 fb_X4_2 fl_X4_9 ff_X4_2 xr_X4_2 rfl rfl k0 ?_
  refine x_aload_n 0 dX4_reads_5 rfl rfl ?_
  refine x_aload_n 2 dX4_reads_6 rfl rfl ?_
  refine x_putr dX4_reads_7 vc_X4 xin4 tyX4_ok nmX4 fb_X4_3 fl_X4_15 ff_X4_3 xr_X4_3 rfl rfl k0 ?_
  refine x_sub (L' := [(0, .ref a0)]) [0] rfl ?_
  exact T_X4_reads (G := G) (WT_yrd hw k0) k0 (WR_yrd k1 k2) h
set_option maxHeartbeats 4000000 in
set_option maxRecDepth 100000 in
theorem T_X7_loadB {G : XG} {Y : XY} (hw : WT Y) {a0 : Nat} {b0 : Int32} {N : XN} (k100 : kc Y a0 = 17) {r9 : Int32} {N9 : XN} (h : f_X7_loadB Y a0 b0 N = some (.inl r9, N9)) : Ex G yX7_load cX7_load 2 (some .int) (xR 30 0 0) (.inl (some (.int r9))) Y N9 0 0 54 [(0, .ref a0)] [.int b0] Y N := by
  rw [f_X7_loadB] at h
  rcases x_if h with ⟨c1, h⟩ | ⟨c1, h⟩
  · refine x_if_ne_f (tgt := 76) dX7_load_54 (by decide) c1 ?_
    refine x_aload_n 0 dX7_load_57 rfl rfl ?_
    refine x_aload_n 0 dX7_load_58 rfl rfl ?_
    obtain ⟨g2, k3⟩ := wt_X7_4 hw k100
    refine x_getr dX7_load_59 vc_X7 xin7 fb_X7_4 fl_X7_30 xr_X7_4 k100 g2 ?_
    refine x_geti dX7_load_62 vc_X4 xin4 fb_X4_1 fl_X7_73 xr_X4_1 k3 ?_
    refine x_puti dX7_load_65 vc_X7 xin7 tyX7_ok nmX7 fb_X7_2 fl_X7_17 ff_X7_2 xr_X7_2 (nf_X7_2 _) (ft_X7_2 _) k100 ?_
    obtain ⟨N4, eN4, h⟩ := x_lt h
    refine x_nmN eN4 ?_
    refine x_aload_n 0 dX7_load_68 rfl rfl ?_
    refine x_getr dX7_load_69 vc_X7 xin7 fb_X7_4 fl_X7_30 xr_X7_4 k100 g2 ?_
    refine x_geti dX7_load_72 vc_X4 xin4 fb_X4_0 fl_X7_74 xr_X4_0 k3 ?_
    obtain ⟨h7, rfl⟩ := Prod.mk.inj (x_so h)
    obtain rfl := Sum.inl.inj h7
    exact x_iret dX7_load_75 rfl rfl rfl
  · refine x_if_ne_t (tgt := 76) dX7_load_54 (by decide) c1 ?_
    refine x_aload_n 0 dX7_load_76 rfl rfl ?_
    refine x_iconst (v := (-1)) dX7_load_77 rfl ?_
    refine x_puti dX7_load_78 vc_X7 xin7 tyX7_ok nmX7 fb_X7_2 fl_X7_17 ff_X7_2 xr_X7_2 (nf_X7_2 _) (ft_X7_2 _) k100 ?_
    obtain ⟨N5, eN5, h⟩ := x_lt h
    refine x_nmN eN5 ?_
    refine x_aload_n 0 dX7_load_81 rfl rfl ?_
    obtain ⟨N7, q6, h⟩ := x_bd1 h
    refine x_cv (b := a0) (As := []) (ci := 7) (d' := 3) (zz := yX7_keepPresent) dX7_load_82 ml_X7_77 wi_X7_keepPresent wv_X7_keepPresent wn_X7 wc_X7_keepPresent hp_X7_keepPresent (by decide) (by decide) rfl (Nat.le_of_ble_eq_true rfl) ⟨Nat.zero_le _, Nat.zero_le _⟩ rfl k100 (T_X7_keepPresent (G := G) hw k100 q6) ?_
    refine x_aload_n 0 dX7_load_85 rfl rfl ?_
    obtain ⟨g8, k9⟩ := wt_X7_5 hw k100
    refine x_getr dX7_load_86 vc_X7 xin7 fb_X7_5 fl_X7_37 xr_X7_5 k100 g8 ?_
    refine x_aload_n 0 dX7_load_89 rfl rfl ?_
    obtain ⟨g10, k11⟩ := wt_X7_6 hw k100
    refine x_getr dX7_load_90 vc_X7 xin7 fb_X7_6 fl_X7_41 xr_X7_6 k100 g10 ?_
    obtain ⟨N13, q12, h⟩ := x_bd1 h
    refine x_cv (b := (gp Y a0 5)) (As := [.ref (gp Y a0 6)]) (ci := 6) (d' := 2) (zz := yX6_copyOf) dX7_load_93 ml_X7_80 wi_X6_copyOf wv_X6_copyOf wn_X6 wc_X6_copyOf hp_X6_copyOf (by decide) (by decide) rfl (Nat.le_of_ble_eq_true rfl) ⟨Nat.zero_le _, Nat.zero_le _⟩ rfl k9 (T_X6_copyOf (G := G) hw k9 k11 q12) ?_
    refine x_aload_n 0 dX7_load_96 rfl rfl ?_
    refine x_getr dX7_load_97 vc_X7 xin7 fb_X7_5 fl_X7_37 xr_X7_5 k100 g8 ?_
    refine x_geti dX7_load_100 vc_X6 xin6 fb_X6_5 fl_X7_84 xr_X6_5 k9 ?_
    obtain ⟨h7, rfl⟩ := Prod.mk.inj (x_so h)
    obtain rfl := Sum.inl.inj h7
    exact x_iret dX7_load_103 rfl rfl rfl

theorem f_X7_loadB_n {Y : XY} {a0 : Nat} {b0 : Int32} {N : XN} {r9 : String} {N9 : XN} : ¬ f_X7_loadB Y a0 b0 N = some (.inr r9, N9) := by
  intro h
  rw [f_X7_loadB] at h
  rcases x_if h with ⟨-, h⟩ | ⟨-, h⟩
  · obtain ⟨N4, -, h⟩ := x_lt h
    cases (Prod.mk.inj (x_so h)).1
  · obtain ⟨N5, -, h⟩ := x_lt h
    obtain ⟨N7, -, h⟩ := x_bd1 h
    obtain ⟨N13, -, h⟩ := x_bd1 h
    cases (Prod.mk.inj (x_so h)).1
set_option maxHeartbeats 4000000 in
set_option maxRecDepth 100000 in
theorem T_X7_load {G : XG} {Y : XY} (hw : WT Y) {a0 : Nat} {a1 : Int32} {N : XN} (k100 : kc Y a0 = 17) {r9 : Int32} {N9 : XN} (h : f_X7_load Y a0 a1 N = some (.inl r9, N9)) : Cl G yX7_load cX7_load 2 (some .int) (xR 30 0 0) [.ref a0, .int a1] (.inl (some (.int r9))) Y N (yrd Y (gp Y a0 4) (gp Y a0 3) (gp Y a0 6)) N9 := by
  refine x_entry (by decide) (Nat.le_of_ble_eq_true rfl) rfl ?_
  rw [f_X7_load] at h
  refine x_iload_n 1 dX7_load_0 rfl rfl ?_
  rcases x_if h with ⟨c1, h⟩ | ⟨c1, h⟩
  · refine x_if_lt_t (tgt := 12) dX7_load_1 (by decide) c1 ?_
    cases (Prod.mk.inj (x_so h)).1
  · refine x_if_lt_f (tgt := 12) dX7_load_1 (by decide) c1 ?_
    refine x_iload_n 1 dX7_load_4 rfl rfl ?_
    refine x_aload_n 0 dX7_load_5 rfl rfl ?_
    refine x_geti dX7_load_6 vc_X7 xin7 fb_X7_1 fl_X7_13 xr_X7_1 k100 ?_
    rcases x_if h with ⟨c2, h⟩ | ⟨c2, h⟩
    · refine x_icmp_le_t (tgt := 22) dX7_load_9 (by decide) c2 ?_
      refine x_aload_n 0 dX7_load_22 rfl rfl ?_
      refine x_iconst (v := 0) dX7_load_23 rfl ?_
      refine x_puti dX7_load_24 vc_X7 xin7 tyX7_ok nmX7 fb_X7_1 fl_X7_13 ff_X7_1 xr_X7_1 (nf_X7_1 _) (ft_X7_1 _) k100 ?_
      obtain ⟨N3, eN3, h⟩ := x_lt h
      refine x_nmN eN3 ?_
      refine x_aload_n 0 dX7_load_27 rfl rfl ?_
      obtain ⟨g4, k5⟩ := wt_X7_3 hw k100
      refine x_getr dX7_load_28 vc_X7 xin7 fb_X7_3 fl_X7_23 xr_X7_3 k100 g4 ?_
      refine x_aload_n 0 dX7_load_31 rfl rfl ?_
      obtain ⟨g6, k7, n8⟩ := wt_X7_0 hw k100
      refine x_getr dX7_load_32 vc_X7 xin7 fb_X7_0 fl_X7_9 xr_X7_0 k100 g6 ?_
      refine x_iload_n 1 dX7_load_35 rfl rfl ?_
      obtain ⟨N10, q9, h⟩ := x_bd1 h
      refine x_cv (b := (gp Y a0 3)) (As := [.ref (gp Y a0 0), .int a1]) (ci := 5) (d' := 10) (zz := yX5_split) dX7_load_36 ml_X7_65 wi_X5_split wv_X5_split wn_X5 wc_X5_split hp_X5_split (by decide) (by decide) rfl (Nat.le_of_ble_eq_true rfl) ⟨Nat.zero_le _, Nat.zero_le _⟩ rfl k5 (T_X5_split (G := G) hw k5 k7 q9) ?_
      refine x_aload_n 0 dX7_load_39 rfl rfl ?_
      obtain ⟨g11, k12⟩ := wt_X7_4 hw k100
      refine x_getr dX7_load_40 vc_X7 xin7 fb_X7_4 fl_X7_30 xr_X7_4 k100 g11 ?_
      refine x_aload_n 0 dX7_load_43 rfl rfl ?_
      refine x_getr dX7_load_44 vc_X7 xin7 fb_X7_3 fl_X7_23 xr_X7_3 k100 g4 ?_
      refine x_aload_n 0 dX7_load_47 rfl rfl ?_
      obtain ⟨g13, k14⟩ := wt_X7_6 hw k100
      refine x_getr dX7_load_48 vc_X7 xin7 fb_X7_6 fl_X7_41 xr_X7_6 k100 g13 ?_
      obtain ⟨r15, N16, q17, h⟩ := x_bd2 h
      refine x_cv (b := (gp Y a0 4)) (As := [.ref (gp Y a0 3), .ref (gp Y a0 6)]) (ci := 4) (d' := 29) (zz := yX4_reads) dX7_load_51 ml_X7_69 wi_X4_reads wv_X4_reads wn_X4 wc_X4_reads hp_X4_reads (by decide) (by decide) rfl (Nat.le_of_ble_eq_true rfl) ⟨Nat.zero_le _, Nat.zero_le _⟩ rfl k12 (T_X4_readsW (G := G) hw k12 k5 k14 q17) ?_
      refine x_sub (L' := [(0, .ref a0)]) [0] rfl ?_
      exact T_X7_loadB (G := G) (WT_yrd hw k12) k100 h
    · refine x_icmp_le_f (tgt := 22) dX7_load_9 (by decide) c2 ?_
      cases (Prod.mk.inj (x_so h)).1
set_option maxHeartbeats 4000000 in
set_option maxRecDepth 100000 in
theorem T_X7_loadx {G : XG} {Y : XY} (hw : WT Y) (h9 : ∀ a, kc Y a ≠ 9) {a0 : Nat} {a1 : Int32} {N : XN} (k100 : kc Y a0 = 17) {r9 : String} {N9 : XN} (h : f_X7_load Y a0 a1 N = some (.inr r9, N9)) : Cl G yX7_load cX7_load 2 (some .int) (xR 30 1 6) [.ref a0, .int a1] (.inr r9) Y N Y N9 := by
  refine x_entry (by decide) (Nat.le_of_ble_eq_true rfl) rfl ?_
  rw [f_X7_load] at h
  refine x_iload_n 1 dX7_load_0 rfl rfl ?_
  rcases x_if h with ⟨c1, h⟩ | ⟨c1, h⟩
  · refine x_if_lt_t (tgt := 12) dX7_load_1 (by decide) c1 ?_
    obtain ⟨h7, rfl⟩ := Prod.mk.inj (x_so h)
    obtain rfl := Sum.inr.inj h7
    exact xt_iae dX7_load_12 dX7_load_15 dX7_load_16 dX7_load_18 dX7_load_21 (tx := "no such length of the buffer") (by decide) rfl (fun _ => h9 _) (by decide) (Nat.le_of_ble_eq_true rfl)
  · refine x_if_lt_f (tgt := 12) dX7_load_1 (by decide) c1 ?_
    refine x_iload_n 1 dX7_load_4 rfl rfl ?_
    refine x_aload_n 0 dX7_load_5 rfl rfl ?_
    refine x_geti dX7_load_6 vc_X7 xin7 fb_X7_1 fl_X7_13 xr_X7_1 k100 ?_
    rcases x_if h with ⟨c2, h⟩ | ⟨c2, h⟩
    · refine x_icmp_le_t (tgt := 22) dX7_load_9 (by decide) c2 ?_
      refine x_aload_n 0 dX7_load_22 rfl rfl ?_
      refine x_iconst (v := 0) dX7_load_23 rfl ?_
      refine x_puti dX7_load_24 vc_X7 xin7 tyX7_ok nmX7 fb_X7_1 fl_X7_13 ff_X7_1 xr_X7_1 (nf_X7_1 _) (ft_X7_1 _) k100 ?_
      obtain ⟨N3, eN3, h⟩ := x_lt h
      refine x_nmN eN3 ?_
      refine x_aload_n 0 dX7_load_27 rfl rfl ?_
      obtain ⟨g4, k5⟩ := wt_X7_3 hw k100
      refine x_getr dX7_load_28 vc_X7 xin7 fb_X7_3 fl_X7_23 xr_X7_3 k100 g4 ?_
      refine x_aload_n 0 dX7_load_31 rfl rfl ?_
      obtain ⟨g6, k7, n8⟩ := wt_X7_0 hw k100
      refine x_getr dX7_load_32 vc_X7 xin7 fb_X7_0 fl_X7_9 xr_X7_0 k100 g6 ?_
      refine x_iload_n 1 dX7_load_35 rfl rfl ?_
      obtain ⟨N10, q9, h⟩ := x_bd1 h
      refine x_cv (b := (gp Y a0 3)) (As := [.ref (gp Y a0 0), .int a1]) (ci := 5) (d' := 10) (zz := yX5_split) dX7_load_36 ml_X7_65 wi_X5_split wv_X5_split wn_X5 wc_X5_split hp_X5_split (by decide) (by decide) rfl (Nat.le_of_ble_eq_true rfl) ⟨Nat.zero_le _, Nat.zero_le _⟩ rfl k5 (T_X5_split (G := G) hw k5 k7 q9) ?_
      refine x_aload_n 0 dX7_load_39 rfl rfl ?_
      obtain ⟨g11, k12⟩ := wt_X7_4 hw k100
      refine x_getr dX7_load_40 vc_X7 xin7 fb_X7_4 fl_X7_30 xr_X7_4 k100 g11 ?_
      refine x_aload_n 0 dX7_load_43 rfl rfl ?_
      refine x_getr dX7_load_44 vc_X7 xin7 fb_X7_3 fl_X7_23 xr_X7_3 k100 g4 ?_
      refine x_aload_n 0 dX7_load_47 rfl rfl ?_
      obtain ⟨g13, k14⟩ := wt_X7_6 hw k100
      refine x_getr dX7_load_48 vc_X7 xin7 fb_X7_6 fl_X7_41 xr_X7_6 k100 g13 ?_
      obtain ⟨r15, N16, q17, h⟩ := x_bd2 h
      exact absurd h f_X7_loadB_n
    · refine x_icmp_le_f (tgt := 22) dX7_load_9 (by decide) c2 ?_
      obtain ⟨h7, rfl⟩ := Prod.mk.inj (x_so h)
      obtain rfl := Sum.inr.inj h7
      exact xt_iae dX7_load_12 dX7_load_15 dX7_load_16 dX7_load_18 dX7_load_21 (tx := "no such length of the buffer") (by decide) rfl (fun _ => h9 _) (by decide) (Nat.le_of_ble_eq_true rfl)
