set_option maxHeartbeats 4000000 in
set_option maxRecDepth 100000 in
theorem T_L_flush_22 {G : XG} {tb : List ExceptionTableEntry} {Y : XY} (hw : WT Y) {Nz : XN} : ∀ (D9 : Nat) (p_1 : Nat) (v_2 : Int32) (N : XN), f_L_flush_22 Y D9 p_1 v_2 N = some Nz → ExZ G yL_flush cL_flush 3 none tb (xR 3 0 0) (xZn G (xR 3 0 0) none Y Nz) 0 0 22 [(1, .ref p_1), (2, .int v_2)] [] Y N := by
  intro D9
  induction D9 with
  | zero => intro p_1 v_2 N h; exact nomatch (show none = some _ from h)
  | succ D9 ih =>
    intro p_1 v_2 N h
    rw [f_L_flush_22] at h
    refine x_iload_n 1 dL_flush_22 rfl rfl ?_
    refine x_bipush (v := 6) dL_flush_23 rfl ?_
    rcases x_if h with ⟨c1, h⟩ | ⟨c1, h⟩
    · refine x_icmp_ge_t (tgt := 38) dL_flush_25 (by decide) c1 ?_
      obtain rfl := x_so h
      exact x_nvret dL_flush_38 rfl rfl rfl
    · refine x_icmp_ge_f (tgt := 38) dL_flush_25 (by decide) c1 ?_
      refine x_aload_n 0 dL_flush_28 rfl rfl ?_
      refine x_iload_n 1 dL_flush_29 rfl rfl ?_
      refine x_iconst (v := 0) dL_flush_30 rfl ?_
      obtain ⟨c2, h⟩ := x_ckk h
      obtain ⟨c3, h⟩ := x_ckk h
      refine x_iast dL_flush_31 c2 (xb_in c3) rfl ?_
      obtain ⟨N4, eN4, h⟩ := x_lt h
      refine x_nmM eN4 ?_
      refine x_iinc (L' := [(1, .ref p_1), (2, .int (v_2 + 1))]) 1 [1, 0] dL_flush_32 rfl rfl (by decide) rfl ?_
      refine x_goto (tgt := 22) dL_flush_35 (by decide) ?_
      exact ih p_1 (v_2 + 1) N4 h
set_option maxHeartbeats 4000000 in
set_option maxRecDepth 100000 in
theorem T_L_flush {G : XG} {Y : XY} (hw : WT Y) {a0 : Nat} {a1 : Nat} {N : XN} {Nz : XN} (h : f_L_flush Y a0 a1 N = some Nz) : Cn G yL_flush cL_flush 3 none (xR 3 0 0) [.ref a0, .ref a1] none Y N Y Nz := by
  refine x_entryN (by decide) (Nat.le_of_ble_eq_true rfl) rfl fun tb => ?_
  rw [f_L_flush] at h
  refine x_aload_n 0 dL_flush_0 rfl rfl ?_
  refine x_aload_n 1 dL_flush_1 rfl rfl ?_
  refine x_iconst (v := 1) dL_flush_2 rfl ?_
  obtain ⟨c1, h⟩ := x_ckk h
  obtain ⟨c2, h⟩ := x_ckk h
  refine x_iald dL_flush_3 c1 (xb_in c2) xj_1 ?_
  refine x_aload_n 1 dL_flush_4 rfl rfl ?_
  refine x_iconst (v := 2) dL_flush_5 rfl ?_
  obtain ⟨c3, h⟩ := x_ckk h
  refine x_iald dL_flush_6 c1 (xb_in c3) xj_2 ?_
  refine x_aload_n 1 dL_flush_7 rfl rfl ?_
  refine x_iconst (v := 3) dL_flush_8 rfl ?_
  obtain ⟨c4, h⟩ := x_ckk h
  refine x_iald dL_flush_9 c1 (xb_in c4) xj_3 ?_
  refine x_aload_n 1 dL_flush_10 rfl rfl ?_
  refine x_iconst (v := 4) dL_flush_11 rfl ?_
  obtain ⟨c5, h⟩ := x_ckk h
  refine x_iald dL_flush_12 c1 (xb_in c5) xj_4 ?_
  refine x_aload_n 1 dL_flush_13 rfl rfl ?_
  refine x_iconst (v := 5) dL_flush_14 rfl ?_
  obtain ⟨c6, h⟩ := x_ckk h
  refine x_iald dL_flush_15 c1 (xb_in c6) xj_5 ?_
  obtain ⟨c7, h⟩ := x_ckk h
  obtain ⟨r8, N9, q10, h⟩ := x_bd2 h
  refine x_cv (b := a0) (As := [.int (gi N a1 1), .int (gi N a1 2), .int (gi N a1 3), .int (gi N a1 4), .int (gi N a1 5)]) (ci := 7) (d' := 2) (zz := yX7_append) dL_flush_16 ml_L_13 wi_X7_append wv_X7_append wn_X7 wc_X7_append hp_X7_append (by decide) (by decide) rfl (Nat.le_of_ble_eq_true rfl) ⟨Nat.le_refl _, Nat.le_refl _⟩ vc_X7 c7 (T_X7_append (G := G) hw c7 q10) ?_
  refine x_pop dL_flush_19 rfl ?_
  refine x_iconst (v := 1) dL_flush_20 rfl ?_
  refine x_istore_n (L' := [(1, .ref a1), (2, .int 1)]) [2, 0] dL_flush_21 rfl (by decide) rfl ?_
  exact T_L_flush_22 (G := G) hw FU a1 1 N9 h
set_option maxHeartbeats 4000000 in
set_option maxRecDepth 100000 in
theorem T_L_put {G : XG} {Y : XY} (hw : WT Y) {a0 : Nat} {a1 : Nat} {a2 : Int32} {N : XN} {Nz : XN} (h : f_L_put Y a0 a1 a2 N = some Nz) : Cn G yL_put cL_put 3 none (xR 4 0 0) [.ref a0, .ref a1, .int a2] none Y N Y Nz := by
  refine x_entryN (by decide) (Nat.le_of_ble_eq_true rfl) rfl fun tb => ?_
  rw [f_L_put] at h
  refine x_aload_n 1 dL_put_0 rfl rfl ?_
  refine x_iconst (v := 1) dL_put_1 rfl ?_
  refine x_aload_n 1 dL_put_2 rfl rfl ?_
  refine x_iconst (v := 0) dL_put_3 rfl ?_
  obtain ⟨c1, h⟩ := x_ckk h
  obtain ⟨c2, h⟩ := x_ckk h
  refine x_iald dL_put_4 c1 (xb_in c2) xj_0 ?_
  refine x_bipush (v := 20) dL_put_5 rfl ?_
  refine x_irem dL_put_7 (by decide) ?_
  refine x_iconst (v := 4) dL_put_8 rfl ?_
  refine x_idiv dL_put_9 (by decide) ?_
  refine x_iadd dL_put_10 ?_
  refine x_dup2 dL_put_11 rfl rfl ?_
  obtain ⟨c3, h⟩ := x_ckk h
  refine x_iald dL_put_12 c1 (xb_in c3) rfl ?_
  refine x_iload_n 2 dL_put_13 rfl rfl ?_
  refine x_bipush (v := 24) dL_put_14 rfl ?_
  refine x_bipush (v := 8) dL_put_16 rfl ?_
  refine x_aload_n 1 dL_put_18 rfl rfl ?_
  refine x_iconst (v := 0) dL_put_19 rfl ?_
  obtain ⟨c4, h⟩ := x_ckk h
  refine x_iald dL_put_20 c1 (xb_in c4) xj_0 ?_
  refine x_iconst (v := 4) dL_put_21 rfl ?_
  refine x_irem dL_put_22 (by decide) ?_
  refine x_imul dL_put_23 ?_
  refine x_isub dL_put_24 ?_
  refine x_ishl dL_put_25 ?_
  refine x_ior dL_put_26 ?_
  obtain ⟨c5, h⟩ := x_ckk h
  refine x_iast dL_put_27 c1 (xb_in c5) rfl ?_
  obtain ⟨N6, eN6, h⟩ := x_lt h
  refine x_nmM eN6 ?_
  refine x_aload_n 1 dL_put_28 rfl rfl ?_
  refine x_iconst (v := 0) dL_put_29 rfl ?_
  refine x_dup2 dL_put_30 rfl rfl ?_
  obtain ⟨c7, h⟩ := x_ckk h
  refine x_iald dL_put_31 c1 (xb_in c7) xj_0 ?_
  refine x_iconst (v := 1) dL_put_32 rfl ?_
  refine x_iadd dL_put_33 ?_
  obtain ⟨c8, h⟩ := x_ckk h
  refine x_iast dL_put_34 c1 (xb_in c8) xj_0 ?_
  obtain ⟨N9, eN9, h⟩ := x_lt h
  refine x_nmM eN9 ?_
  refine x_aload_n 1 dL_put_35 rfl rfl ?_
  refine x_iconst (v := 0) dL_put_36 rfl ?_
  obtain ⟨c10, h⟩ := x_ckk h
  refine x_iald dL_put_37 c1 (xb_in c10) xj_0 ?_
  refine x_bipush (v := 20) dL_put_38 rfl ?_
  refine x_irem dL_put_40 (by decide) ?_
  rcases x_if h with ⟨c11, h⟩ | ⟨c11, h⟩
  · refine x_if_ne_f (tgt := 49) dL_put_41 (by decide) c11 ?_
    refine x_aload_n 0 dL_put_44 rfl rfl ?_
    refine x_aload_n 1 dL_put_45 rfl rfl ?_
    obtain ⟨N13, e12, h⟩ := x_bd1 h
    refine x_nS (As := [.ref a0, .ref a1]) (R' := xR 3 0 0) (zz := yL_flush) dL_put_46 ml_L_7 wt_L_flush wn_L wc_L_flush hp_L_flush ⟨Nat.le_of_ble_eq_true rfl, Nat.le_of_ble_eq_true rfl⟩ rfl (Nat.le_of_ble_eq_true rfl) ⟨Nat.le_refl _, Nat.le_refl _⟩ (T_L_flush (G := G) hw e12) ?_
    obtain rfl := x_so h
    exact x_nvret dL_put_49 rfl rfl rfl
  · refine x_if_ne_t (tgt := 49) dL_put_41 (by decide) c11 ?_
    obtain rfl := x_so h
    exact x_nvret dL_put_49 rfl rfl rfl
set_option maxHeartbeats 4000000 in
set_option maxRecDepth 100000 in
theorem T_L_write_2 {G : XG} {tb : List ExceptionTableEntry} {Y : XY} (hw : WT Y) {Nz : XN} : ∀ (D9 : Nat) (p_0 : Nat) (p_1 : Nat) (p_2 : Nat) (v_3 : Int32) (N : XN), f_L_write_2 Y D9 p_0 p_1 p_2 v_3 N = some Nz → ExZ G yL_write cL_write 4 none tb (xR 5 0 0) (xZn G (xR 5 0 0) none Y Nz) 0 0 2 [(0, .ref p_0), (1, .ref p_1), (2, .ref p_2), (3, .int v_3)] [] Y N := by
  intro D9
  induction D9 with
  | zero => intro p_0 p_1 p_2 v_3 N h; exact nomatch (show none = some _ from h)
  | succ D9 ih =>
    intro p_0 p_1 p_2 v_3 N h
    rw [f_L_write_2] at h
    refine x_iload_n 3 dL_write_2 rfl rfl ?_
    refine x_aload_n 2 dL_write_3 rfl rfl ?_
    obtain ⟨c1, h⟩ := x_ckk h
    obtain ⟨r2, N4, e3, h⟩ := x_bd2 h
    refine x_nVS (b := p_2) (As := []) (R' := xR 2 0 0) (zz := yJ0_length_8abf5) dL_write_4 ml_L_23 wi_J0_length_8abf5 wv_J0_length_8abf5 wn_J0 wc_J0_length_8abf5 hp_J0_length_8abf5 ⟨Nat.le_of_ble_eq_true rfl, Nat.le_of_ble_eq_true rfl⟩ rfl (Nat.le_of_ble_eq_true rfl) ⟨Nat.le_refl _, Nat.le_refl _⟩ rfl c1 (T_J0_length_8abf5 (G := G) e3) ?_
    rcases x_if h with ⟨c5, h⟩ | ⟨c5, h⟩
    · refine x_icmp_ge_t (tgt := 26) dL_write_7 (by decide) c5 ?_
      obtain rfl := x_so h
      exact x_nvret dL_write_26 rfl rfl rfl
    · refine x_icmp_ge_f (tgt := 26) dL_write_7 (by decide) c5 ?_
      refine x_aload_n 0 dL_write_10 rfl rfl ?_
      refine x_aload_n 1 dL_write_11 rfl rfl ?_
      refine x_aload_n 2 dL_write_12 rfl rfl ?_
      refine x_iload_n 3 dL_write_13 rfl rfl ?_
      obtain ⟨r6, N8, e7, h⟩ := x_bd2 h
      refine x_nVS (b := p_2) (As := [.int v_3]) (R' := xR 4 0 0) (zz := yJ0_charAt_5068e) dL_write_14 ml_L_29 wi_J0_charAt_5068e wv_J0_charAt_5068e wn_J0 wc_J0_charAt_5068e hp_J0_charAt_5068e ⟨Nat.le_of_ble_eq_true rfl, Nat.le_of_ble_eq_true rfl⟩ rfl (Nat.le_of_ble_eq_true rfl) ⟨Nat.le_refl _, Nat.le_refl _⟩ rfl c1 (T_J0_charAt_5068e (G := G) e7) ?_
      obtain ⟨N10, e9, h⟩ := x_bd1 h
      refine x_nS (As := [.ref p_0, .ref p_1, .int r6]) (R' := xR 4 0 0) (zz := yL_put) dL_write_17 ml_L_33 wt_L_put wn_L wc_L_put hp_L_put ⟨Nat.le_of_ble_eq_true rfl, Nat.le_of_ble_eq_true rfl⟩ rfl (Nat.le_of_ble_eq_true rfl) ⟨Nat.le_refl _, Nat.le_refl _⟩ (T_L_put (G := G) hw e9) ?_
      refine x_iinc (L' := [(0, .ref p_0), (1, .ref p_1), (2, .ref p_2), (3, .int (v_3 + 1))]) 3 [1, 2, 3, 0] dL_write_20 rfl rfl (by decide) rfl ?_
      refine x_goto (tgt := 2) dL_write_23 (by decide) ?_
      exact ih p_0 p_1 p_2 (v_3 + 1) N10 h
set_option maxHeartbeats 4000000 in
set_option maxRecDepth 100000 in
theorem T_L_write {G : XG} {Y : XY} (hw : WT Y) {a0 : Nat} {a1 : Nat} {a2 : Nat} {N : XN} {Nz : XN} (h : f_L_write Y a0 a1 a2 N = some Nz) : Cn G yL_write cL_write 4 none (xR 5 0 0) [.ref a0, .ref a1, .ref a2] none Y N Y Nz := by
  refine x_entryN (by decide) (Nat.le_of_ble_eq_true rfl) rfl fun tb => ?_
  rw [f_L_write] at h
  refine x_iconst (v := 0) dL_write_0 rfl ?_
  refine x_istore_n (L' := [(0, .ref a0), (1, .ref a1), (2, .ref a2), (3, .int 0)]) [1, 2, 3, 0] dL_write_1 rfl (by decide) rfl ?_
  exact T_L_write_2 (G := G) hw FU a0 a1 a2 0 N h
set_option maxHeartbeats 4000000 in
set_option maxRecDepth 100000 in
theorem T_L_writeNumber_18 {G : XG} {tb : List ExceptionTableEntry} {Y : XY} (hw : WT Y) {Nz : XN} : ∀ (D9 : Nat) (p_0 : Nat) (p_1 : Nat) (v_2 : Int32) (v_3 : Int32) (N : XN), f_L_writeNumber_18 Y D9 p_0 p_1 v_2 v_3 N = some Nz → ExZ G yL_writeNumber cL_writeNumber 4 none tb (xR 5 0 0) (xZn G (xR 5 0 0) none Y Nz) 0 0 18 [(0, .ref p_0), (1, .ref p_1), (2, .int v_2), (3, .int v_3)] [] Y N := by
  intro D9
  induction D9 with
  | zero => intro p_0 p_1 v_2 v_3 N h; exact nomatch (show none = some _ from h)
  | succ D9 ih =>
    intro p_0 p_1 v_2 v_3 N h
    rw [f_L_writeNumber_18] at h
    refine x_iload_n 3 dL_writeNumber_18 rfl rfl ?_
    rcases x_if h with ⟨c1, h⟩ | ⟨c1, h⟩
    · refine x_if_le_t (tgt := 44) dL_writeNumber_19 (by decide) c1 ?_
      obtain rfl := x_so h
      exact x_nvret dL_writeNumber_44 rfl rfl rfl
    · refine x_if_le_f (tgt := 44) dL_writeNumber_19 (by decide) c1 ?_
      refine x_aload_n 0 dL_writeNumber_22 rfl rfl ?_
      refine x_aload_n 1 dL_writeNumber_23 rfl rfl ?_
      refine x_bipush (v := 48) dL_writeNumber_24 rfl ?_
      refine x_iload_n 2 dL_writeNumber_26 rfl rfl ?_
      refine x_iload_n 3 dL_writeNumber_27 rfl rfl ?_
      obtain ⟨c2, h⟩ := x_ckk h
      refine x_idiv dL_writeNumber_28 c2 ?_
      refine x_bipush (v := 10) dL_writeNumber_29 rfl ?_
      refine x_irem dL_writeNumber_31 (by decide) ?_
      refine x_iadd dL_writeNumber_32 ?_
      obtain ⟨N4, e3, h⟩ := x_bd1 h
      refine x_nS (As := [.ref p_0, .ref p_1, .int (48 + ((v_2 / v_3) - (v_2 / v_3) / 10 * 10))]) (R' := xR 4 0 0) (zz := yL_put) dL_writeNumber_33 ml_L_33 wt_L_put wn_L wc_L_put hp_L_put ⟨Nat.le_of_ble_eq_true rfl, Nat.le_of_ble_eq_true rfl⟩ rfl (Nat.le_of_ble_eq_true rfl) ⟨Nat.le_refl _, Nat.le_refl _⟩ (T_L_put (G := G) hw e3) ?_
      refine x_iload_n 3 dL_writeNumber_36 rfl rfl ?_
      refine x_bipush (v := 10) dL_writeNumber_37 rfl ?_
      refine x_idiv dL_writeNumber_39 (by decide) ?_
      refine x_istore_n (L' := [(0, .ref p_0), (1, .ref p_1), (2, .int v_2), (3, .int (v_3 / 10))]) [1, 2, 3, 0] dL_writeNumber_40 rfl (by decide) rfl ?_
      refine x_goto (tgt := 18) dL_writeNumber_41 (by decide) ?_
      exact ih p_0 p_1 v_2 (v_3 / 10) N4 h
set_option maxHeartbeats 4000000 in
set_option maxRecDepth 100000 in
theorem T_L_writeNumber_2 {G : XG} {tb : List ExceptionTableEntry} {Y : XY} (hw : WT Y) {Nz : XN} : ∀ (D9 : Nat) (p_0 : Nat) (p_1 : Nat) (v_2 : Int32) (v_3 : Int32) (N : XN), f_L_writeNumber_2 Y D9 p_0 p_1 v_2 v_3 N = some Nz → ExZ G yL_writeNumber cL_writeNumber 4 none tb (xR 5 0 0) (xZn G (xR 5 0 0) none Y Nz) 0 0 2 [(0, .ref p_0), (1, .ref p_1), (2, .int v_2), (3, .int v_3)] [] Y N := by
  intro D9
  induction D9 with
  | zero => intro p_0 p_1 v_2 v_3 N h; exact nomatch (show none = some _ from h)
  | succ D9 ih =>
    intro p_0 p_1 v_2 v_3 N h
    rw [f_L_writeNumber_2] at h
    refine x_iload_n 3 dL_writeNumber_2 rfl rfl ?_
    refine x_iload_n 2 dL_writeNumber_3 rfl rfl ?_
    refine x_bipush (v := 10) dL_writeNumber_4 rfl ?_
    refine x_idiv dL_writeNumber_6 (by decide) ?_
    rcases x_if h with ⟨c1, h⟩ | ⟨c1, h⟩
    · refine x_icmp_gt_t (tgt := 18) dL_writeNumber_7 (by decide) c1 ?_
      exact T_L_writeNumber_18 (G := G) hw FU p_0 p_1 v_2 v_3 N h
    · refine x_icmp_gt_f (tgt := 18) dL_writeNumber_7 (by decide) c1 ?_
      refine x_iload_n 3 dL_writeNumber_10 rfl rfl ?_
      refine x_bipush (v := 10) dL_writeNumber_11 rfl ?_
      refine x_imul dL_writeNumber_13 ?_
      refine x_istore_n (L' := [(0, .ref p_0), (1, .ref p_1), (2, .int v_2), (3, .int (v_3 * 10))]) [1, 2, 3, 0] dL_writeNumber_14 rfl (by decide) rfl ?_
      refine x_goto (tgt := 2) dL_writeNumber_15 (by decide) ?_
      exact ih p_0 p_1 v_2 (v_3 * 10) N h
set_option maxHeartbeats 4000000 in
set_option maxRecDepth 100000 in
theorem T_L_writeNumber {G : XG} {Y : XY} (hw : WT Y) {a0 : Nat} {a1 : Nat} {a2 : Int32} {N : XN} {Nz : XN} (h : f_L_writeNumber Y a0 a1 a2 N = some Nz) : Cn G yL_writeNumber cL_writeNumber 4 none (xR 5 0 0) [.ref a0, .ref a1, .int a2] none Y N Y Nz := by
  refine x_entryN (by decide) (Nat.le_of_ble_eq_true rfl) rfl fun tb => ?_
  rw [f_L_writeNumber] at h
  refine x_iconst (v := 1) dL_writeNumber_0 rfl ?_
  refine x_istore_n (L' := [(0, .ref a0), (1, .ref a1), (2, .int a2), (3, .int 1)]) [1, 2, 3, 0] dL_writeNumber_1 rfl (by decide) rfl ?_
  exact T_L_writeNumber_2 (G := G) hw FU a0 a1 a2 1 N h
set_option maxHeartbeats 4000000 in
set_option maxRecDepth 100000 in
theorem T_L_writeNumbers_17 {G : XG} {tb : List ExceptionTableEntry} {Y : XY} (hw : WT Y) {Nz : XN} : ∀ (D9 : Nat) (p_0 : Nat) (p_1 : Nat) (p_4 : Nat) (v_5 : Int32) (v_6 : Int32) (N : XN), f_L_writeNumbers_17 (xS G) (xSv G) Y D9 p_0 p_1 p_4 v_5 v_6 N = some Nz → ExZ G yL_writeNumbers cL_writeNumbers 8 none tb (xR 6 0 0) (xZn G (xR 6 0 0) none Y Nz) 0 0 17 [(0, .ref p_0), (1, .ref p_1), (4, .ref p_4), (5, .int v_5), (6, .int v_6)] [] Y N := by
  intro D9
  induction D9 with
  | zero => intro p_0 p_1 p_4 v_5 v_6 N h; exact nomatch (show none = some _ from h)
  | succ D9 ih =>
    intro p_0 p_1 p_4 v_5 v_6 N h
    rw [f_L_writeNumbers_17] at h
    refine x_iload 4 dL_writeNumbers_17 rfl ?_
    refine x_iload 3 dL_writeNumbers_19 rfl ?_
    rcases x_if h with ⟨c1, h⟩ | ⟨c1, h⟩
    · refine x_icmp_ge_t (tgt := 51) dL_writeNumbers_21 (by decide) c1 ?_
      obtain rfl := x_so h
      exact x_nvret dL_writeNumbers_51 rfl rfl rfl
    · refine x_icmp_ge_f (tgt := 51) dL_writeNumbers_21 (by decide) c1 ?_
      refine x_aload 2 dL_writeNumbers_24 rfl ?_
      refine x_iload 4 dL_writeNumbers_26 rfl ?_
      obtain ⟨c2, h⟩ := x_ckk h
      obtain ⟨c3, h⟩ := x_ckk h
      refine x_iald dL_writeNumbers_28 c2 (xb_in c3) rfl ?_
      obtain ⟨v4, ev4, h⟩ := x_lt h
      refine x_nmi ev4 ?_
      refine x_istore (L' := [(0, .ref p_0), (1, .ref p_1), (4, .ref p_4), (5, .int v_5), (6, .int v_6), (7, .int v4)]) [1, 2, 3, 4, 5, 0] dL_writeNumbers_29 (by decide) rfl ?_
      refine x_aload_n 0 dL_writeNumbers_31 rfl rfl ?_
      refine x_aload_n 1 dL_writeNumbers_32 rfl rfl ?_
      refine x_ldcS (tx := " ") (i := 13) dL_writeNumbers_33 (by decide) ?_
      obtain ⟨N6, e5, h⟩ := x_bd1 h
      refine x_nS (As := [.ref p_0, .ref p_1, .ref (xS G 13)]) (R' := xR 5 0 0) (zz := yL_write) dL_writeNumbers_35 ml_L_104 wt_L_write wn_L wc_L_write hp_L_write ⟨Nat.le_of_ble_eq_true rfl, Nat.le_of_ble_eq_true rfl⟩ rfl (Nat.le_of_ble_eq_true rfl) ⟨Nat.le_refl _, Nat.le_refl _⟩ (T_L_write (G := G) hw e5) ?_
      refine x_aload_n 0 dL_writeNumbers_38 rfl rfl ?_
      refine x_aload_n 1 dL_writeNumbers_39 rfl rfl ?_
      refine x_iload 5 dL_writeNumbers_40 rfl ?_
      obtain ⟨N8, e7, h⟩ := x_bd1 h
      refine x_nS (As := [.ref p_0, .ref p_1, .int v4]) (R' := xR 5 0 0) (zz := yL_writeNumber) dL_writeNumbers_42 ml_L_110 wt_L_writeNumber wn_L wc_L_writeNumber hp_L_writeNumber ⟨Nat.le_of_ble_eq_true rfl, Nat.le_of_ble_eq_true rfl⟩ rfl (Nat.le_of_ble_eq_true rfl) ⟨Nat.le_refl _, Nat.le_refl _⟩ (T_L_writeNumber (G := G) hw e7) ?_
      refine x_iinc (L' := [(0, .ref p_0), (1, .ref p_1), (4, .ref p_4), (5, .int v_5), (6, .int (v_6 + 1))]) 4 [1, 2, 3, 4, 0] dL_writeNumbers_45 rfl rfl (by decide) rfl ?_
      refine x_goto (tgt := 17) dL_writeNumbers_48 (by decide) ?_
      exact ih p_0 p_1 p_4 v_5 (v_6 + 1) N8 h
set_option maxHeartbeats 4000000 in
set_option maxRecDepth 100000 in
theorem T_L_writeNumbers {G : XG} {Y : XY} (hw : WT Y) {a0 : Nat} {a1 : Nat} {a2 : Nat} {a3 : Nat} {N : XN} {Nz : XN} (h : f_L_writeNumbers (xS G) (xSv G) Y a0 a1 a2 a3 N = some Nz) : Cn G yL_writeNumbers cL_writeNumbers 8 none (xR 6 0 0) [.ref a0, .ref a1, .ref a2, .ref a3] none Y N Y Nz := by
  refine x_entryN (by decide) (Nat.le_of_ble_eq_true rfl) rfl fun tb => ?_
  rw [f_L_writeNumbers] at h
  refine x_aload_n 0 dL_writeNumbers_0 rfl rfl ?_
  refine x_aload_n 1 dL_writeNumbers_1 rfl rfl ?_
  refine x_aload_n 2 dL_writeNumbers_2 rfl rfl ?_
  obtain ⟨N2, e1, h⟩ := x_bd1 h
  refine x_nS (As := [.ref a0, .ref a1, .ref a2]) (R' := xR 5 0 0) (zz := yL_write) dL_writeNumbers_3 ml_L_104 wt_L_write wn_L wc_L_write hp_L_write ⟨Nat.le_of_ble_eq_true rfl, Nat.le_of_ble_eq_true rfl⟩ rfl (Nat.le_of_ble_eq_true rfl) ⟨Nat.le_refl _, Nat.le_refl _⟩ (T_L_write (G := G) hw e1) ?_
  refine x_aload_n 3 dL_writeNumbers_6 rfl rfl ?_
  refine x_astore (L' := [(0, .ref a0), (1, .ref a1), (4, .ref a3)]) [1, 2, 0] dL_writeNumbers_7 (by decide) rfl ?_
  refine x_aload 2 dL_writeNumbers_9 rfl ?_
  obtain ⟨c3, h⟩ := x_ckk h
  refine x_ilen dL_writeNumbers_11 c3 rfl ?_
  refine x_istore (L' := [(0, .ref a0), (1, .ref a1), (4, .ref a3), (5, .int (Int32.ofNat (kn Y a3)))]) [1, 2, 3, 0] dL_writeNumbers_12 (by decide) rfl ?_
  refine x_iconst (v := 0) dL_writeNumbers_14 rfl ?_
  refine x_istore (L' := [(0, .ref a0), (1, .ref a1), (4, .ref a3), (5, .int (Int32.ofNat (kn Y a3))), (6, .int 0)]) [1, 2, 3, 4, 0] dL_writeNumbers_15 (by decide) rfl ?_
  exact T_L_writeNumbers_17 (G := G) hw FU a0 a1 a3 (Int32.ofNat (kn Y a3)) 0 N2 h
