set_option maxHeartbeats 4000000 in
set_option maxRecDepth 100000 in
theorem T_L_law_1014 {G : XG} {tb : List ExceptionTableEntry} {nm ds : String}  {K4 : XY → Nat → Int32 → Nat → Nat → XN → Prop} (hK4 : ∀ (Y : XY) (q : Nat) (v_2 : Int32) (k : Nat) (n : Nat) (N : XN), K4 Y q v_2 k n N → ExZ G ⟨RL, nm, ds⟩ cL_law 26 ret tb room_1 (law_Z G) k n 4 [(0, .ref (xSb G)), (1, .int 1), (2, .int v_2)] [] Y N) (Y : XY) (q : Nat) (v_2 : Int32) (p_3 : Nat) (k : Nat) (n : Nat) (N : XN) (h : f_L_law_1014 G K4 Y q v_2 p_3 k n N) : ExZ G ⟨RL, nm, ds⟩ cL_law 26 ret tb room_1 (law_Z G) k n 1014 [(0, .ref (xSb G)), (1, .int 1), (2, .int v_2), (3, .ref p_3)] [] Y N := by
  rw [f_L_law_1014] at h
  refine x_iload_n 1 dL_law_1014 rfl rfl ?_
  refine x_if_eq_f (tgt := 1085) dL_law_1015 (by decide) (by decide) ?_
  refine x_aload_n 3 dL_law_1018 rfl rfl ?_
  refine x_iconst (v := 1) dL_law_1019 rfl ?_
  obtain ⟨c1, h⟩ := x_ckP h
  obtain ⟨w5, h⟩ := x_ck9P h
  obtain ⟨c6, h⟩ := x_ckP h
  obtain ⟨r2, N3, q4, h⟩ := x_bd2P h
  refine x_csW (As := [.ref p_3, .int 1]) (R' := xR 31 1 6) (zz := yL_load) dL_law_1020 ml_L_19 wt_L_load wn_L wc_L_load hp_L_load ⟨Nat.le_of_ble_eq_true rfl, Nat.le_of_ble_eq_true rfl⟩ rfl (Nat.le_of_ble_eq_true rfl) c6 (T_L_loadx (G := G) w5.1 w5.2 c1 q4) ?_
  refine x_ldc (v := (-2000000098)) dL_law_1023 kc_L_42 ?_
  obtain ⟨c7, h⟩ := x_ckP h
  refine x_icmp_ne_f (tgt := 1085) dL_law_1025 (by decide) c7 ?_
  refine x_aload_n 3 dL_law_1028 rfl rfl ?_
  refine x_iconst (v := (-1)) dL_law_1029 rfl ?_
  obtain ⟨w11, h⟩ := x_ck9P h
  obtain ⟨c12, h⟩ := x_ckP h
  obtain ⟨r8, N9, q10, h⟩ := x_bd2P h
  refine x_csW (As := [.ref p_3, .int (-1)]) (R' := xR 8 1 6) (zz := yL_calm) dL_law_1030 ml_L_260 wt_L_calm wn_L wc_L_calm hp_L_calm ⟨Nat.le_of_ble_eq_true rfl, Nat.le_of_ble_eq_true rfl⟩ rfl (Nat.le_of_ble_eq_true rfl) c12 (T_L_calm (G := G) w11.1 w11.2 c1 q10) ?_
  refine x_ldc (v := (-2000000097)) dL_law_1033 kc_L_52 ?_
  obtain ⟨c13, h⟩ := x_ckP h
  refine x_icmp_ne_f (tgt := 1085) dL_law_1035 (by decide) c13 ?_
  refine x_aload_n 3 dL_law_1038 rfl rfl ?_
  refine x_bipush (v := 60) dL_law_1039 rfl ?_
  obtain ⟨w17, h⟩ := x_ck9P h
  obtain ⟨c18, h⟩ := x_ckP h
  obtain ⟨r14, N15, q16, h⟩ := x_bd2P h
  refine x_csW (As := [.ref p_3, .int 60]) (R' := xR 8 1 6) (zz := yL_endsAt) dL_law_1041 ml_L_262 wt_L_endsAt wn_L wc_L_endsAt hp_L_endsAt ⟨Nat.le_of_ble_eq_true rfl, Nat.le_of_ble_eq_true rfl⟩ rfl (Nat.le_of_ble_eq_true rfl) c18 (T_L_endsAt (G := G) w17.1 w17.2 c1 q16) ?_
  refine x_ldc (v := (-2000000097)) dL_law_1044 kc_L_52 ?_
  obtain ⟨c19, h⟩ := x_ckP h
  refine x_icmp_ne_f (tgt := 1085) dL_law_1046 (by decide) c19 ?_
  refine x_aload_n 3 dL_law_1049 rfl rfl ?_
  refine x_bipush (v := 6) dL_law_1050 rfl ?_
  obtain ⟨w23, h⟩ := x_ck9P h
  obtain ⟨c24, h⟩ := x_ckP h
  obtain ⟨r20, N21, q22, h⟩ := x_bd2P h
  refine x_csW (As := [.ref p_3, .int 6]) (R' := xR 8 1 6) (zz := yL_bankruptIn) dL_law_1052 ml_L_264 wt_L_bankruptIn wn_L wc_L_bankruptIn hp_L_bankruptIn ⟨Nat.le_of_ble_eq_true rfl, Nat.le_of_ble_eq_true rfl⟩ rfl (Nat.le_of_ble_eq_true rfl) c24 (T_L_bankruptIn (G := G) w23.1 w23.2 c1 q22) ?_
  refine x_ldc (v := (-2000000097)) dL_law_1055 kc_L_52 ?_
  obtain ⟨c25, h⟩ := x_ckP h
  refine x_icmp_ne_f (tgt := 1085) dL_law_1057 (by decide) c25 ?_
  refine x_aload_n 3 dL_law_1060 rfl rfl ?_
  refine x_iconst (v := (-1)) dL_law_1061 rfl ?_
  obtain ⟨w29, h⟩ := x_ck9P h
  obtain ⟨c30, h⟩ := x_ckP h
  obtain ⟨r26, N27, q28, h⟩ := x_bd2P h
  refine x_csW (As := [.ref p_3, .int (-1)]) (R' := xR 9 1 6) (zz := yL_advise) dL_law_1062 ml_L_266 wt_L_advise wn_L wc_L_advise hp_L_advise ⟨Nat.le_of_ble_eq_true rfl, Nat.le_of_ble_eq_true rfl⟩ rfl (Nat.le_of_ble_eq_true rfl) c30 (T_L_advise (G := G) w29.1 w29.2 c1 q28) ?_
  refine x_ldc (v := (-2000000097)) dL_law_1065 kc_L_52 ?_
  obtain ⟨c31, h⟩ := x_ckP h
  refine x_icmp_ne_f (tgt := 1085) dL_law_1067 (by decide) c31 ?_
  refine x_aload_n 3 dL_law_1070 rfl rfl ?_
  refine x_iconst (v := (-1)) dL_law_1071 rfl ?_
  refine x_iconst (v := 0) dL_law_1072 rfl ?_
  obtain ⟨w35, h⟩ := x_ck9P h
  obtain ⟨c36, h⟩ := x_ckP h
  obtain ⟨r32, N33, q34, h⟩ := x_bd2P h
  refine x_csW (As := [.ref p_3, .int (-1), .int 0]) (R' := xR 8 1 6) (zz := yL_fund) dL_law_1073 ml_L_240 wt_L_fund wn_L wc_L_fund hp_L_fund ⟨Nat.le_of_ble_eq_true rfl, Nat.le_of_ble_eq_true rfl⟩ rfl (Nat.le_of_ble_eq_true rfl) c36 (T_L_fund (G := G) w35.1 w35.2 c1 q34) ?_
  refine x_ldc (v := (-2000000097)) dL_law_1076 kc_L_52 ?_
  obtain ⟨c37, h⟩ := x_ckP h
  refine x_icmp_ne_f (tgt := 1085) dL_law_1078 (by decide) c37 ?_
  refine x_iconst (v := 1) dL_law_1081 rfl ?_
  refine x_goto (tgt := 1086) dL_law_1082 (by decide) ?_
  refine x_istore_n (L' := [(0, .ref (xSb G)), (1, .int 1), (2, .int v_2)]) [1, 0, 2] dL_law_1086 rfl (by decide) rfl ?_
  refine x_iinc (L' := [(0, .ref (xSb G)), (1, .int 1), (2, .int (v_2 + 1))]) 2 [1, 2, 0] dL_law_1087 rfl rfl (by decide) rfl ?_
  refine x_goto (tgt := 4) dL_law_1090 (by decide) ?_
  exact hK4 Y q (v_2 + 1) (k + 1 + 1 + 1 + 1 + 1 + 1) (n + 6 + 6 + 6 + 6 + 6 + 6) N33 h
set_option maxHeartbeats 4000000 in
set_option maxRecDepth 100000 in
theorem T_L_law_965 {G : XG} {tb : List ExceptionTableEntry} {nm ds : String}  {K4 : XY → Nat → Int32 → Nat → Nat → XN → Prop} (hK4 : ∀ (Y : XY) (q : Nat) (v_2 : Int32) (k : Nat) (n : Nat) (N : XN), K4 Y q v_2 k n N → ExZ G ⟨RL, nm, ds⟩ cL_law 26 ret tb room_1 (law_Z G) k n 4 [(0, .ref (xSb G)), (1, .int 1), (2, .int v_2)] [] Y N) : ∀ (D9 : Nat) (Y : XY) (q : Nat) (v_2 : Int32) (p_3 : Nat) (p_7 : Nat) (v_8 : Int32) (v_9 : Int32) (k : Nat) (n : Nat) (N : XN), f_L_law_965 G K4 D9 Y q v_2 p_3 p_7 v_8 v_9 k n N → ExZ G ⟨RL, nm, ds⟩ cL_law 26 ret tb room_1 (law_Z G) k n 965 [(0, .ref (xSb G)), (1, .int 1), (2, .int v_2), (3, .ref p_3), (7, .ref p_7), (8, .int v_8), (9, .int v_9)] [] Y N := by
  intro D9
  induction D9 with
  | zero => intro Y q v_2 p_3 p_7 v_8 v_9 k n N h; exact False.elim h
  | succ D9 ih =>
    intro Y q v_2 p_3 p_7 v_8 v_9 k n N h
    rw [f_L_law_965] at h
    refine x_iload 6 dL_law_965 rfl ?_
    refine x_bipush (v := 8) dL_law_967 rfl ?_
    rcases x_ifP h with ⟨c1, h⟩ | ⟨c1, h⟩
    · refine x_icmp_ge_t (tgt := 1014) dL_law_969 (by decide) c1 ?_
      refine x_sub (L' := [(0, .ref (xSb G)), (1, .int 1), (2, .int v_2), (3, .ref p_3)]) [0, 1, 2, 3] rfl ?_
      exact T_L_law_1014 (G := G) hK4 Y q v_2 p_3 k n N h
    · refine x_icmp_ge_f (tgt := 1014) dL_law_969 (by decide) c1 ?_
      refine x_iload 6 dL_law_972 rfl ?_
      refine x_iload 5 dL_law_974 rfl ?_
      rcases x_ifP h with ⟨c2, h⟩ | ⟨c2, h⟩
      · refine x_icmp_ge_t (tgt := 1014) dL_law_976 (by decide) c2 ?_
        refine x_sub (L' := [(0, .ref (xSb G)), (1, .int 1), (2, .int v_2), (3, .ref p_3)]) [0, 1, 2, 3] rfl ?_
        exact T_L_law_1014 (G := G) hK4 Y q v_2 p_3 k n N h
      · refine x_icmp_ge_f (tgt := 1014) dL_law_976 (by decide) c2 ?_
        refine x_iload_n 1 dL_law_979 rfl rfl ?_
        refine x_if_eq_f (tgt := 1014) dL_law_980 (by decide) (by decide) ?_
        refine x_aload_n 3 dL_law_983 rfl rfl ?_
        obtain ⟨c3, h⟩ := x_ckP h
        obtain ⟨w7, h⟩ := x_ckWP h
        obtain ⟨c8, h⟩ := x_ckP h
        obtain ⟨r4, N5, q6, h⟩ := x_bd2P h
        refine x_callV (b := p_3) (As := []) (ci := 7) (R' := xR 3 0 0) (zz := yX7_undo) dL_law_984 ml_L_221 wi_X7_undo wv_X7_undo wn_X7 wc_X7_undo hp_X7_undo ⟨Nat.le_of_ble_eq_true rfl, Nat.le_of_ble_eq_true rfl⟩ rfl (Nat.le_of_ble_eq_true rfl) c8 vc_X7 c3 (T_X7_undo (G := G) w7 c3 q6) ?_
        obtain ⟨c9, h⟩ := x_ckP h
        refine x_if_lt_f (tgt := 1006) dL_law_987 (by decide) c9 ?_
        refine x_aload_n 3 dL_law_990 rfl rfl ?_
        refine x_aload 4 dL_law_991 rfl ?_
        refine x_iload 6 dL_law_993 rfl ?_
        obtain ⟨c10, h⟩ := x_ckP h
        obtain ⟨c11, h⟩ := x_ckP h
        obtain ⟨c13, h⟩ := x_ckP h
        obtain ⟨p12, lp12, h⟩ := x_ltP h
        have ep12 : gr Y p_7 v_9.toNatClampNeg = some p12 := by rw [lp12]; exact c13
        refine x_aaldDr dL_law_995 c10 (xb_in c11) ep12 ?_
        obtain ⟨w14, h⟩ := x_ckWP h
        obtain ⟨c15, h⟩ := x_ckP h
        obtain ⟨r16, Y18, q19, N20, e17, h⟩ := x_bd4P h
        refine x_nS (As := [.ref p_3, .ref p12]) (R' := xR 9 560 3360) (zz := yL_agrees) dL_law_996 ml_L_214 wt_L_agrees wn_L wc_L_agrees hp_L_agrees ⟨Nat.le_of_ble_eq_true rfl, Nat.le_of_ble_eq_true rfl⟩ rfl (Nat.le_of_ble_eq_true rfl) c15 (T_L_agrees (G := G) e17) ?_
        obtain ⟨c21, h⟩ := x_ckP h
        refine x_if_eq_f (tgt := 1006) dL_law_999 (by decide) c21 ?_
        refine x_iconst (v := 1) dL_law_1002 rfl ?_
        refine x_goto (tgt := 1007) dL_law_1003 (by decide) ?_
        refine x_istore_n (L' := [(0, .ref (xSb G)), (1, .int 1), (2, .int v_2), (3, .ref p_3), (7, .ref p_7), (8, .int v_8), (9, .int v_9)]) [1, 0, 2, 3, 4, 5, 6] dL_law_1007 rfl (by decide) rfl ?_
        refine x_iinc (L' := [(0, .ref (xSb G)), (1, .int 1), (2, .int v_2), (3, .ref p_3), (7, .ref p_7), (8, .int v_8), (9, .int (v_9 + 1))]) 6 [1, 2, 3, 4, 5, 6, 0] dL_law_1008 rfl rfl (by decide) rfl ?_
        refine x_goto (tgt := 965) dL_law_1011 (by decide) ?_
        exact ih Y18 q19 v_2 p_3 p_7 v_8 (v_9 + 1) (k + 560) (n + 3360) N20 h
set_option maxHeartbeats 4000000 in
set_option maxRecDepth 100000 in
theorem T_L_law_937 {G : XG} {tb : List ExceptionTableEntry} {nm ds : String}  {K4 : XY → Nat → Int32 → Nat → Nat → XN → Prop} (hK4 : ∀ (Y : XY) (q : Nat) (v_2 : Int32) (k : Nat) (n : Nat) (N : XN), K4 Y q v_2 k n N → ExZ G ⟨RL, nm, ds⟩ cL_law 26 ret tb room_1 (law_Z G) k n 4 [(0, .ref (xSb G)), (1, .int 1), (2, .int v_2)] [] Y N) {K190 : XY → Nat → Int32 → Nat → Nat → Nat → Nat → Int32 → Int32 → Nat → Nat → XN → Prop} (hK190 : ∀ (Y : XY) (q : Nat) (v_2 : Int32) (p_3 : Nat) (p_5 : Nat) (p_6 : Nat) (p_7 : Nat) (v_8 : Int32) (v_9 : Int32) (k : Nat) (n : Nat) (N : XN), K190 Y q v_2 p_3 p_5 p_6 p_7 v_8 v_9 k n N → ExZ G ⟨RL, nm, ds⟩ cL_law 26 ret tb room_1 (law_Z G) k n 190 [(0, .ref (xSb G)), (1, .int 1), (2, .int v_2), (3, .ref p_3), (5, .ref p_5), (6, .ref p_6), (7, .ref p_7), (8, .int v_8), (9, .int v_9)] [] Y N) (Y : XY) (q : Nat) (v_2 : Int32) (p_3 : Nat) (p_5 : Nat) (p_6 : Nat) (p_7 : Nat) (v_8 : Int32) (v_9 : Int32) (k : Nat) (n : Nat) (N : XN) (h : f_L_law_937 G K4 K190 Y q v_2 p_3 p_5 p_6 p_7 v_8 v_9 k n N) : ExZ G ⟨RL, nm, ds⟩ cL_law 26 ret tb room_1 (law_Z G) k n 937 [(0, .ref (xSb G)), (1, .int 1), (2, .int v_2), (3, .ref p_3), (5, .ref p_5), (6, .ref p_6), (7, .ref p_7), (8, .int v_8), (9, .int v_9)] [] Y N := by
  rw [f_L_law_937] at h
  refine x_iload_n 1 dL_law_937 rfl rfl ?_
  refine x_if_eq_f (tgt := 954) dL_law_938 (by decide) (by decide) ?_
  refine x_aload_n 3 dL_law_941 rfl rfl ?_
  refine x_aload 5 dL_law_942 rfl ?_
  obtain ⟨w1, h⟩ := x_ckWP h
  obtain ⟨c2, h⟩ := x_ckP h
  obtain ⟨r3, Y5, q6, N7, e4, h⟩ := x_bd4P h
  refine x_nS (As := [.ref p_3, .ref p_6]) (R' := xR 9 560 3360) (zz := yL_agrees) dL_law_944 ml_L_214 wt_L_agrees wn_L wc_L_agrees hp_L_agrees ⟨Nat.le_of_ble_eq_true rfl, Nat.le_of_ble_eq_true rfl⟩ rfl (Nat.le_of_ble_eq_true rfl) c2 (T_L_agrees (G := G) e4) ?_
  obtain ⟨c8, h⟩ := x_ckP h
  refine x_if_eq_f (tgt := 954) dL_law_947 (by decide) c8 ?_
  refine x_iconst (v := 1) dL_law_950 rfl ?_
  refine x_goto (tgt := 955) dL_law_951 (by decide) ?_
  refine x_istore_n (L' := [(0, .ref (xSb G)), (1, .int 1), (2, .int v_2), (3, .ref p_3), (5, .ref p_5), (6, .ref p_6), (7, .ref p_7), (8, .int v_8), (9, .int v_9)]) [1, 0, 2, 3, 4, 5, 6, 7, 8] dL_law_955 rfl (by decide) rfl ?_
  refine x_iinc (L' := [(0, .ref (xSb G)), (1, .int 1), (2, .int v_2), (3, .ref p_3), (5, .ref p_5), (6, .ref p_6), (7, .ref p_7), (8, .int v_8), (9, .int (v_9 + 1))]) 8 [1, 2, 3, 4, 5, 6, 7, 8, 0] dL_law_956 rfl rfl (by decide) rfl ?_
  refine x_goto (tgt := 190) dL_law_959 (by decide) ?_
  exact hK190 Y5 q6 v_2 p_3 p_5 p_6 p_7 v_8 (v_9 + 1) (k + 560) (n + 3360) N7 h
set_option maxHeartbeats 4000000 in
set_option maxRecDepth 100000 in
theorem T_L_law_905 {G : XG} {tb : List ExceptionTableEntry} {nm ds : String}  {K4 : XY → Nat → Int32 → Nat → Nat → XN → Prop} (hK4 : ∀ (Y : XY) (q : Nat) (v_2 : Int32) (k : Nat) (n : Nat) (N : XN), K4 Y q v_2 k n N → ExZ G ⟨RL, nm, ds⟩ cL_law 26 ret tb room_1 (law_Z G) k n 4 [(0, .ref (xSb G)), (1, .int 1), (2, .int v_2)] [] Y N) {K190 : XY → Nat → Int32 → Nat → Nat → Nat → Nat → Int32 → Int32 → Nat → Nat → XN → Prop} (hK190 : ∀ (Y : XY) (q : Nat) (v_2 : Int32) (p_3 : Nat) (p_5 : Nat) (p_6 : Nat) (p_7 : Nat) (v_8 : Int32) (v_9 : Int32) (k : Nat) (n : Nat) (N : XN), K190 Y q v_2 p_3 p_5 p_6 p_7 v_8 v_9 k n N → ExZ G ⟨RL, nm, ds⟩ cL_law 26 ret tb room_1 (law_Z G) k n 190 [(0, .ref (xSb G)), (1, .int 1), (2, .int v_2), (3, .ref p_3), (5, .ref p_5), (6, .ref p_6), (7, .ref p_7), (8, .int v_8), (9, .int v_9)] [] Y N) : ∀ (D9 : Nat) (Y : XY) (q : Nat) (v_2 : Int32) (p_3 : Nat) (p_5 : Nat) (p_6 : Nat) (p_7 : Nat) (v_8 : Int32) (v_9 : Int32) (p_10 : Nat) (v_19 : Int32) (k : Nat) (n : Nat) (N : XN), f_L_law_905 G K4 K190 D9 Y q v_2 p_3 p_5 p_6 p_7 v_8 v_9 p_10 v_19 k n N → ExZ G ⟨RL, nm, ds⟩ cL_law 26 ret tb room_1 (law_Z G) k n 905 [(0, .ref (xSb G)), (1, .int 1), (2, .int v_2), (3, .ref p_3), (5, .ref p_5), (6, .ref p_6), (7, .ref p_7), (8, .int v_8), (9, .int v_9), (10, .ref p_10), (19, .int v_19)] [] Y N := by
  intro D9
  induction D9 with
  | zero => intro Y q v_2 p_3 p_5 p_6 p_7 v_8 v_9 p_10 v_19 k n N h; exact False.elim h
  | succ D9 ih =>
    intro Y q v_2 p_3 p_5 p_6 p_7 v_8 v_9 p_10 v_19 k n N h
    rw [f_L_law_905] at h
    refine x_iload 10 dL_law_905 rfl ?_
    rcases x_ifP h with ⟨c1, h⟩ | ⟨c1, h⟩
    · refine x_if_le_t (tgt := 928) dL_law_907 (by decide) c1 ?_
      refine x_aload 6 dL_law_928 rfl ?_
      refine x_iconst (v := 0) dL_law_930 rfl ?_
      refine x_aload 9 dL_law_931 rfl ?_
      obtain ⟨c2, h⟩ := x_ckP h
      obtain ⟨c3, h⟩ := x_ckP h
      obtain ⟨c4, h⟩ := x_ckP h
      refine x_aastD (o := some p_10) dL_law_933 c2 (xb_in c3) (fun b h8 => Option.some.inj h8 ▸ c4) ?_
      obtain ⟨Y5, eY5, h⟩ := x_ltP h
      refine x_nmY eY5 ?_
      refine x_iinc (L' := [(0, .ref (xSb G)), (1, .int 1), (2, .int v_2), (3, .ref p_3), (5, .ref p_5), (6, .ref p_6), (7, .ref p_7), (8, .int (v_8 + 1)), (9, .int v_9)]) 7 [1, 2, 3, 4, 5, 6, 7, 0, 8] dL_law_934 rfl rfl (by decide) rfl ?_
      exact T_L_law_937 (G := G) hK4 hK190 Y5 q v_2 p_3 p_5 p_6 p_7 (v_8 + 1) v_9 k n N h
    · refine x_if_le_f (tgt := 928) dL_law_907 (by decide) c1 ?_
      refine x_aload 6 dL_law_910 rfl ?_
      refine x_iload 10 dL_law_912 rfl ?_
      refine x_aload 6 dL_law_914 rfl ?_
      refine x_iload 10 dL_law_916 rfl ?_
      refine x_iconst (v := 1) dL_law_918 rfl ?_
      refine x_isub dL_law_919 ?_
      obtain ⟨c6, h⟩ := x_ckP h
      obtain ⟨c7, h⟩ := x_ckP h
      refine x_aaldD dL_law_920 c6 (xb_in c7) ?_
      obtain ⟨c8, h⟩ := x_ckP h
      obtain ⟨c9, h⟩ := x_ckP h
      refine x_aastD (o := gr Y p_7 (v_19 - 1).toNatClampNeg) dL_law_921 c6 (xb_in c8) c9 ?_
      obtain ⟨Y10, eY10, h⟩ := x_ltP h
      refine x_nmY eY10 ?_
      refine x_iinc (L' := [(0, .ref (xSb G)), (1, .int 1), (2, .int v_2), (3, .ref p_3), (5, .ref p_5), (6, .ref p_6), (7, .ref p_7), (8, .int v_8), (9, .int v_9), (10, .ref p_10), (19, .int (v_19 + (-1)))]) 10 [1, 2, 3, 4, 5, 6, 7, 8, 9, 10, 0] dL_law_922 rfl rfl (by decide) rfl ?_
      refine x_goto (tgt := 905) dL_law_925 (by decide) ?_
      exact ih Y10 q v_2 p_3 p_5 p_6 p_7 v_8 v_9 p_10 (v_19 + (-1)) k n N h
set_option maxHeartbeats 4000000 in
set_option maxRecDepth 100000 in
theorem T_L_law_896 {G : XG} {tb : List ExceptionTableEntry} {nm ds : String}  {K4 : XY → Nat → Int32 → Nat → Nat → XN → Prop} (hK4 : ∀ (Y : XY) (q : Nat) (v_2 : Int32) (k : Nat) (n : Nat) (N : XN), K4 Y q v_2 k n N → ExZ G ⟨RL, nm, ds⟩ cL_law 26 ret tb room_1 (law_Z G) k n 4 [(0, .ref (xSb G)), (1, .int 1), (2, .int v_2)] [] Y N) {K190 : XY → Nat → Int32 → Nat → Nat → Nat → Nat → Int32 → Int32 → Nat → Nat → XN → Prop} (hK190 : ∀ (Y : XY) (q : Nat) (v_2 : Int32) (p_3 : Nat) (p_5 : Nat) (p_6 : Nat) (p_7 : Nat) (v_8 : Int32) (v_9 : Int32) (k : Nat) (n : Nat) (N : XN), K190 Y q v_2 p_3 p_5 p_6 p_7 v_8 v_9 k n N → ExZ G ⟨RL, nm, ds⟩ cL_law 26 ret tb room_1 (law_Z G) k n 190 [(0, .ref (xSb G)), (1, .int 1), (2, .int v_2), (3, .ref p_3), (5, .ref p_5), (6, .ref p_6), (7, .ref p_7), (8, .int v_8), (9, .int v_9)] [] Y N) (Y : XY) (q : Nat) (v_2 : Int32) (p_3 : Nat) (p_5 : Nat) (p_6 : Nat) (p_7 : Nat) (v_8 : Int32) (v_9 : Int32) (p_10 : Nat) (v_11 : Int32) (k : Nat) (n : Nat) (N : XN) (h : f_L_law_896 G K4 K190 Y q v_2 p_3 p_5 p_6 p_7 v_8 v_9 p_10 v_11 k n N) : ExZ G ⟨RL, nm, ds⟩ cL_law 26 ret tb room_1 (law_Z G) k n 896 [(0, .ref (xSb G)), (1, .int 1), (2, .int v_2), (3, .ref p_3), (5, .ref p_5), (6, .ref p_6), (7, .ref p_7), (8, .int v_8), (9, .int v_9), (10, .ref p_10), (11, .int v_11)] [] Y N := by
  rw [f_L_law_896] at h
  refine x_iload 10 dL_law_896 rfl ?_
  rcases x_ifP h with ⟨c1, h⟩ | ⟨c1, h⟩
  · refine x_if_eq_t (tgt := 937) dL_law_898 (by decide) c1 ?_
    refine x_sub (L' := [(0, .ref (xSb G)), (1, .int 1), (2, .int v_2), (3, .ref p_3), (5, .ref p_5), (6, .ref p_6), (7, .ref p_7), (8, .int v_8), (9, .int v_9)]) [0, 1, 2, 3, 4, 5, 6, 7, 8] rfl ?_
    exact T_L_law_937 (G := G) hK4 hK190 Y q v_2 p_3 p_5 p_6 p_7 v_8 v_9 k n N h
  · refine x_if_eq_f (tgt := 937) dL_law_898 (by decide) c1 ?_
    refine x_bipush (v := 8) dL_law_901 rfl ?_
    refine x_istore (L' := [(0, .ref (xSb G)), (1, .int 1), (2, .int v_2), (3, .ref p_3), (5, .ref p_5), (6, .ref p_6), (7, .ref p_7), (8, .int v_8), (9, .int v_9), (10, .ref p_10), (19, .int 8)]) [1, 2, 3, 4, 5, 6, 7, 8, 9, 10, 0] dL_law_903 (by decide) rfl ?_
    exact T_L_law_905 (G := G) hK4 hK190 FU Y q v_2 p_3 p_5 p_6 p_7 v_8 v_9 p_10 8 k n N h
set_option maxHeartbeats 4000000 in
set_option maxRecDepth 100000 in
theorem T_L_law_844 {G : XG} {tb : List ExceptionTableEntry} {nm ds : String}  {K4 : XY → Nat → Int32 → Nat → Nat → XN → Prop} (hK4 : ∀ (Y : XY) (q : Nat) (v_2 : Int32) (k : Nat) (n : Nat) (N : XN), K4 Y q v_2 k n N → ExZ G ⟨RL, nm, ds⟩ cL_law 26 ret tb room_1 (law_Z G) k n 4 [(0, .ref (xSb G)), (1, .int 1), (2, .int v_2)] [] Y N) {K190 : XY → Nat → Int32 → Nat → Nat → Nat → Nat → Int32 → Int32 → Nat → Nat → XN → Prop} (hK190 : ∀ (Y : XY) (q : Nat) (v_2 : Int32) (p_3 : Nat) (p_5 : Nat) (p_6 : Nat) (p_7 : Nat) (v_8 : Int32) (v_9 : Int32) (k : Nat) (n : Nat) (N : XN), K190 Y q v_2 p_3 p_5 p_6 p_7 v_8 v_9 k n N → ExZ G ⟨RL, nm, ds⟩ cL_law 26 ret tb room_1 (law_Z G) k n 190 [(0, .ref (xSb G)), (1, .int 1), (2, .int v_2), (3, .ref p_3), (5, .ref p_5), (6, .ref p_6), (7, .ref p_7), (8, .int v_8), (9, .int v_9)] [] Y N) : ∀ (D9 : Nat) (Y : XY) (q : Nat) (v_2 : Int32) (p_3 : Nat) (p_5 : Nat) (p_6 : Nat) (p_7 : Nat) (v_8 : Int32) (v_9 : Int32) (p_10 : Nat) (v_11 : Int32) (v_23 : Int32) (v_24 : Int32) (v_25 : Int32) (k : Nat) (n : Nat) (N : XN), f_L_law_844 G K4 K190 D9 Y q v_2 p_3 p_5 p_6 p_7 v_8 v_9 p_10 v_11 v_23 v_24 v_25 k n N → ExZ G ⟨RL, nm, ds⟩ cL_law 26 ret tb room_1 (law_Z G) k n 844 [(0, .ref (xSb G)), (2, .int v_2), (3, .ref p_3), (5, .ref p_5), (6, .ref p_6), (7, .ref p_7), (8, .int v_8), (9, .int v_9), (10, .ref p_10), (11, .int v_11), (23, .int v_23), (24, .int v_24), (25, .int v_25)] [] Y N := by
  intro D9
  induction D9 with
  | zero => intro Y q v_2 p_3 p_5 p_6 p_7 v_8 v_9 p_10 v_11 v_23 v_24 v_25 k n N h; exact False.elim h
  | succ D9 ih =>
    intro Y q v_2 p_3 p_5 p_6 p_7 v_8 v_9 p_10 v_11 v_23 v_24 v_25 k n N h
    rw [f_L_law_844] at h
    refine x_iload 12 dL_law_844 rfl ?_
    refine x_iload 10 dL_law_846 rfl ?_
    rcases x_ifP h with ⟨c1, h⟩ | ⟨c1, h⟩
    · refine x_icmp_ge_t (tgt := 862) dL_law_848 (by decide) c1 ?_
      refine x_drop ?_
      obtain ⟨Y2, eY2, h⟩ := x_ltP h
      refine x_nmY eY2 ?_
      refine x_aload_n 2 dL_law_862 rfl rfl ?_
      refine x_iload 10 dL_law_863 rfl ?_
      obtain ⟨c3, h⟩ := x_ckP h
      obtain ⟨w7, h⟩ := x_ck9P h
      obtain ⟨c8, h⟩ := x_ckP h
      obtain ⟨r4, N5, q6, h⟩ := x_bd2P h
      refine x_csW (As := [.ref p_3, .int v_23]) (R' := xR 8 1 6) (zz := yL_pass) dL_law_865 ml_L_224 wt_L_pass wn_L wc_L_pass hp_L_pass ⟨Nat.le_of_ble_eq_true rfl, Nat.le_of_ble_eq_true rfl⟩ rfl (Nat.le_of_ble_eq_true rfl) c8 (T_L_pass (G := G) w7.1 w7.2 c3 q6) ?_
      refine x_iload 9 dL_law_868 rfl ?_
      rcases x_ifP h with ⟨c9, h⟩ | ⟨c9, h⟩
      · refine x_if_eq_t (tgt := 885) dL_law_870 (by decide) c9 ?_
        refine x_ldc (v := (-2000000098)) dL_law_885 kc_L_42 ?_
        obtain ⟨c10, h⟩ := x_ckP h
        refine x_icmp_ne_f (tgt := 894) dL_law_887 (by decide) c10 ?_
        refine x_iconst (v := 1) dL_law_890 rfl ?_
        refine x_goto (tgt := 895) dL_law_891 (by decide) ?_
        refine x_istore_n (L' := [(0, .ref (xSb G)), (1, .int 1), (2, .int v_2), (3, .ref p_3), (5, .ref p_5), (6, .ref p_6), (7, .ref p_7), (8, .int v_8), (9, .int v_9), (10, .ref p_10), (11, .int v_11)]) [1, 0, 2, 3, 4, 5, 6, 7, 8, 9, 10] dL_law_895 rfl (by decide) rfl ?_
        exact T_L_law_896 (G := G) hK4 hK190 Y2 q v_2 p_3 p_5 p_6 p_7 v_8 v_9 p_10 v_11 (k + 1) (n + 6) N5 h
      · refine x_if_eq_f (tgt := 885) dL_law_870 (by decide) c9 ?_
        refine x_aload 4 dL_law_873 rfl ?_
        refine x_iconst (v := 2) dL_law_875 rfl ?_
        obtain ⟨c11, h⟩ := x_ckP h
        obtain ⟨r12, N14, e13, h⟩ := x_bd2P h
        refine x_nV (b := p_6) (As := [.int 2]) (ci := 8) (R' := xR 1 0 0) (zz := yX8_count) dL_law_876 ml_L_254 wi_X8_count wv_X8_count wn_X8 wc_X8_count hp_X8_count ⟨Nat.le_of_ble_eq_true rfl, Nat.le_of_ble_eq_true rfl⟩ rfl (Nat.le_of_ble_eq_true rfl) c8 vc_X8 c11 (T_X8_count (G := G) e13) ?_
        refine x_iload 11 dL_law_879 rfl ?_
        refine x_isub dL_law_881 ?_
        refine x_goto (tgt := 887) dL_law_882 (by decide) ?_
        obtain ⟨c15, h⟩ := x_ckP h
        refine x_icmp_ne_f (tgt := 894) dL_law_887 (by decide) c15 ?_
        refine x_iconst (v := 1) dL_law_890 rfl ?_
        refine x_goto (tgt := 895) dL_law_891 (by decide) ?_
        refine x_istore_n (L' := [(0, .ref (xSb G)), (1, .int 1), (2, .int v_2), (3, .ref p_3), (5, .ref p_5), (6, .ref p_6), (7, .ref p_7), (8, .int v_8), (9, .int v_9), (10, .ref p_10), (11, .int v_11)]) [1, 0, 2, 3, 4, 5, 6, 7, 8, 9, 10] dL_law_895 rfl (by decide) rfl ?_
        exact T_L_law_896 (G := G) hK4 hK190 Y2 q v_2 p_3 p_5 p_6 p_7 v_8 v_9 p_10 v_11 (k + 1) (n + 6) N14 h
    · refine x_icmp_ge_f (tgt := 862) dL_law_848 (by decide) c1 ?_
      refine x_aload 4 dL_law_851 rfl ?_
      obtain ⟨c16, h⟩ := x_ckP h
      obtain ⟨c17, h⟩ := x_ckP h
      obtain ⟨Y19, q20, N21, e18, h⟩ := x_bd3P h
      refine x_nV (b := p_6) (As := []) (ci := 8) (R' := xR 6 224 832) (zz := yX8_tick) dL_law_853 ml_L_257 wi_X8_tick wv_X8_tick wn_X8 wc_X8_tick hp_X8_tick ⟨Nat.le_of_ble_eq_true rfl, Nat.le_of_ble_eq_true rfl⟩ rfl (Nat.le_of_ble_eq_true rfl) c17 vc_X8 c16 (T_X8_tick (G := G) e18) ?_
      refine x_iinc (L' := [(0, .ref (xSb G)), (2, .int v_2), (3, .ref p_3), (5, .ref p_5), (6, .ref p_6), (7, .ref p_7), (8, .int v_8), (9, .int v_9), (10, .ref p_10), (11, .int v_11), (23, .int v_23), (24, .int v_24), (25, .int (v_25 + 1))]) 12 [1, 2, 3, 4, 5, 6, 7, 8, 9, 10, 11, 12, 0] dL_law_856 rfl rfl (by decide) rfl ?_
      refine x_goto (tgt := 844) dL_law_859 (by decide) ?_
      exact ih Y19 q20 v_2 p_3 p_5 p_6 p_7 v_8 v_9 p_10 v_11 v_23 v_24 (v_25 + 1) (k + 224) (n + 832) N21 h
set_option maxHeartbeats 4000000 in
set_option maxRecDepth 100000 in
theorem T_L_law_816 {G : XG} {tb : List ExceptionTableEntry} {nm ds : String}  {K4 : XY → Nat → Int32 → Nat → Nat → XN → Prop} (hK4 : ∀ (Y : XY) (q : Nat) (v_2 : Int32) (k : Nat) (n : Nat) (N : XN), K4 Y q v_2 k n N → ExZ G ⟨RL, nm, ds⟩ cL_law 26 ret tb room_1 (law_Z G) k n 4 [(0, .ref (xSb G)), (1, .int 1), (2, .int v_2)] [] Y N) {K190 : XY → Nat → Int32 → Nat → Nat → Nat → Nat → Int32 → Int32 → Nat → Nat → XN → Prop} (hK190 : ∀ (Y : XY) (q : Nat) (v_2 : Int32) (p_3 : Nat) (p_5 : Nat) (p_6 : Nat) (p_7 : Nat) (v_8 : Int32) (v_9 : Int32) (k : Nat) (n : Nat) (N : XN), K190 Y q v_2 p_3 p_5 p_6 p_7 v_8 v_9 k n N → ExZ G ⟨RL, nm, ds⟩ cL_law 26 ret tb room_1 (law_Z G) k n 190 [(0, .ref (xSb G)), (1, .int 1), (2, .int v_2), (3, .ref p_3), (5, .ref p_5), (6, .ref p_6), (7, .ref p_7), (8, .int v_8), (9, .int v_9)] [] Y N) (Y : XY) (q : Nat) (v_2 : Int32) (p_3 : Nat) (p_5 : Nat) (p_6 : Nat) (p_7 : Nat) (v_8 : Int32) (v_9 : Int32) (p_10 : Nat) (s0 : Int32) (o1 : Nat) (k : Nat) (n : Nat) (N : XN) (h : f_L_law_816 G K4 K190 Y q v_2 p_3 p_5 p_6 p_7 v_8 v_9 p_10 s0 o1 k n N) : ExZ G ⟨RL, nm, ds⟩ cL_law 26 ret tb room_1 (law_Z G) k n 816 [(0, .ref (xSb G)), (2, .int v_2), (3, .ref p_3), (5, .ref p_5), (6, .ref p_6), (7, .ref p_7), (8, .int v_8), (9, .int v_9), (10, .ref p_10)] [.int s0, .ref o1] Y N := by
  rw [f_L_law_816] at h
  obtain ⟨c1, h⟩ := x_ckP h
  obtain ⟨c2, h⟩ := x_ckP h
  obtain ⟨r3, N5, e4, h⟩ := x_bd2P h
  refine x_nV (b := o1) (As := [.int s0]) (ci := 10) (R' := xR 1 0 0) (zz := yX10_below) dL_law_816 ml_L_118 wi_X10_below wv_X10_below wn_X10 wc_X10_below hp_X10_below ⟨Nat.le_of_ble_eq_true rfl, Nat.le_of_ble_eq_true rfl⟩ rfl (Nat.le_of_ble_eq_true rfl) c2 vc_X10 c1 (T_X10_below (G := G) e4) ?_
  refine x_istore (L' := [(0, .ref (xSb G)), (2, .int v_2), (3, .ref p_3), (5, .ref p_5), (6, .ref p_6), (7, .ref p_7), (8, .int v_8), (9, .int v_9), (10, .ref p_10), (23, .int r3)]) [1, 2, 3, 4, 5, 6, 7, 8, 9, 0] dL_law_819 (by decide) rfl ?_
  refine x_iload 9 dL_law_821 rfl ?_
  rcases x_ifP h with ⟨c6, h⟩ | ⟨c6, h⟩
  · refine x_if_le_t (tgt := 830) dL_law_823 (by decide) c6 ?_
    refine x_iconst (v := 0) dL_law_830 rfl ?_
    refine x_istore (L' := [(0, .ref (xSb G)), (2, .int v_2), (3, .ref p_3), (5, .ref p_5), (6, .ref p_6), (7, .ref p_7), (8, .int v_8), (9, .int v_9), (10, .ref p_10), (11, .int 0), (23, .int r3)]) [1, 2, 3, 4, 5, 6, 7, 8, 9, 0, 10] dL_law_831 (by decide) rfl ?_
    refine x_aload 4 dL_law_833 rfl ?_
    refine x_iconst (v := 2) dL_law_835 rfl ?_
    obtain ⟨c7, h⟩ := x_ckP h
    obtain ⟨r8, N10, e9, h⟩ := x_bd2P h
    refine x_nV (b := p_6) (As := [.int 2]) (ci := 8) (R' := xR 1 0 0) (zz := yX8_count) dL_law_836 ml_L_254 wi_X8_count wv_X8_count wn_X8 wc_X8_count hp_X8_count ⟨Nat.le_of_ble_eq_true rfl, Nat.le_of_ble_eq_true rfl⟩ rfl (Nat.le_of_ble_eq_true rfl) c2 vc_X8 c7 (T_X8_count (G := G) e9) ?_
    refine x_istore (L' := [(0, .ref (xSb G)), (2, .int v_2), (3, .ref p_3), (5, .ref p_5), (6, .ref p_6), (7, .ref p_7), (8, .int v_8), (9, .int v_9), (10, .ref p_10), (11, .int 0), (23, .int r3), (24, .int r8)]) [1, 2, 3, 4, 5, 6, 7, 8, 9, 10, 11, 0] dL_law_839 (by decide) rfl ?_
    refine x_iconst (v := 0) dL_law_841 rfl ?_
    refine x_istore (L' := [(0, .ref (xSb G)), (2, .int v_2), (3, .ref p_3), (5, .ref p_5), (6, .ref p_6), (7, .ref p_7), (8, .int v_8), (9, .int v_9), (10, .ref p_10), (11, .int 0), (23, .int r3), (24, .int r8), (25, .int 0)]) [1, 2, 3, 4, 5, 6, 7, 8, 9, 10, 11, 12, 0] dL_law_842 (by decide) rfl ?_
    exact T_L_law_844 (G := G) hK4 hK190 FU Y q v_2 p_3 p_5 p_6 p_7 v_8 v_9 p_10 0 r3 r8 0 k n N10 h
  · refine x_if_le_f (tgt := 830) dL_law_823 (by decide) c6 ?_
    refine x_iconst (v := 1) dL_law_826 rfl ?_
    refine x_goto (tgt := 831) dL_law_827 (by decide) ?_
    refine x_istore (L' := [(0, .ref (xSb G)), (2, .int v_2), (3, .ref p_3), (5, .ref p_5), (6, .ref p_6), (7, .ref p_7), (8, .int v_8), (9, .int v_9), (10, .ref p_10), (11, .int 1), (23, .int r3)]) [1, 2, 3, 4, 5, 6, 7, 8, 9, 0, 10] dL_law_831 (by decide) rfl ?_
    refine x_aload 4 dL_law_833 rfl ?_
    refine x_iconst (v := 2) dL_law_835 rfl ?_
    obtain ⟨c11, h⟩ := x_ckP h
    obtain ⟨r12, N14, e13, h⟩ := x_bd2P h
    refine x_nV (b := p_6) (As := [.int 2]) (ci := 8) (R' := xR 1 0 0) (zz := yX8_count) dL_law_836 ml_L_254 wi_X8_count wv_X8_count wn_X8 wc_X8_count hp_X8_count ⟨Nat.le_of_ble_eq_true rfl, Nat.le_of_ble_eq_true rfl⟩ rfl (Nat.le_of_ble_eq_true rfl) c2 vc_X8 c11 (T_X8_count (G := G) e13) ?_
    refine x_istore (L' := [(0, .ref (xSb G)), (2, .int v_2), (3, .ref p_3), (5, .ref p_5), (6, .ref p_6), (7, .ref p_7), (8, .int v_8), (9, .int v_9), (10, .ref p_10), (11, .int 1), (23, .int r3), (24, .int r12)]) [1, 2, 3, 4, 5, 6, 7, 8, 9, 10, 11, 0] dL_law_839 (by decide) rfl ?_
    refine x_iconst (v := 0) dL_law_841 rfl ?_
    refine x_istore (L' := [(0, .ref (xSb G)), (2, .int v_2), (3, .ref p_3), (5, .ref p_5), (6, .ref p_6), (7, .ref p_7), (8, .int v_8), (9, .int v_9), (10, .ref p_10), (11, .int 1), (23, .int r3), (24, .int r12), (25, .int 0)]) [1, 2, 3, 4, 5, 6, 7, 8, 9, 10, 11, 12, 0] dL_law_842 (by decide) rfl ?_
    exact T_L_law_844 (G := G) hK4 hK190 FU Y q v_2 p_3 p_5 p_6 p_7 v_8 v_9 p_10 1 r3 r12 0 k n N14 h
set_option maxHeartbeats 4000000 in
set_option maxRecDepth 100000 in
theorem T_L_law_777 {G : XG} {tb : List ExceptionTableEntry} {nm ds : String}  {K4 : XY → Nat → Int32 → Nat → Nat → XN → Prop} (hK4 : ∀ (Y : XY) (q : Nat) (v_2 : Int32) (k : Nat) (n : Nat) (N : XN), K4 Y q v_2 k n N → ExZ G ⟨RL, nm, ds⟩ cL_law 26 ret tb room_1 (law_Z G) k n 4 [(0, .ref (xSb G)), (1, .int 1), (2, .int v_2)] [] Y N) {K190 : XY → Nat → Int32 → Nat → Nat → Nat → Nat → Int32 → Int32 → Nat → Nat → XN → Prop} (hK190 : ∀ (Y : XY) (q : Nat) (v_2 : Int32) (p_3 : Nat) (p_5 : Nat) (p_6 : Nat) (p_7 : Nat) (v_8 : Int32) (v_9 : Int32) (k : Nat) (n : Nat) (N : XN), K190 Y q v_2 p_3 p_5 p_6 p_7 v_8 v_9 k n N → ExZ G ⟨RL, nm, ds⟩ cL_law 26 ret tb room_1 (law_Z G) k n 190 [(0, .ref (xSb G)), (1, .int 1), (2, .int v_2), (3, .ref p_3), (5, .ref p_5), (6, .ref p_6), (7, .ref p_7), (8, .int v_8), (9, .int v_9)] [] Y N) (Y : XY) (q : Nat) (v_2 : Int32) (p_3 : Nat) (p_5 : Nat) (p_6 : Nat) (p_7 : Nat) (v_8 : Int32) (v_9 : Int32) (p_10 : Nat) (v_11 : Int32) (v_12 : Int32) (v_16 : Int32) (v_21 : Int32) (k : Nat) (n : Nat) (N : XN) (h : f_L_law_777 G K4 K190 Y q v_2 p_3 p_5 p_6 p_7 v_8 v_9 p_10 v_11 v_12 v_16 v_21 k n N) : ExZ G ⟨RL, nm, ds⟩ cL_law 26 ret tb room_1 (law_Z G) k n 777 [(0, .ref (xSb G)), (2, .int v_2), (3, .ref p_3), (5, .ref p_5), (6, .ref p_6), (7, .ref p_7), (8, .int v_8), (9, .int v_9), (10, .ref p_10), (11, .int v_11), (12, .int v_12), (16, .int v_16), (21, .int v_21)] [] Y N := by
  rw [f_L_law_777] at h
  refine x_drop ?_
  obtain ⟨Y1, eY1, h⟩ := x_ltP h
  refine x_nmY eY1 ?_
  refine x_aload_n 2 dL_law_777 rfl rfl ?_
  refine x_iload 11 dL_law_778 rfl ?_
  refine x_iload 12 dL_law_780 rfl ?_
  obtain ⟨c2, h⟩ := x_ckP h
  obtain ⟨w6, h⟩ := x_ck9P h
  obtain ⟨c7, h⟩ := x_ckP h
  obtain ⟨r3, N4, q5, h⟩ := x_bd2P h
  refine x_csW (As := [.ref p_3, .int v_16, .int v_21]) (R' := xR 8 1 6) (zz := yL_raise) dL_law_782 ml_L_226 wt_L_raise wn_L wc_L_raise hp_L_raise ⟨Nat.le_of_ble_eq_true rfl, Nat.le_of_ble_eq_true rfl⟩ rfl (Nat.le_of_ble_eq_true rfl) c7 (T_L_raise (G := G) w6.1 w6.2 c2 q5) ?_
  refine x_iload 10 dL_law_785 rfl ?_
  obtain ⟨c8, h⟩ := x_ckP h
  refine x_icmp_ne_f (tgt := 794) dL_law_787 (by decide) c8 ?_
  refine x_iconst (v := 1) dL_law_790 rfl ?_
  refine x_goto (tgt := 795) dL_law_791 (by decide) ?_
  refine x_istore_n (L' := [(0, .ref (xSb G)), (1, .int 1), (2, .int v_2), (3, .ref p_3), (5, .ref p_5), (6, .ref p_6), (7, .ref p_7), (8, .int v_8), (9, .int v_9), (10, .ref p_10), (11, .int v_11)]) [1, 0, 2, 3, 4, 5, 6, 7, 8, 9, 10] dL_law_795 rfl (by decide) rfl ?_
  refine x_goto (tgt := 896) dL_law_796 (by decide) ?_
  exact T_L_law_896 (G := G) hK4 hK190 Y1 q v_2 p_3 p_5 p_6 p_7 v_8 v_9 p_10 v_11 (k + 1) (n + 6) N4 h
set_option maxHeartbeats 4000000 in
set_option maxRecDepth 100000 in
theorem T_L_law_696 {G : XG} {tb : List ExceptionTableEntry} {nm ds : String}  {K4 : XY → Nat → Int32 → Nat → Nat → XN → Prop} (hK4 : ∀ (Y : XY) (q : Nat) (v_2 : Int32) (k : Nat) (n : Nat) (N : XN), K4 Y q v_2 k n N → ExZ G ⟨RL, nm, ds⟩ cL_law 26 ret tb room_1 (law_Z G) k n 4 [(0, .ref (xSb G)), (1, .int 1), (2, .int v_2)] [] Y N) {K190 : XY → Nat → Int32 → Nat → Nat → Nat → Nat → Int32 → Int32 → Nat → Nat → XN → Prop} (hK190 : ∀ (Y : XY) (q : Nat) (v_2 : Int32) (p_3 : Nat) (p_5 : Nat) (p_6 : Nat) (p_7 : Nat) (v_8 : Int32) (v_9 : Int32) (k : Nat) (n : Nat) (N : XN), K190 Y q v_2 p_3 p_5 p_6 p_7 v_8 v_9 k n N → ExZ G ⟨RL, nm, ds⟩ cL_law 26 ret tb room_1 (law_Z G) k n 190 [(0, .ref (xSb G)), (1, .int 1), (2, .int v_2), (3, .ref p_3), (5, .ref p_5), (6, .ref p_6), (7, .ref p_7), (8, .int v_8), (9, .int v_9)] [] Y N) (Y : XY) (q : Nat) (v_2 : Int32) (p_3 : Nat) (p_5 : Nat) (p_6 : Nat) (p_7 : Nat) (v_8 : Int32) (v_9 : Int32) (p_10 : Nat) (v_11 : Int32) (v_12 : Int32) (v_16 : Int32) (v_21 : Int32) (k : Nat) (n : Nat) (N : XN) (h : f_L_law_696 G K4 K190 Y q v_2 p_3 p_5 p_6 p_7 v_8 v_9 p_10 v_11 v_12 v_16 v_21 k n N) : ExZ G ⟨RL, nm, ds⟩ cL_law 26 ret tb room_1 (law_Z G) k n 696 [(0, .ref (xSb G)), (2, .int v_2), (3, .ref p_3), (5, .ref p_5), (6, .ref p_6), (7, .ref p_7), (8, .int v_8), (9, .int v_9), (10, .ref p_10), (11, .int v_11), (12, .int v_12), (16, .int v_16), (21, .int v_21)] [] Y N := by
  rw [f_L_law_696] at h
  refine x_iload 9 dL_law_696 rfl ?_
  rcases x_ifP h with ⟨c1, h⟩ | ⟨c1, h⟩
  · refine x_if_eq_t (tgt := 777) dL_law_698 (by decide) c1 ?_
    exact T_L_law_777 (G := G) hK4 hK190 Y q v_2 p_3 p_5 p_6 p_7 v_8 v_9 p_10 v_11 v_12 v_16 v_21 k n N h
  · refine x_if_eq_f (tgt := 777) dL_law_698 (by decide) c1 ?_
    refine x_aload 4 dL_law_701 rfl ?_
    refine x_aload 4 dL_law_703 rfl ?_
    obtain ⟨c2, h⟩ := x_ckP h
    obtain ⟨c4, h⟩ := x_ckP h
    obtain ⟨p3, lp3, h⟩ := x_ltP h
    have ep3 : gr Y p_6 6 = some p3 := by rw [lp3]; exact c4
    refine x_getr dL_law_705 vc_X8 xin8 fb_X8_6 fl_L_152 xr_X8_6 c2 ep3 ?_
    refine x_bipush (v := 8) dL_law_708 rfl ?_
    obtain ⟨c5, h⟩ := x_ckP h
    obtain ⟨c6, h⟩ := x_ckP h
    refine x_newP (q := q) (M := 8) (kd := 1) dL_law_710 rfl ac9_int (by decide) rfl (by decide) (Or.inl ⟨rfl, rfl, rfl⟩) c5.1 c6 ?_
    obtain ⟨Y7, eY7, h⟩ := x_ltP h
    refine x_nmY eY7 ?_
    obtain ⟨N8, eN8, h⟩ := x_ltP h
    refine x_nmM eN8 ?_
    have k9 : kc Y7 q = 1 := by rw [eY7]; exact kcq rfl
    refine x_dup dL_law_712 rfl ?_
    refine x_iconst (v := 0) dL_law_713 rfl ?_
    refine x_iload 11 dL_law_714 rfl ?_
    obtain ⟨c10, h⟩ := x_ckP h
    refine x_iast dL_law_716 k9 (xb_in c10) xj_0 ?_
    obtain ⟨N11, eN11, h⟩ := x_ltP h
    refine x_nmM eN11 ?_
    refine x_dup dL_law_717 rfl ?_
    refine x_iconst (v := 1) dL_law_718 rfl ?_
    refine x_aload 4 dL_law_719 rfl ?_
    have k12 : kc Y7 p_6 = 18 := by rw [eY7]; exact kc_yK c5.1 c5.2 (by decide) (by decide) c2
    refine x_geti dL_law_721 vc_X8 xin8 fb_X8_0 fl_L_246 xr_X8_0 k12 ?_
    obtain ⟨c13, h⟩ := x_ckP h
    refine x_iast dL_law_724 k9 (xb_in c13) xj_1 ?_
    obtain ⟨N14, eN14, h⟩ := x_ltP h
    refine x_nmM eN14 ?_
    refine x_dup dL_law_725 rfl ?_
    refine x_iconst (v := 2) dL_law_726 rfl ?_
    refine x_iload 12 dL_law_727 rfl ?_
    obtain ⟨c15, h⟩ := x_ckP h
    refine x_iast dL_law_729 k9 (xb_in c15) xj_2 ?_
    obtain ⟨N16, eN16, h⟩ := x_ltP h
    refine x_nmM eN16 ?_
    refine x_dup dL_law_730 rfl ?_
    refine x_iconst (v := 3) dL_law_731 rfl ?_
    refine x_iconst (v := 0) dL_law_732 rfl ?_
    obtain ⟨c17, h⟩ := x_ckP h
    refine x_iast dL_law_733 k9 (xb_in c17) xj_3 ?_
    obtain ⟨N18, eN18, h⟩ := x_ltP h
    refine x_nmM eN18 ?_
    refine x_dup dL_law_734 rfl ?_
    refine x_iconst (v := 4) dL_law_735 rfl ?_
    refine x_iconst (v := (-1)) dL_law_736 rfl ?_
    obtain ⟨c19, h⟩ := x_ckP h
    refine x_iast dL_law_737 k9 (xb_in c19) xj_4 ?_
    obtain ⟨N20, eN20, h⟩ := x_ltP h
    refine x_nmM eN20 ?_
    refine x_dup dL_law_738 rfl ?_
    refine x_iconst (v := 5) dL_law_739 rfl ?_
    refine x_iconst (v := 0) dL_law_740 rfl ?_
    obtain ⟨c21, h⟩ := x_ckP h
    refine x_iast dL_law_741 k9 (xb_in c21) xj_5 ?_
    obtain ⟨N22, eN22, h⟩ := x_ltP h
    refine x_nmM eN22 ?_
    refine x_dup dL_law_742 rfl ?_
    refine x_bipush (v := 6) dL_law_743 rfl ?_
    refine x_iconst (v := (-1)) dL_law_745 rfl ?_
    obtain ⟨c23, h⟩ := x_ckP h
    refine x_iast dL_law_746 k9 (xb_in c23) xj_6 ?_
    obtain ⟨N24, eN24, h⟩ := x_ltP h
    refine x_nmM eN24 ?_
    refine x_dup dL_law_747 rfl ?_
    refine x_bipush (v := 7) dL_law_748 rfl ?_
    refine x_iconst (v := 0) dL_law_750 rfl ?_
    obtain ⟨c25, h⟩ := x_ckP h
    refine x_iast dL_law_751 k9 (xb_in c25) xj_7 ?_
    obtain ⟨N26, eN26, h⟩ := x_ltP h
    refine x_nmM eN26 ?_
    obtain ⟨c27, h⟩ := x_ckP h
    obtain ⟨r28, Y30, q31, N32, e29, h⟩ := x_bd4P h
    refine x_nS (As := [.ref p3, .ref q]) (R' := xR 1 1 64) (zz := yL_with) dL_law_752 ml_L_127 wt_L_with wn_L wc_L_with hp_L_with ⟨Nat.le_of_ble_eq_true rfl, Nat.le_of_ble_eq_true rfl⟩ rfl (Nat.le_of_ble_eq_true rfl) c27 (T_L_with (G := G) e29) ?_
    obtain ⟨c33, h⟩ := x_ckP h
    refine x_putr dL_law_755 vc_X8 xin8 tyX8_ok nmX8 fb_X8_6 fl_L_152 ff_X8_6 xr_X8_6 rfl rfl c33 ?_
    obtain ⟨Y34, eY34, h⟩ := x_ltP h
    refine x_nmY eY34 ?_
    refine x_aload 4 dL_law_758 rfl ?_
    refine x_aload 4 dL_law_760 rfl ?_
    have k35 : kc Y34 p_6 = 18 := by rw [eY34]; exact c33
    obtain ⟨c37, h⟩ := x_ckP h
    obtain ⟨p36, lp36, h⟩ := x_ltP h
    have ep36 : gr Y34 p_6 6 = some p36 := by rw [lp36]; exact c37
    refine x_getr dL_law_762 vc_X8 xin8 fb_X8_6 fl_L_152 xr_X8_6 k35 ep36 ?_
    refine x_aload 4 dL_law_765 rfl ?_
    refine x_getr dL_law_767 vc_X8 xin8 fb_X8_6 fl_L_152 xr_X8_6 k35 ep36 ?_
    obtain ⟨c38, h⟩ := x_ckP h
    refine x_rlen (j := 4) dL_law_770 (by decide) c38 rfl ?_
    refine x_iconst (v := 1) dL_law_771 rfl ?_
    refine x_isub dL_law_772 ?_
    obtain ⟨c39, h⟩ := x_ckP h
    obtain ⟨c41, h⟩ := x_ckP h
    obtain ⟨p40, lp40, h⟩ := x_ltP h
    have ep40 : gr Y34 p36 ((Int32.ofNat (kn Y34 p36)) - 1).toNatClampNeg = some p40 := by rw [lp40]; exact c41
    refine x_aald (j := 4) dL_law_773 (by decide) c38 (xb_in c39) ep40 ?_
    obtain ⟨N43, e42, h⟩ := x_bd1P h
    refine x_nV (b := p_6) (As := [.ref p40]) (ci := 8) (R' := xR 3 0 0) (zz := yX8_raises) dL_law_774 ml_L_250 wi_X8_raises wv_X8_raises wn_X8 wc_X8_raises hp_X8_raises ⟨Nat.le_of_ble_eq_true rfl, Nat.le_of_ble_eq_true rfl⟩ rfl (Nat.le_of_ble_eq_true rfl) c27 vc_X8 k35 (T_X8_raises (G := G) e42) ?_
    exact T_L_law_777 (G := G) hK4 hK190 Y34 q31 v_2 p_3 p_5 p_6 p_7 v_8 v_9 p_10 v_11 v_12 v_16 v_21 (k + 1 + 1) (n + 8 + 64) N43 h
set_option maxHeartbeats 4000000 in
set_option maxRecDepth 100000 in
theorem T_L_law_659 {G : XG} {tb : List ExceptionTableEntry} {nm ds : String}  {K4 : XY → Nat → Int32 → Nat → Nat → XN → Prop} (hK4 : ∀ (Y : XY) (q : Nat) (v_2 : Int32) (k : Nat) (n : Nat) (N : XN), K4 Y q v_2 k n N → ExZ G ⟨RL, nm, ds⟩ cL_law 26 ret tb room_1 (law_Z G) k n 4 [(0, .ref (xSb G)), (1, .int 1), (2, .int v_2)] [] Y N) {K190 : XY → Nat → Int32 → Nat → Nat → Nat → Nat → Int32 → Int32 → Nat → Nat → XN → Prop} (hK190 : ∀ (Y : XY) (q : Nat) (v_2 : Int32) (p_3 : Nat) (p_5 : Nat) (p_6 : Nat) (p_7 : Nat) (v_8 : Int32) (v_9 : Int32) (k : Nat) (n : Nat) (N : XN), K190 Y q v_2 p_3 p_5 p_6 p_7 v_8 v_9 k n N → ExZ G ⟨RL, nm, ds⟩ cL_law 26 ret tb room_1 (law_Z G) k n 190 [(0, .ref (xSb G)), (1, .int 1), (2, .int v_2), (3, .ref p_3), (5, .ref p_5), (6, .ref p_6), (7, .ref p_7), (8, .int v_8), (9, .int v_9)] [] Y N) (Y : XY) (q : Nat) (v_2 : Int32) (p_3 : Nat) (p_5 : Nat) (p_6 : Nat) (p_7 : Nat) (v_8 : Int32) (v_9 : Int32) (p_10 : Nat) (v_12 : Int32) (v_14 : Int32) (v_16 : Int32) (v_21 : Int32) (v_22 : Int32) (s0 : Int32) (k : Nat) (n : Nat) (N : XN) (h : f_L_law_659 G K4 K190 Y q v_2 p_3 p_5 p_6 p_7 v_8 v_9 p_10 v_12 v_14 v_16 v_21 v_22 s0 k n N) : ExZ G ⟨RL, nm, ds⟩ cL_law 26 ret tb room_1 (law_Z G) k n 659 [(0, .ref (xSb G)), (2, .int v_2), (3, .ref p_3), (5, .ref p_5), (6, .ref p_6), (7, .ref p_7), (8, .int v_8), (9, .int v_9), (10, .ref p_10), (12, .int v_12), (14, .int v_14), (16, .int v_16), (21, .int v_21), (22, .int v_22)] [.int s0] Y N := by
  rw [f_L_law_659] at h
  refine x_istore (L' := [(0, .ref (xSb G)), (2, .int v_2), (3, .ref p_3), (5, .ref p_5), (6, .ref p_6), (7, .ref p_7), (8, .int v_8), (9, .int v_9), (10, .ref p_10), (11, .int s0), (12, .int v_12), (14, .int v_14), (16, .int v_16), (21, .int v_21), (22, .int v_22)]) [1, 2, 3, 4, 5, 6, 7, 8, 9, 0, 10, 11, 12, 13, 14] dL_law_659 (by decide) rfl ?_
  refine x_iload 12 dL_law_661 rfl ?_
  refine x_iload 11 dL_law_663 rfl ?_
  rcases x_ifP h with ⟨c1, h⟩ | ⟨c1, h⟩
  · refine x_icmp_ge_t (tgt := 696) dL_law_665 (by decide) c1 ?_
    refine x_sub (L' := [(0, .ref (xSb G)), (2, .int v_2), (3, .ref p_3), (5, .ref p_5), (6, .ref p_6), (7, .ref p_7), (8, .int v_8), (9, .int v_9), (10, .ref p_10), (11, .int s0), (12, .int v_12), (16, .int v_16), (21, .int v_21)]) [0, 1, 2, 3, 4, 5, 6, 7, 8, 9, 10, 12, 13] rfl ?_
    exact T_L_law_696 (G := G) hK4 hK190 Y q v_2 p_3 p_5 p_6 p_7 v_8 v_9 p_10 s0 v_12 v_16 v_21 k n N h
  · refine x_icmp_ge_f (tgt := 696) dL_law_665 (by decide) c1 ?_
    refine x_iload 14 dL_law_668 rfl ?_
    rcases x_ifP h with ⟨c2, h⟩ | ⟨c2, h⟩
    · refine x_if_ne_f (tgt := 678) dL_law_670 (by decide) c2 ?_
      refine x_ldc (v := (-2000000098)) dL_law_673 kc_L_42 ?_
      refine x_goto (tgt := 694) dL_law_675 (by decide) ?_
      refine x_istore (L' := [(0, .ref (xSb G)), (2, .int v_2), (3, .ref p_3), (5, .ref p_5), (6, .ref p_6), (7, .ref p_7), (8, .int v_8), (9, .int v_9), (10, .ref p_10), (11, .int s0), (12, .int (-2000000098)), (16, .int v_16), (21, .int v_21)]) [1, 2, 3, 4, 5, 6, 7, 8, 9, 10, 0, 12, 13] dL_law_694 (by decide) rfl ?_
      exact T_L_law_696 (G := G) hK4 hK190 Y q v_2 p_3 p_5 p_6 p_7 v_8 v_9 p_10 s0 (-2000000098) v_16 v_21 k n N h
    · refine x_if_ne_t (tgt := 678) dL_law_670 (by decide) c2 ?_
      refine x_iload 9 dL_law_678 rfl ?_
      rcases x_ifP h with ⟨c3, h⟩ | ⟨c3, h⟩
      · refine x_if_eq_t (tgt := 692) dL_law_680 (by decide) c3 ?_
        refine x_ldc (v := (-2000000099)) dL_law_692 kc_L_88 ?_
        refine x_istore (L' := [(0, .ref (xSb G)), (2, .int v_2), (3, .ref p_3), (5, .ref p_5), (6, .ref p_6), (7, .ref p_7), (8, .int v_8), (9, .int v_9), (10, .ref p_10), (11, .int s0), (12, .int (-2000000099)), (16, .int v_16), (21, .int v_21)]) [1, 2, 3, 4, 5, 6, 7, 8, 9, 10, 0, 12, 13] dL_law_694 (by decide) rfl ?_
        exact T_L_law_696 (G := G) hK4 hK190 Y q v_2 p_3 p_5 p_6 p_7 v_8 v_9 p_10 s0 (-2000000099) v_16 v_21 k n N h
      · refine x_if_eq_f (tgt := 692) dL_law_680 (by decide) c3 ?_
        refine x_aload 4 dL_law_683 rfl ?_
        obtain ⟨c4, h⟩ := x_ckP h
        obtain ⟨c6, h⟩ := x_ckP h
        obtain ⟨p5, lp5, h⟩ := x_ltP h
        have ep5 : gr Y p_6 6 = some p5 := by rw [lp5]; exact c6
        refine x_getr dL_law_685 vc_X8 xin8 fb_X8_6 fl_L_152 xr_X8_6 c4 ep5 ?_
        obtain ⟨c7, h⟩ := x_ckP h
        refine x_rlen (j := 4) dL_law_688 (by decide) c7 rfl ?_
        refine x_goto (tgt := 694) dL_law_689 (by decide) ?_
        refine x_istore (L' := [(0, .ref (xSb G)), (2, .int v_2), (3, .ref p_3), (5, .ref p_5), (6, .ref p_6), (7, .ref p_7), (8, .int v_8), (9, .int v_9), (10, .ref p_10), (11, .int s0), (12, .int (Int32.ofNat (kn Y p5))), (16, .int v_16), (21, .int v_21)]) [1, 2, 3, 4, 5, 6, 7, 8, 9, 10, 0, 12, 13] dL_law_694 (by decide) rfl ?_
        exact T_L_law_696 (G := G) hK4 hK190 Y q v_2 p_3 p_5 p_6 p_7 v_8 v_9 p_10 s0 (Int32.ofNat (kn Y p5)) v_16 v_21 k n N h
set_option maxHeartbeats 4000000 in
set_option maxRecDepth 100000 in
theorem T_L_law_629 {G : XG} {tb : List ExceptionTableEntry} {nm ds : String}  {K4 : XY → Nat → Int32 → Nat → Nat → XN → Prop} (hK4 : ∀ (Y : XY) (q : Nat) (v_2 : Int32) (k : Nat) (n : Nat) (N : XN), K4 Y q v_2 k n N → ExZ G ⟨RL, nm, ds⟩ cL_law 26 ret tb room_1 (law_Z G) k n 4 [(0, .ref (xSb G)), (1, .int 1), (2, .int v_2)] [] Y N) {K190 : XY → Nat → Int32 → Nat → Nat → Nat → Nat → Int32 → Int32 → Nat → Nat → XN → Prop} (hK190 : ∀ (Y : XY) (q : Nat) (v_2 : Int32) (p_3 : Nat) (p_5 : Nat) (p_6 : Nat) (p_7 : Nat) (v_8 : Int32) (v_9 : Int32) (k : Nat) (n : Nat) (N : XN), K190 Y q v_2 p_3 p_5 p_6 p_7 v_8 v_9 k n N → ExZ G ⟨RL, nm, ds⟩ cL_law 26 ret tb room_1 (law_Z G) k n 190 [(0, .ref (xSb G)), (1, .int 1), (2, .int v_2), (3, .ref p_3), (5, .ref p_5), (6, .ref p_6), (7, .ref p_7), (8, .int v_8), (9, .int v_9)] [] Y N) (Y : XY) (q : Nat) (v_2 : Int32) (p_3 : Nat) (p_5 : Nat) (p_6 : Nat) (p_7 : Nat) (v_8 : Int32) (v_9 : Int32) (p_10 : Nat) (v_12 : Int32) (v_14 : Int32) (v_16 : Int32) (v_21 : Int32) (s0 : Int32) (k : Nat) (n : Nat) (N : XN) (h : f_L_law_629 G K4 K190 Y q v_2 p_3 p_5 p_6 p_7 v_8 v_9 p_10 v_12 v_14 v_16 v_21 s0 k n N) : ExZ G ⟨RL, nm, ds⟩ cL_law 26 ret tb room_1 (law_Z G) k n 629 [(0, .ref (xSb G)), (2, .int v_2), (3, .ref p_3), (5, .ref p_5), (6, .ref p_6), (7, .ref p_7), (8, .int v_8), (9, .int v_9), (10, .ref p_10), (12, .int v_12), (14, .int v_14), (16, .int v_16), (21, .int v_21)] [.int s0] Y N := by
  rw [f_L_law_629] at h
  refine x_istore (L' := [(0, .ref (xSb G)), (2, .int v_2), (3, .ref p_3), (5, .ref p_5), (6, .ref p_6), (7, .ref p_7), (8, .int v_8), (9, .int v_9), (10, .ref p_10), (12, .int v_12), (14, .int v_14), (16, .int v_16), (21, .int v_21), (22, .int s0)]) [1, 2, 3, 4, 5, 6, 7, 8, 9, 10, 11, 12, 13, 0] dL_law_629 (by decide) rfl ?_
  refine x_iload 11 dL_law_631 rfl ?_
  refine x_iload 10 dL_law_633 rfl ?_
  rcases x_ifP h with ⟨c1, h⟩ | ⟨c1, h⟩
  · refine x_icmp_ge_t (tgt := 658) dL_law_635 (by decide) c1 ?_
    refine x_iconst (v := 0) dL_law_658 rfl ?_
    exact T_L_law_659 (G := G) hK4 hK190 Y q v_2 p_3 p_5 p_6 p_7 v_8 v_9 p_10 v_12 v_14 v_16 v_21 s0 0 k n N h
  · refine x_icmp_ge_f (tgt := 658) dL_law_635 (by decide) c1 ?_
    refine x_iload 13 dL_law_638 rfl ?_
    rcases x_ifP h with ⟨c2, h⟩ | ⟨c2, h⟩
    · refine x_if_eq_t (tgt := 658) dL_law_640 (by decide) c2 ?_
      refine x_iconst (v := 0) dL_law_658 rfl ?_
      exact T_L_law_659 (G := G) hK4 hK190 Y q v_2 p_3 p_5 p_6 p_7 v_8 v_9 p_10 v_12 v_14 v_16 v_21 s0 0 k n N h
    · refine x_if_eq_f (tgt := 658) dL_law_640 (by decide) c2 ?_
      refine x_aload 4 dL_law_643 rfl ?_
      obtain ⟨c3, h⟩ := x_ckP h
      obtain ⟨c5, h⟩ := x_ckP h
      obtain ⟨p4, lp4, h⟩ := x_ltP h
      have ep4 : gr Y p_6 6 = some p4 := by rw [lp4]; exact c5
      refine x_getr dL_law_645 vc_X8 xin8 fb_X8_6 fl_L_152 xr_X8_6 c3 ep4 ?_
      obtain ⟨c6, h⟩ := x_ckP h
      refine x_rlen (j := 4) dL_law_648 (by decide) c6 rfl ?_
      refine x_bipush (v := 60) dL_law_649 rfl ?_
      rcases x_ifP h with ⟨c7, h⟩ | ⟨c7, h⟩
      · refine x_icmp_ge_t (tgt := 658) dL_law_651 (by decide) c7 ?_
        refine x_iconst (v := 0) dL_law_658 rfl ?_
        exact T_L_law_659 (G := G) hK4 hK190 Y q v_2 p_3 p_5 p_6 p_7 v_8 v_9 p_10 v_12 v_14 v_16 v_21 s0 0 k n N h
      · refine x_icmp_ge_f (tgt := 658) dL_law_651 (by decide) c7 ?_
        refine x_iconst (v := 1) dL_law_654 rfl ?_
        refine x_goto (tgt := 659) dL_law_655 (by decide) ?_
        exact T_L_law_659 (G := G) hK4 hK190 Y q v_2 p_3 p_5 p_6 p_7 v_8 v_9 p_10 v_12 v_14 v_16 v_21 s0 1 k n N h
set_option maxHeartbeats 4000000 in
set_option maxRecDepth 100000 in
theorem T_L_law_607 {G : XG} {tb : List ExceptionTableEntry} {nm ds : String}  {K4 : XY → Nat → Int32 → Nat → Nat → XN → Prop} (hK4 : ∀ (Y : XY) (q : Nat) (v_2 : Int32) (k : Nat) (n : Nat) (N : XN), K4 Y q v_2 k n N → ExZ G ⟨RL, nm, ds⟩ cL_law 26 ret tb room_1 (law_Z G) k n 4 [(0, .ref (xSb G)), (1, .int 1), (2, .int v_2)] [] Y N) {K190 : XY → Nat → Int32 → Nat → Nat → Nat → Nat → Int32 → Int32 → Nat → Nat → XN → Prop} (hK190 : ∀ (Y : XY) (q : Nat) (v_2 : Int32) (p_3 : Nat) (p_5 : Nat) (p_6 : Nat) (p_7 : Nat) (v_8 : Int32) (v_9 : Int32) (k : Nat) (n : Nat) (N : XN), K190 Y q v_2 p_3 p_5 p_6 p_7 v_8 v_9 k n N → ExZ G ⟨RL, nm, ds⟩ cL_law 26 ret tb room_1 (law_Z G) k n 190 [(0, .ref (xSb G)), (1, .int 1), (2, .int v_2), (3, .ref p_3), (5, .ref p_5), (6, .ref p_6), (7, .ref p_7), (8, .int v_8), (9, .int v_9)] [] Y N) (Y : XY) (q : Nat) (v_2 : Int32) (p_3 : Nat) (p_5 : Nat) (p_6 : Nat) (p_7 : Nat) (v_8 : Int32) (v_9 : Int32) (p_10 : Nat) (v_12 : Int32) (v_14 : Int32) (v_16 : Int32) (s0 : Int32) (o1 : Nat) (k : Nat) (n : Nat) (N : XN) (h : f_L_law_607 G K4 K190 Y q v_2 p_3 p_5 p_6 p_7 v_8 v_9 p_10 v_12 v_14 v_16 s0 o1 k n N) : ExZ G ⟨RL, nm, ds⟩ cL_law 26 ret tb room_1 (law_Z G) k n 607 [(0, .ref (xSb G)), (2, .int v_2), (3, .ref p_3), (5, .ref p_5), (6, .ref p_6), (7, .ref p_7), (8, .int v_8), (9, .int v_9), (10, .ref p_10), (12, .int v_12), (14, .int v_14), (16, .int v_16)] [.int s0, .ref o1] Y N := by
  rw [f_L_law_607] at h
  obtain ⟨c1, h⟩ := x_ckP h
  obtain ⟨c2, h⟩ := x_ckP h
  obtain ⟨r3, N5, e4, h⟩ := x_bd2P h
  refine x_nV (b := o1) (As := [.int s0]) (ci := 10) (R' := xR 1 0 0) (zz := yX10_below) dL_law_607 ml_L_118 wi_X10_below wv_X10_below wn_X10 wc_X10_below hp_X10_below ⟨Nat.le_of_ble_eq_true rfl, Nat.le_of_ble_eq_true rfl⟩ rfl (Nat.le_of_ble_eq_true rfl) c2 vc_X10 c1 (T_X10_below (G := G) e4) ?_
  refine x_istore (L' := [(0, .ref (xSb G)), (2, .int v_2), (3, .ref p_3), (5, .ref p_5), (6, .ref p_6), (7, .ref p_7), (8, .int v_8), (9, .int v_9), (10, .ref p_10), (12, .int v_12), (14, .int v_14), (16, .int v_16), (21, .int r3)]) [1, 2, 3, 4, 5, 6, 7, 8, 9, 10, 11, 12, 0] dL_law_610 (by decide) rfl ?_
  refine x_iload 12 dL_law_612 rfl ?_
  rcases x_ifP h with ⟨c6, h⟩ | ⟨c6, h⟩
  · refine x_if_le_t (tgt := 628) dL_law_614 (by decide) c6 ?_
    refine x_iconst (v := 0) dL_law_628 rfl ?_
    exact T_L_law_629 (G := G) hK4 hK190 Y q v_2 p_3 p_5 p_6 p_7 v_8 v_9 p_10 v_12 v_14 v_16 r3 0 k n N5 h
  · refine x_if_le_f (tgt := 628) dL_law_614 (by decide) c6 ?_
    refine x_iload 12 dL_law_617 rfl ?_
    refine x_bipush (v := 100) dL_law_619 rfl ?_
    rcases x_ifP h with ⟨c7, h⟩ | ⟨c7, h⟩
    · refine x_icmp_ge_t (tgt := 628) dL_law_621 (by decide) c7 ?_
      refine x_iconst (v := 0) dL_law_628 rfl ?_
      exact T_L_law_629 (G := G) hK4 hK190 Y q v_2 p_3 p_5 p_6 p_7 v_8 v_9 p_10 v_12 v_14 v_16 r3 0 k n N5 h
    · refine x_icmp_ge_f (tgt := 628) dL_law_621 (by decide) c7 ?_
      refine x_iconst (v := 1) dL_law_624 rfl ?_
      refine x_goto (tgt := 629) dL_law_625 (by decide) ?_
      exact T_L_law_629 (G := G) hK4 hK190 Y q v_2 p_3 p_5 p_6 p_7 v_8 v_9 p_10 v_12 v_14 v_16 r3 1 k n N5 h
set_option maxHeartbeats 4000000 in
set_option maxRecDepth 100000 in
theorem T_L_law_588 {G : XG} {tb : List ExceptionTableEntry} {nm ds : String}  {K4 : XY → Nat → Int32 → Nat → Nat → XN → Prop} (hK4 : ∀ (Y : XY) (q : Nat) (v_2 : Int32) (k : Nat) (n : Nat) (N : XN), K4 Y q v_2 k n N → ExZ G ⟨RL, nm, ds⟩ cL_law 26 ret tb room_1 (law_Z G) k n 4 [(0, .ref (xSb G)), (1, .int 1), (2, .int v_2)] [] Y N) {K190 : XY → Nat → Int32 → Nat → Nat → Nat → Nat → Int32 → Int32 → Nat → Nat → XN → Prop} (hK190 : ∀ (Y : XY) (q : Nat) (v_2 : Int32) (p_3 : Nat) (p_5 : Nat) (p_6 : Nat) (p_7 : Nat) (v_8 : Int32) (v_9 : Int32) (k : Nat) (n : Nat) (N : XN), K190 Y q v_2 p_3 p_5 p_6 p_7 v_8 v_9 k n N → ExZ G ⟨RL, nm, ds⟩ cL_law 26 ret tb room_1 (law_Z G) k n 190 [(0, .ref (xSb G)), (1, .int 1), (2, .int v_2), (3, .ref p_3), (5, .ref p_5), (6, .ref p_6), (7, .ref p_7), (8, .int v_8), (9, .int v_9)] [] Y N) (Y : XY) (q : Nat) (v_2 : Int32) (p_3 : Nat) (p_5 : Nat) (p_6 : Nat) (p_7 : Nat) (v_8 : Int32) (v_9 : Int32) (p_10 : Nat) (v_12 : Int32) (v_14 : Int32) (v_16 : Int32) (k : Nat) (n : Nat) (N : XN) (h : f_L_law_588 G K4 K190 Y q v_2 p_3 p_5 p_6 p_7 v_8 v_9 p_10 v_12 v_14 v_16 k n N) : ExZ G ⟨RL, nm, ds⟩ cL_law 26 ret tb room_1 (law_Z G) k n 588 [(0, .ref (xSb G)), (2, .int v_2), (3, .ref p_3), (5, .ref p_5), (6, .ref p_6), (7, .ref p_7), (8, .int v_8), (9, .int v_9), (10, .ref p_10), (12, .int v_12), (14, .int v_14), (16, .int v_16)] [] Y N := by
  rw [f_L_law_588] at h
  refine x_aload 3 dL_law_588 rfl ?_
  refine x_aload 3 dL_law_590 rfl ?_
  refine x_bipush (v := 6) dL_law_592 rfl ?_
  obtain ⟨c1, h⟩ := x_ckP h
  obtain ⟨c2, h⟩ := x_ckP h
  obtain ⟨r3, N5, e4, h⟩ := x_bd2P h
  refine x_nV (b := p_5) (As := [.int 6]) (ci := 10) (R' := xR 1 0 0) (zz := yX10_below) dL_law_594 ml_L_118 wi_X10_below wv_X10_below wn_X10 wc_X10_below hp_X10_below ⟨Nat.le_of_ble_eq_true rfl, Nat.le_of_ble_eq_true rfl⟩ rfl (Nat.le_of_ble_eq_true rfl) c2 vc_X10 c1 (T_X10_below (G := G) e4) ?_
  rcases x_ifP h with ⟨c6, h⟩ | ⟨c6, h⟩
  · refine x_if_ne_f (tgt := 605) dL_law_597 (by decide) c6 ?_
    refine x_bipush (v := 120) dL_law_600 rfl ?_
    refine x_goto (tgt := 607) dL_law_602 (by decide) ?_
    exact T_L_law_607 (G := G) hK4 hK190 Y q v_2 p_3 p_5 p_6 p_7 v_8 v_9 p_10 v_12 v_14 v_16 120 p_5 k n N5 h
  · refine x_if_ne_t (tgt := 605) dL_law_597 (by decide) c6 ?_
    refine x_bipush (v := 25) dL_law_605 rfl ?_
    exact T_L_law_607 (G := G) hK4 hK190 Y q v_2 p_3 p_5 p_6 p_7 v_8 v_9 p_10 v_12 v_14 v_16 25 p_5 k n N5 h
set_option maxHeartbeats 4000000 in
set_option maxRecDepth 100000 in
theorem T_L_law_566 {G : XG} {tb : List ExceptionTableEntry} {nm ds : String}  {K4 : XY → Nat → Int32 → Nat → Nat → XN → Prop} (hK4 : ∀ (Y : XY) (q : Nat) (v_2 : Int32) (k : Nat) (n : Nat) (N : XN), K4 Y q v_2 k n N → ExZ G ⟨RL, nm, ds⟩ cL_law 26 ret tb room_1 (law_Z G) k n 4 [(0, .ref (xSb G)), (1, .int 1), (2, .int v_2)] [] Y N) {K190 : XY → Nat → Int32 → Nat → Nat → Nat → Nat → Int32 → Int32 → Nat → Nat → XN → Prop} (hK190 : ∀ (Y : XY) (q : Nat) (v_2 : Int32) (p_3 : Nat) (p_5 : Nat) (p_6 : Nat) (p_7 : Nat) (v_8 : Int32) (v_9 : Int32) (k : Nat) (n : Nat) (N : XN), K190 Y q v_2 p_3 p_5 p_6 p_7 v_8 v_9 k n N → ExZ G ⟨RL, nm, ds⟩ cL_law 26 ret tb room_1 (law_Z G) k n 190 [(0, .ref (xSb G)), (1, .int 1), (2, .int v_2), (3, .ref p_3), (5, .ref p_5), (6, .ref p_6), (7, .ref p_7), (8, .int v_8), (9, .int v_9)] [] Y N) (Y : XY) (q : Nat) (v_2 : Int32) (p_3 : Nat) (p_5 : Nat) (p_6 : Nat) (p_7 : Nat) (v_8 : Int32) (v_9 : Int32) (p_10 : Nat) (v_11 : Int32) (v_12 : Int32) (v_15 : Int32) (v_16 : Int32) (k : Nat) (n : Nat) (N : XN) (h : f_L_law_566 G K4 K190 Y q v_2 p_3 p_5 p_6 p_7 v_8 v_9 p_10 v_11 v_12 v_15 v_16 k n N) : ExZ G ⟨RL, nm, ds⟩ cL_law 26 ret tb room_1 (law_Z G) k n 566 [(0, .ref (xSb G)), (2, .int v_2), (3, .ref p_3), (5, .ref p_5), (6, .ref p_6), (7, .ref p_7), (8, .int v_8), (9, .int v_9), (10, .ref p_10), (11, .int v_11), (12, .int v_12), (15, .int v_15), (16, .int v_16)] [] Y N := by
  rw [f_L_law_566] at h
  refine x_drop ?_
  obtain ⟨Y1, eY1, h⟩ := x_ltP h
  refine x_nmY eY1 ?_
  refine x_aload_n 2 dL_law_566 rfl rfl ?_
  refine x_iload 11 dL_law_567 rfl ?_
  refine x_iload 12 dL_law_569 rfl ?_
  obtain ⟨c2, h⟩ := x_ckP h
  obtain ⟨w6, h⟩ := x_ck9P h
  obtain ⟨c7, h⟩ := x_ckP h
  obtain ⟨r3, N4, q5, h⟩ := x_bd2P h
  refine x_csW (As := [.ref p_3, .int v_15, .int v_16]) (R' := xR 8 1 6) (zz := yL_release) dL_law_571 ml_L_244 wt_L_release wn_L wc_L_release hp_L_release ⟨Nat.le_of_ble_eq_true rfl, Nat.le_of_ble_eq_true rfl⟩ rfl (Nat.le_of_ble_eq_true rfl) c7 (T_L_release (G := G) w6.1 w6.2 c2 q5) ?_
  refine x_iload 10 dL_law_574 rfl ?_
  obtain ⟨c8, h⟩ := x_ckP h
  refine x_icmp_ne_f (tgt := 583) dL_law_576 (by decide) c8 ?_
  refine x_iconst (v := 1) dL_law_579 rfl ?_
  refine x_goto (tgt := 584) dL_law_580 (by decide) ?_
  refine x_istore_n (L' := [(0, .ref (xSb G)), (1, .int 1), (2, .int v_2), (3, .ref p_3), (5, .ref p_5), (6, .ref p_6), (7, .ref p_7), (8, .int v_8), (9, .int v_9), (10, .ref p_10), (11, .int v_11)]) [1, 0, 2, 3, 4, 5, 6, 7, 8, 9, 10] dL_law_584 rfl (by decide) rfl ?_
  refine x_goto (tgt := 896) dL_law_585 (by decide) ?_
  exact T_L_law_896 (G := G) hK4 hK190 Y1 q v_2 p_3 p_5 p_6 p_7 v_8 v_9 p_10 v_11 (k + 1) (n + 6) N4 h
set_option maxHeartbeats 4000000 in
set_option maxRecDepth 100000 in
theorem T_L_law_524 {G : XG} {tb : List ExceptionTableEntry} {nm ds : String}  {K4 : XY → Nat → Int32 → Nat → Nat → XN → Prop} (hK4 : ∀ (Y : XY) (q : Nat) (v_2 : Int32) (k : Nat) (n : Nat) (N : XN), K4 Y q v_2 k n N → ExZ G ⟨RL, nm, ds⟩ cL_law 26 ret tb room_1 (law_Z G) k n 4 [(0, .ref (xSb G)), (1, .int 1), (2, .int v_2)] [] Y N) {K190 : XY → Nat → Int32 → Nat → Nat → Nat → Nat → Int32 → Int32 → Nat → Nat → XN → Prop} (hK190 : ∀ (Y : XY) (q : Nat) (v_2 : Int32) (p_3 : Nat) (p_5 : Nat) (p_6 : Nat) (p_7 : Nat) (v_8 : Int32) (v_9 : Int32) (k : Nat) (n : Nat) (N : XN), K190 Y q v_2 p_3 p_5 p_6 p_7 v_8 v_9 k n N → ExZ G ⟨RL, nm, ds⟩ cL_law 26 ret tb room_1 (law_Z G) k n 190 [(0, .ref (xSb G)), (1, .int 1), (2, .int v_2), (3, .ref p_3), (5, .ref p_5), (6, .ref p_6), (7, .ref p_7), (8, .int v_8), (9, .int v_9)] [] Y N) (Y : XY) (q : Nat) (v_2 : Int32) (p_3 : Nat) (p_5 : Nat) (p_6 : Nat) (p_7 : Nat) (v_8 : Int32) (v_9 : Int32) (p_10 : Nat) (v_11 : Int32) (v_12 : Int32) (v_15 : Int32) (v_16 : Int32) (k : Nat) (n : Nat) (N : XN) (h : f_L_law_524 G K4 K190 Y q v_2 p_3 p_5 p_6 p_7 v_8 v_9 p_10 v_11 v_12 v_15 v_16 k n N) : ExZ G ⟨RL, nm, ds⟩ cL_law 26 ret tb room_1 (law_Z G) k n 524 [(0, .ref (xSb G)), (2, .int v_2), (3, .ref p_3), (5, .ref p_5), (6, .ref p_6), (7, .ref p_7), (8, .int v_8), (9, .int v_9), (10, .ref p_10), (11, .int v_11), (12, .int v_12), (15, .int v_15), (16, .int v_16)] [] Y N := by
  rw [f_L_law_524] at h
  refine x_drop ?_
  obtain ⟨Y1, eY1, h⟩ := x_ltP h
  refine x_nmY eY1 ?_
  refine x_aload_n 2 dL_law_524 rfl rfl ?_
  refine x_iload 11 dL_law_525 rfl ?_
  refine x_iload 12 dL_law_527 rfl ?_
  obtain ⟨c2, h⟩ := x_ckP h
  obtain ⟨w6, h⟩ := x_ck9P h
  obtain ⟨c7, h⟩ := x_ckP h
  obtain ⟨r3, N4, q5, h⟩ := x_bd2P h
  refine x_csW (As := [.ref p_3, .int v_15, .int v_16]) (R' := xR 8 1 6) (zz := yL_lease) dL_law_529 ml_L_228 wt_L_lease wn_L wc_L_lease hp_L_lease ⟨Nat.le_of_ble_eq_true rfl, Nat.le_of_ble_eq_true rfl⟩ rfl (Nat.le_of_ble_eq_true rfl) c7 (T_L_lease (G := G) w6.1 w6.2 c2 q5) ?_
  refine x_iload 10 dL_law_532 rfl ?_
  obtain ⟨c8, h⟩ := x_ckP h
  refine x_icmp_ne_f (tgt := 541) dL_law_534 (by decide) c8 ?_
  refine x_iconst (v := 1) dL_law_537 rfl ?_
  refine x_goto (tgt := 542) dL_law_538 (by decide) ?_
  refine x_istore_n (L' := [(0, .ref (xSb G)), (1, .int 1), (2, .int v_2), (3, .ref p_3), (5, .ref p_5), (6, .ref p_6), (7, .ref p_7), (8, .int v_8), (9, .int v_9), (10, .ref p_10), (11, .int v_11)]) [1, 0, 2, 3, 4, 5, 6, 7, 8, 9, 10] dL_law_542 rfl (by decide) rfl ?_
  refine x_goto (tgt := 896) dL_law_543 (by decide) ?_
  exact T_L_law_896 (G := G) hK4 hK190 Y1 q v_2 p_3 p_5 p_6 p_7 v_8 v_9 p_10 v_11 (k + 1) (n + 6) N4 h
set_option maxHeartbeats 4000000 in
set_option maxRecDepth 100000 in
theorem T_L_law_504 {G : XG} {tb : List ExceptionTableEntry} {nm ds : String}  {K4 : XY → Nat → Int32 → Nat → Nat → XN → Prop} (hK4 : ∀ (Y : XY) (q : Nat) (v_2 : Int32) (k : Nat) (n : Nat) (N : XN), K4 Y q v_2 k n N → ExZ G ⟨RL, nm, ds⟩ cL_law 26 ret tb room_1 (law_Z G) k n 4 [(0, .ref (xSb G)), (1, .int 1), (2, .int v_2)] [] Y N) {K190 : XY → Nat → Int32 → Nat → Nat → Nat → Nat → Int32 → Int32 → Nat → Nat → XN → Prop} (hK190 : ∀ (Y : XY) (q : Nat) (v_2 : Int32) (p_3 : Nat) (p_5 : Nat) (p_6 : Nat) (p_7 : Nat) (v_8 : Int32) (v_9 : Int32) (k : Nat) (n : Nat) (N : XN), K190 Y q v_2 p_3 p_5 p_6 p_7 v_8 v_9 k n N → ExZ G ⟨RL, nm, ds⟩ cL_law 26 ret tb room_1 (law_Z G) k n 190 [(0, .ref (xSb G)), (1, .int 1), (2, .int v_2), (3, .ref p_3), (5, .ref p_5), (6, .ref p_6), (7, .ref p_7), (8, .int v_8), (9, .int v_9)] [] Y N) (Y : XY) (q : Nat) (v_2 : Int32) (p_3 : Nat) (p_5 : Nat) (p_6 : Nat) (p_7 : Nat) (v_8 : Int32) (v_9 : Int32) (p_10 : Nat) (v_12 : Int32) (v_15 : Int32) (v_16 : Int32) (v_18 : Int32) (k : Nat) (n : Nat) (N : XN) (h : f_L_law_504 G K4 K190 Y q v_2 p_3 p_5 p_6 p_7 v_8 v_9 p_10 v_12 v_15 v_16 v_18 k n N) : ExZ G ⟨RL, nm, ds⟩ cL_law 26 ret tb room_1 (law_Z G) k n 504 [(0, .ref (xSb G)), (2, .int v_2), (3, .ref p_3), (5, .ref p_5), (6, .ref p_6), (7, .ref p_7), (8, .int v_8), (9, .int v_9), (10, .ref p_10), (12, .int v_12), (15, .int v_15), (16, .int v_16), (18, .int v_18)] [] Y N := by
  rw [f_L_law_504] at h
  refine x_iload 12 dL_law_504 rfl ?_
  refine x_istore (L' := [(0, .ref (xSb G)), (2, .int v_2), (3, .ref p_3), (5, .ref p_5), (6, .ref p_6), (7, .ref p_7), (8, .int v_8), (9, .int v_9), (10, .ref p_10), (11, .int v_18), (12, .int v_12), (15, .int v_15), (16, .int v_16), (18, .int v_18)]) [1, 2, 3, 4, 5, 6, 7, 8, 9, 0, 10, 11, 12, 13] dL_law_506 (by decide) rfl ?_
  refine x_iload 13 dL_law_508 rfl ?_
  rcases x_ifP h with ⟨c1, h⟩ | ⟨c1, h⟩
  · refine x_if_eq_t (tgt := 524) dL_law_510 (by decide) c1 ?_
    refine x_sub (L' := [(0, .ref (xSb G)), (2, .int v_2), (3, .ref p_3), (5, .ref p_5), (6, .ref p_6), (7, .ref p_7), (8, .int v_8), (9, .int v_9), (10, .ref p_10), (11, .int v_18), (12, .int v_12), (15, .int v_15), (16, .int v_16)]) [0, 1, 2, 3, 4, 5, 6, 7, 8, 9, 10, 11, 12] rfl ?_
    exact T_L_law_524 (G := G) hK4 hK190 Y q v_2 p_3 p_5 p_6 p_7 v_8 v_9 p_10 v_18 v_12 v_15 v_16 k n N h
  · refine x_if_eq_f (tgt := 524) dL_law_510 (by decide) c1 ?_
    refine x_aload 4 dL_law_513 rfl ?_
    refine x_iload 11 dL_law_515 rfl ?_
    refine x_iload 12 dL_law_517 rfl ?_
    obtain ⟨c2, h⟩ := x_ckP h
    obtain ⟨c3, h⟩ := x_ckP h
    obtain ⟨r4, Y6, q7, N8, e5, h⟩ := x_bd4P h
    refine x_nV (b := p_6) (As := [.int v_15, .int v_16]) (ci := 8) (R' := xR 3 1 4) (zz := yX8_lease) dL_law_519 ml_L_242 wi_X8_lease wv_X8_lease wn_X8 wc_X8_lease hp_X8_lease ⟨Nat.le_of_ble_eq_true rfl, Nat.le_of_ble_eq_true rfl⟩ rfl (Nat.le_of_ble_eq_true rfl) c3 vc_X8 c2 (T_X8_lease (G := G) e5) ?_
    refine x_istore (L' := [(0, .ref (xSb G)), (2, .int v_2), (3, .ref p_3), (5, .ref p_5), (6, .ref p_6), (7, .ref p_7), (8, .int v_8), (9, .int v_9), (10, .ref p_10), (11, .int v_18), (12, .int r4), (15, .int v_15), (16, .int v_16)]) [1, 2, 3, 4, 5, 6, 7, 8, 9, 10, 0, 11, 12] dL_law_522 (by decide) rfl ?_
    exact T_L_law_524 (G := G) hK4 hK190 Y6 q7 v_2 p_3 p_5 p_6 p_7 v_8 v_9 p_10 v_18 r4 v_15 v_16 (k + 1) (n + 4) N8 h
set_option maxHeartbeats 4000000 in
set_option maxRecDepth 100000 in
theorem T_L_law_482 {G : XG} {tb : List ExceptionTableEntry} {nm ds : String}  {K4 : XY → Nat → Int32 → Nat → Nat → XN → Prop} (hK4 : ∀ (Y : XY) (q : Nat) (v_2 : Int32) (k : Nat) (n : Nat) (N : XN), K4 Y q v_2 k n N → ExZ G ⟨RL, nm, ds⟩ cL_law 26 ret tb room_1 (law_Z G) k n 4 [(0, .ref (xSb G)), (1, .int 1), (2, .int v_2)] [] Y N) {K190 : XY → Nat → Int32 → Nat → Nat → Nat → Nat → Int32 → Int32 → Nat → Nat → XN → Prop} (hK190 : ∀ (Y : XY) (q : Nat) (v_2 : Int32) (p_3 : Nat) (p_5 : Nat) (p_6 : Nat) (p_7 : Nat) (v_8 : Int32) (v_9 : Int32) (k : Nat) (n : Nat) (N : XN), K190 Y q v_2 p_3 p_5 p_6 p_7 v_8 v_9 k n N → ExZ G ⟨RL, nm, ds⟩ cL_law 26 ret tb room_1 (law_Z G) k n 190 [(0, .ref (xSb G)), (1, .int 1), (2, .int v_2), (3, .ref p_3), (5, .ref p_5), (6, .ref p_6), (7, .ref p_7), (8, .int v_8), (9, .int v_9)] [] Y N) (Y : XY) (q : Nat) (v_2 : Int32) (p_3 : Nat) (p_5 : Nat) (p_6 : Nat) (p_7 : Nat) (v_8 : Int32) (v_9 : Int32) (p_10 : Nat) (v_11 : Int32) (v_12 : Int32) (v_15 : Int32) (v_19 : Int32) (k : Nat) (n : Nat) (N : XN) (h : f_L_law_482 G K4 K190 Y q v_2 p_3 p_5 p_6 p_7 v_8 v_9 p_10 v_11 v_12 v_15 v_19 k n N) : ExZ G ⟨RL, nm, ds⟩ cL_law 26 ret tb room_1 (law_Z G) k n 482 [(0, .ref (xSb G)), (2, .int v_2), (3, .ref p_3), (5, .ref p_5), (6, .ref p_6), (7, .ref p_7), (8, .int v_8), (9, .int v_9), (10, .ref p_10), (11, .int v_11), (12, .int v_12), (15, .int v_15), (19, .int v_19)] [] Y N := by
  rw [f_L_law_482] at h
  refine x_drop ?_
  obtain ⟨Y1, eY1, h⟩ := x_ltP h
  refine x_nmY eY1 ?_
  refine x_aload_n 2 dL_law_482 rfl rfl ?_
  refine x_iload 11 dL_law_483 rfl ?_
  refine x_iload 12 dL_law_485 rfl ?_
  obtain ⟨c2, h⟩ := x_ckP h
  obtain ⟨w6, h⟩ := x_ck9P h
  obtain ⟨c7, h⟩ := x_ckP h
  obtain ⟨r3, N4, q5, h⟩ := x_bd2P h
  refine x_csW (As := [.ref p_3, .int v_15, .int v_19]) (R' := xR 8 1 6) (zz := yL_fund) dL_law_487 ml_L_240 wt_L_fund wn_L wc_L_fund hp_L_fund ⟨Nat.le_of_ble_eq_true rfl, Nat.le_of_ble_eq_true rfl⟩ rfl (Nat.le_of_ble_eq_true rfl) c7 (T_L_fund (G := G) w6.1 w6.2 c2 q5) ?_
  refine x_iload 10 dL_law_490 rfl ?_
  obtain ⟨c8, h⟩ := x_ckP h
  refine x_icmp_ne_f (tgt := 499) dL_law_492 (by decide) c8 ?_
  refine x_iconst (v := 1) dL_law_495 rfl ?_
  refine x_goto (tgt := 500) dL_law_496 (by decide) ?_
  refine x_istore_n (L' := [(0, .ref (xSb G)), (1, .int 1), (2, .int v_2), (3, .ref p_3), (5, .ref p_5), (6, .ref p_6), (7, .ref p_7), (8, .int v_8), (9, .int v_9), (10, .ref p_10), (11, .int v_11)]) [1, 0, 2, 3, 4, 5, 6, 7, 8, 9, 10] dL_law_500 rfl (by decide) rfl ?_
  refine x_goto (tgt := 896) dL_law_501 (by decide) ?_
  exact T_L_law_896 (G := G) hK4 hK190 Y1 q v_2 p_3 p_5 p_6 p_7 v_8 v_9 p_10 v_11 (k + 1) (n + 6) N4 h
set_option maxHeartbeats 4000000 in
set_option maxRecDepth 100000 in
theorem T_L_law_439 {G : XG} {tb : List ExceptionTableEntry} {nm ds : String}  {K4 : XY → Nat → Int32 → Nat → Nat → XN → Prop} (hK4 : ∀ (Y : XY) (q : Nat) (v_2 : Int32) (k : Nat) (n : Nat) (N : XN), K4 Y q v_2 k n N → ExZ G ⟨RL, nm, ds⟩ cL_law 26 ret tb room_1 (law_Z G) k n 4 [(0, .ref (xSb G)), (1, .int 1), (2, .int v_2)] [] Y N) {K190 : XY → Nat → Int32 → Nat → Nat → Nat → Nat → Int32 → Int32 → Nat → Nat → XN → Prop} (hK190 : ∀ (Y : XY) (q : Nat) (v_2 : Int32) (p_3 : Nat) (p_5 : Nat) (p_6 : Nat) (p_7 : Nat) (v_8 : Int32) (v_9 : Int32) (k : Nat) (n : Nat) (N : XN), K190 Y q v_2 p_3 p_5 p_6 p_7 v_8 v_9 k n N → ExZ G ⟨RL, nm, ds⟩ cL_law 26 ret tb room_1 (law_Z G) k n 190 [(0, .ref (xSb G)), (1, .int 1), (2, .int v_2), (3, .ref p_3), (5, .ref p_5), (6, .ref p_6), (7, .ref p_7), (8, .int v_8), (9, .int v_9)] [] Y N) (Y : XY) (q : Nat) (v_2 : Int32) (p_3 : Nat) (p_5 : Nat) (p_6 : Nat) (p_7 : Nat) (v_8 : Int32) (v_9 : Int32) (p_10 : Nat) (v_11 : Int32) (v_12 : Int32) (v_15 : Int32) (v_19 : Int32) (k : Nat) (n : Nat) (N : XN) (h : f_L_law_439 G K4 K190 Y q v_2 p_3 p_5 p_6 p_7 v_8 v_9 p_10 v_11 v_12 v_15 v_19 k n N) : ExZ G ⟨RL, nm, ds⟩ cL_law 26 ret tb room_1 (law_Z G) k n 439 [(0, .ref (xSb G)), (2, .int v_2), (3, .ref p_3), (5, .ref p_5), (6, .ref p_6), (7, .ref p_7), (8, .int v_8), (9, .int v_9), (10, .ref p_10), (11, .int v_11), (12, .int v_12), (15, .int v_15), (19, .int v_19)] [] Y N := by
  rw [f_L_law_439] at h
  refine x_iload 9 dL_law_439 rfl ?_
  rcases x_ifP h with ⟨c1, h⟩ | ⟨c1, h⟩
  · refine x_if_eq_t (tgt := 482) dL_law_441 (by decide) c1 ?_
    exact T_L_law_482 (G := G) hK4 hK190 Y q v_2 p_3 p_5 p_6 p_7 v_8 v_9 p_10 v_11 v_12 v_15 v_19 k n N h
  · refine x_if_eq_f (tgt := 482) dL_law_441 (by decide) c1 ?_
    refine x_aload 4 dL_law_444 rfl ?_
    obtain ⟨c2, h⟩ := x_ckP h
    obtain ⟨c4, h⟩ := x_ckP h
    obtain ⟨p3, lp3, h⟩ := x_ltP h
    have ep3 : gr Y p_6 3 = some p3 := by rw [lp3]; exact c4
    refine x_getr dL_law_446 vc_X8 xin8 fb_X8_3 fl_L_123 xr_X8_3 c2 ep3 ?_
    refine x_iload 11 dL_law_449 rfl ?_
    obtain ⟨c5, h⟩ := x_ckP h
    obtain ⟨c6, h⟩ := x_ckP h
    obtain ⟨c8, h⟩ := x_ckP h
    obtain ⟨p7, lp7, h⟩ := x_ltP h
    have ep7 : gr Y p3 v_15.toNatClampNeg = some p7 := by rw [lp7]; exact c8
    refine x_aald (j := 4) dL_law_451 (by decide) c5 (xb_in c6) ep7 ?_
    refine x_iconst (v := 0) dL_law_452 rfl ?_
    refine x_dup2 dL_law_453 rfl rfl ?_
    obtain ⟨c9, h⟩ := x_ckP h
    obtain ⟨c10, h⟩ := x_ckP h
    refine x_iald dL_law_454 c9 (xb_in c10) xj_0 ?_
    refine x_iload 12 dL_law_455 rfl ?_
    refine x_iadd dL_law_457 ?_
    obtain ⟨c11, h⟩ := x_ckP h
    refine x_iast dL_law_458 c9 (xb_in c11) xj_0 ?_
    obtain ⟨N12, eN12, h⟩ := x_ltP h
    refine x_nmM eN12 ?_
    refine x_aload 4 dL_law_459 rfl ?_
    refine x_getr dL_law_461 vc_X8 xin8 fb_X8_3 fl_L_123 xr_X8_3 c2 ep3 ?_
    refine x_iload 11 dL_law_464 rfl ?_
    obtain ⟨c13, h⟩ := x_ckP h
    refine x_aald (j := 4) dL_law_466 (by decide) c5 (xb_in c13) ep7 ?_
    refine x_iconst (v := 2) dL_law_467 rfl ?_
    refine x_iconst (v := 0) dL_law_468 rfl ?_
    obtain ⟨c14, h⟩ := x_ckP h
    refine x_iast dL_law_469 c9 (xb_in c14) xj_2 ?_
    obtain ⟨N15, eN15, h⟩ := x_ltP h
    refine x_nmM eN15 ?_
    refine x_aload 4 dL_law_470 rfl ?_
    refine x_getr dL_law_472 vc_X8 xin8 fb_X8_3 fl_L_123 xr_X8_3 c2 ep3 ?_
    refine x_iload 11 dL_law_475 rfl ?_
    obtain ⟨c16, h⟩ := x_ckP h
    refine x_aald (j := 4) dL_law_477 (by decide) c5 (xb_in c16) ep7 ?_
    refine x_iconst (v := 0) dL_law_478 rfl ?_
    obtain ⟨c17, h⟩ := x_ckP h
    refine x_iald dL_law_479 c9 (xb_in c17) xj_0 ?_
    refine x_istore (L' := [(0, .ref (xSb G)), (2, .int v_2), (3, .ref p_3), (5, .ref p_5), (6, .ref p_6), (7, .ref p_7), (8, .int v_8), (9, .int v_9), (10, .ref p_10), (11, .int v_11), (12, .int (gi N15 p7 0)), (15, .int v_15), (19, .int v_19)]) [1, 2, 3, 4, 5, 6, 7, 8, 9, 10, 0, 11, 12] dL_law_480 (by decide) rfl ?_
    exact T_L_law_482 (G := G) hK4 hK190 Y q v_2 p_3 p_5 p_6 p_7 v_8 v_9 p_10 v_11 (gi N15 p7 0) v_15 v_19 k n N15 h
set_option maxHeartbeats 4000000 in
set_option maxRecDepth 100000 in
theorem T_L_law_428 {G : XG} {tb : List ExceptionTableEntry} {nm ds : String}  {K4 : XY → Nat → Int32 → Nat → Nat → XN → Prop} (hK4 : ∀ (Y : XY) (q : Nat) (v_2 : Int32) (k : Nat) (n : Nat) (N : XN), K4 Y q v_2 k n N → ExZ G ⟨RL, nm, ds⟩ cL_law 26 ret tb room_1 (law_Z G) k n 4 [(0, .ref (xSb G)), (1, .int 1), (2, .int v_2)] [] Y N) {K190 : XY → Nat → Int32 → Nat → Nat → Nat → Nat → Int32 → Int32 → Nat → Nat → XN → Prop} (hK190 : ∀ (Y : XY) (q : Nat) (v_2 : Int32) (p_3 : Nat) (p_5 : Nat) (p_6 : Nat) (p_7 : Nat) (v_8 : Int32) (v_9 : Int32) (k : Nat) (n : Nat) (N : XN), K190 Y q v_2 p_3 p_5 p_6 p_7 v_8 v_9 k n N → ExZ G ⟨RL, nm, ds⟩ cL_law 26 ret tb room_1 (law_Z G) k n 190 [(0, .ref (xSb G)), (1, .int 1), (2, .int v_2), (3, .ref p_3), (5, .ref p_5), (6, .ref p_6), (7, .ref p_7), (8, .int v_8), (9, .int v_9)] [] Y N) (Y : XY) (q : Nat) (v_2 : Int32) (p_3 : Nat) (p_5 : Nat) (p_6 : Nat) (p_7 : Nat) (v_8 : Int32) (v_9 : Int32) (p_10 : Nat) (v_12 : Int32) (v_15 : Int32) (v_17 : Int32) (v_19 : Int32) (s0 : Int32) (k : Nat) (n : Nat) (N : XN) (h : f_L_law_428 G K4 K190 Y q v_2 p_3 p_5 p_6 p_7 v_8 v_9 p_10 v_12 v_15 v_17 v_19 s0 k n N) : ExZ G ⟨RL, nm, ds⟩ cL_law 26 ret tb room_1 (law_Z G) k n 428 [(0, .ref (xSb G)), (2, .int v_2), (3, .ref p_3), (5, .ref p_5), (6, .ref p_6), (7, .ref p_7), (8, .int v_8), (9, .int v_9), (10, .ref p_10), (12, .int v_12), (15, .int v_15), (17, .int v_17), (19, .int v_19)] [.int s0] Y N := by
  rw [f_L_law_428] at h
  refine x_istore (L' := [(0, .ref (xSb G)), (2, .int v_2), (3, .ref p_3), (5, .ref p_5), (6, .ref p_6), (7, .ref p_7), (8, .int v_8), (9, .int v_9), (10, .ref p_10), (11, .int s0), (12, .int v_12), (15, .int v_15), (17, .int v_17), (19, .int v_19)]) [1, 2, 3, 4, 5, 6, 7, 8, 9, 0, 10, 11, 12, 13] dL_law_428 (by decide) rfl ?_
  refine x_iload 12 dL_law_430 rfl ?_
  rcases x_ifP h with ⟨c1, h⟩ | ⟨c1, h⟩
  · refine x_if_eq_t (tgt := 439) dL_law_432 (by decide) c1 ?_
    refine x_sub (L' := [(0, .ref (xSb G)), (2, .int v_2), (3, .ref p_3), (5, .ref p_5), (6, .ref p_6), (7, .ref p_7), (8, .int v_8), (9, .int v_9), (10, .ref p_10), (11, .int s0), (12, .int v_12), (15, .int v_15), (19, .int v_19)]) [0, 1, 2, 3, 4, 5, 6, 7, 8, 9, 10, 11, 13] rfl ?_
    exact T_L_law_439 (G := G) hK4 hK190 Y q v_2 p_3 p_5 p_6 p_7 v_8 v_9 p_10 s0 v_12 v_15 v_19 k n N h
  · refine x_if_eq_f (tgt := 439) dL_law_432 (by decide) c1 ?_
    refine x_ldc (v := (-2000000098)) dL_law_435 kc_L_42 ?_
    refine x_istore (L' := [(0, .ref (xSb G)), (2, .int v_2), (3, .ref p_3), (5, .ref p_5), (6, .ref p_6), (7, .ref p_7), (8, .int v_8), (9, .int v_9), (10, .ref p_10), (11, .int s0), (12, .int (-2000000098)), (15, .int v_15), (19, .int v_19)]) [1, 2, 3, 4, 5, 6, 7, 8, 9, 10, 0, 11, 13] dL_law_437 (by decide) rfl ?_
    exact T_L_law_439 (G := G) hK4 hK190 Y q v_2 p_3 p_5 p_6 p_7 v_8 v_9 p_10 s0 (-2000000098) v_15 v_19 k n N h
set_option maxHeartbeats 4000000 in
set_option maxRecDepth 100000 in
theorem T_L_law_411 {G : XG} {tb : List ExceptionTableEntry} {nm ds : String}  {K4 : XY → Nat → Int32 → Nat → Nat → XN → Prop} (hK4 : ∀ (Y : XY) (q : Nat) (v_2 : Int32) (k : Nat) (n : Nat) (N : XN), K4 Y q v_2 k n N → ExZ G ⟨RL, nm, ds⟩ cL_law 26 ret tb room_1 (law_Z G) k n 4 [(0, .ref (xSb G)), (1, .int 1), (2, .int v_2)] [] Y N) {K190 : XY → Nat → Int32 → Nat → Nat → Nat → Nat → Int32 → Int32 → Nat → Nat → XN → Prop} (hK190 : ∀ (Y : XY) (q : Nat) (v_2 : Int32) (p_3 : Nat) (p_5 : Nat) (p_6 : Nat) (p_7 : Nat) (v_8 : Int32) (v_9 : Int32) (k : Nat) (n : Nat) (N : XN), K190 Y q v_2 p_3 p_5 p_6 p_7 v_8 v_9 k n N → ExZ G ⟨RL, nm, ds⟩ cL_law 26 ret tb room_1 (law_Z G) k n 190 [(0, .ref (xSb G)), (1, .int 1), (2, .int v_2), (3, .ref p_3), (5, .ref p_5), (6, .ref p_6), (7, .ref p_7), (8, .int v_8), (9, .int v_9)] [] Y N) (Y : XY) (q : Nat) (v_2 : Int32) (p_3 : Nat) (p_5 : Nat) (p_6 : Nat) (p_7 : Nat) (v_8 : Int32) (v_9 : Int32) (p_10 : Nat) (v_12 : Int32) (v_15 : Int32) (v_17 : Int32) (v_19 : Int32) (s0 : Int32) (k : Nat) (n : Nat) (N : XN) (h : f_L_law_411 G K4 K190 Y q v_2 p_3 p_5 p_6 p_7 v_8 v_9 p_10 v_12 v_15 v_17 v_19 s0 k n N) : ExZ G ⟨RL, nm, ds⟩ cL_law 26 ret tb room_1 (law_Z G) k n 411 [(0, .ref (xSb G)), (2, .int v_2), (3, .ref p_3), (5, .ref p_5), (6, .ref p_6), (7, .ref p_7), (8, .int v_8), (9, .int v_9), (10, .ref p_10), (12, .int v_12), (15, .int v_15), (17, .int v_17), (19, .int v_19)] [.int s0] Y N := by
  rw [f_L_law_411] at h
  refine x_istore (L' := [(0, .ref (xSb G)), (2, .int v_2), (3, .ref p_3), (5, .ref p_5), (6, .ref p_6), (7, .ref p_7), (8, .int v_8), (9, .int v_9), (10, .ref p_10), (12, .int v_12), (15, .int v_15), (17, .int v_17), (19, .int v_19), (20, .int s0)]) [1, 2, 3, 4, 5, 6, 7, 8, 9, 10, 11, 12, 13, 0] dL_law_411 (by decide) rfl ?_
  refine x_iload 11 dL_law_413 rfl ?_
  rcases x_ifP h with ⟨c1, h⟩ | ⟨c1, h⟩
  · refine x_if_eq_t (tgt := 427) dL_law_415 (by decide) c1 ?_
    refine x_iconst (v := 0) dL_law_427 rfl ?_
    refine x_sub (L' := [(0, .ref (xSb G)), (2, .int v_2), (3, .ref p_3), (5, .ref p_5), (6, .ref p_6), (7, .ref p_7), (8, .int v_8), (9, .int v_9), (10, .ref p_10), (12, .int v_12), (15, .int v_15), (17, .int v_17), (19, .int v_19)]) [0, 1, 2, 3, 4, 5, 6, 7, 8, 9, 10, 11, 12] rfl ?_
    exact T_L_law_428 (G := G) hK4 hK190 Y q v_2 p_3 p_5 p_6 p_7 v_8 v_9 p_10 v_12 v_15 v_17 v_19 0 k n N h
  · refine x_if_eq_f (tgt := 427) dL_law_415 (by decide) c1 ?_
    refine x_iload 13 dL_law_418 rfl ?_
    rcases x_ifP h with ⟨c2, h⟩ | ⟨c2, h⟩
    · refine x_if_eq_t (tgt := 427) dL_law_420 (by decide) c2 ?_
      refine x_iconst (v := 0) dL_law_427 rfl ?_
      refine x_sub (L' := [(0, .ref (xSb G)), (2, .int v_2), (3, .ref p_3), (5, .ref p_5), (6, .ref p_6), (7, .ref p_7), (8, .int v_8), (9, .int v_9), (10, .ref p_10), (12, .int v_12), (15, .int v_15), (17, .int v_17), (19, .int v_19)]) [0, 1, 2, 3, 4, 5, 6, 7, 8, 9, 10, 11, 12] rfl ?_
      exact T_L_law_428 (G := G) hK4 hK190 Y q v_2 p_3 p_5 p_6 p_7 v_8 v_9 p_10 v_12 v_15 v_17 v_19 0 k n N h
    · refine x_if_eq_f (tgt := 427) dL_law_420 (by decide) c2 ?_
      refine x_iconst (v := 1) dL_law_423 rfl ?_
      refine x_goto (tgt := 428) dL_law_424 (by decide) ?_
      refine x_sub (L' := [(0, .ref (xSb G)), (2, .int v_2), (3, .ref p_3), (5, .ref p_5), (6, .ref p_6), (7, .ref p_7), (8, .int v_8), (9, .int v_9), (10, .ref p_10), (12, .int v_12), (15, .int v_15), (17, .int v_17), (19, .int v_19)]) [0, 1, 2, 3, 4, 5, 6, 7, 8, 9, 10, 11, 12] rfl ?_
      exact T_L_law_428 (G := G) hK4 hK190 Y q v_2 p_3 p_5 p_6 p_7 v_8 v_9 p_10 v_12 v_15 v_17 v_19 1 k n N h
set_option maxHeartbeats 4000000 in
set_option maxRecDepth 100000 in
theorem T_L_law_388 {G : XG} {tb : List ExceptionTableEntry} {nm ds : String}  {K4 : XY → Nat → Int32 → Nat → Nat → XN → Prop} (hK4 : ∀ (Y : XY) (q : Nat) (v_2 : Int32) (k : Nat) (n : Nat) (N : XN), K4 Y q v_2 k n N → ExZ G ⟨RL, nm, ds⟩ cL_law 26 ret tb room_1 (law_Z G) k n 4 [(0, .ref (xSb G)), (1, .int 1), (2, .int v_2)] [] Y N) {K190 : XY → Nat → Int32 → Nat → Nat → Nat → Nat → Int32 → Int32 → Nat → Nat → XN → Prop} (hK190 : ∀ (Y : XY) (q : Nat) (v_2 : Int32) (p_3 : Nat) (p_5 : Nat) (p_6 : Nat) (p_7 : Nat) (v_8 : Int32) (v_9 : Int32) (k : Nat) (n : Nat) (N : XN), K190 Y q v_2 p_3 p_5 p_6 p_7 v_8 v_9 k n N → ExZ G ⟨RL, nm, ds⟩ cL_law 26 ret tb room_1 (law_Z G) k n 190 [(0, .ref (xSb G)), (1, .int 1), (2, .int v_2), (3, .ref p_3), (5, .ref p_5), (6, .ref p_6), (7, .ref p_7), (8, .int v_8), (9, .int v_9)] [] Y N) (Y : XY) (q : Nat) (v_2 : Int32) (p_3 : Nat) (p_5 : Nat) (p_6 : Nat) (p_7 : Nat) (v_8 : Int32) (v_9 : Int32) (p_10 : Nat) (v_12 : Int32) (v_15 : Int32) (v_17 : Int32) (s0 : Int32) (o1 : Nat) (k : Nat) (n : Nat) (N : XN) (h : f_L_law_388 G K4 K190 Y q v_2 p_3 p_5 p_6 p_7 v_8 v_9 p_10 v_12 v_15 v_17 s0 o1 k n N) : ExZ G ⟨RL, nm, ds⟩ cL_law 26 ret tb room_1 (law_Z G) k n 388 [(0, .ref (xSb G)), (2, .int v_2), (3, .ref p_3), (5, .ref p_5), (6, .ref p_6), (7, .ref p_7), (8, .int v_8), (9, .int v_9), (10, .ref p_10), (12, .int v_12), (15, .int v_15), (17, .int v_17)] [.int s0, .ref o1] Y N := by
  rw [f_L_law_388] at h
  obtain ⟨c1, h⟩ := x_ckP h
  obtain ⟨c2, h⟩ := x_ckP h
  obtain ⟨r3, N5, e4, h⟩ := x_bd2P h
  refine x_nV (b := o1) (As := [.int s0]) (ci := 10) (R' := xR 1 0 0) (zz := yX10_below) dL_law_388 ml_L_118 wi_X10_below wv_X10_below wn_X10 wc_X10_below hp_X10_below ⟨Nat.le_of_ble_eq_true rfl, Nat.le_of_ble_eq_true rfl⟩ rfl (Nat.le_of_ble_eq_true rfl) c2 vc_X10 c1 (T_X10_below (G := G) e4) ?_
  refine x_istore (L' := [(0, .ref (xSb G)), (2, .int v_2), (3, .ref p_3), (5, .ref p_5), (6, .ref p_6), (7, .ref p_7), (8, .int v_8), (9, .int v_9), (10, .ref p_10), (12, .int v_12), (15, .int v_15), (17, .int v_17), (19, .int r3)]) [1, 2, 3, 4, 5, 6, 7, 8, 9, 10, 11, 12, 0] dL_law_391 (by decide) rfl ?_
  refine x_iload 12 dL_law_393 rfl ?_
  rcases x_ifP h with ⟨c6, h⟩ | ⟨c6, h⟩
  · refine x_if_le_t (tgt := 410) dL_law_395 (by decide) c6 ?_
    refine x_iconst (v := 0) dL_law_410 rfl ?_
    exact T_L_law_411 (G := G) hK4 hK190 Y q v_2 p_3 p_5 p_6 p_7 v_8 v_9 p_10 v_12 v_15 v_17 r3 0 k n N5 h
  · refine x_if_le_f (tgt := 410) dL_law_395 (by decide) c6 ?_
    refine x_iload 12 dL_law_398 rfl ?_
    refine x_sipush (v := 10000) dL_law_400 rfl ?_
    rcases x_ifP h with ⟨c7, h⟩ | ⟨c7, h⟩
    · refine x_icmp_ge_t (tgt := 410) dL_law_403 (by decide) c7 ?_
      refine x_iconst (v := 0) dL_law_410 rfl ?_
      exact T_L_law_411 (G := G) hK4 hK190 Y q v_2 p_3 p_5 p_6 p_7 v_8 v_9 p_10 v_12 v_15 v_17 r3 0 k n N5 h
    · refine x_icmp_ge_f (tgt := 410) dL_law_403 (by decide) c7 ?_
      refine x_iconst (v := 1) dL_law_406 rfl ?_
      refine x_goto (tgt := 411) dL_law_407 (by decide) ?_
      exact T_L_law_411 (G := G) hK4 hK190 Y q v_2 p_3 p_5 p_6 p_7 v_8 v_9 p_10 v_12 v_15 v_17 r3 1 k n N5 h
set_option maxHeartbeats 4000000 in
set_option maxRecDepth 100000 in
theorem T_L_law_322 {G : XG} {tb : List ExceptionTableEntry} {nm ds : String}  {K4 : XY → Nat → Int32 → Nat → Nat → XN → Prop} (hK4 : ∀ (Y : XY) (q : Nat) (v_2 : Int32) (k : Nat) (n : Nat) (N : XN), K4 Y q v_2 k n N → ExZ G ⟨RL, nm, ds⟩ cL_law 26 ret tb room_1 (law_Z G) k n 4 [(0, .ref (xSb G)), (1, .int 1), (2, .int v_2)] [] Y N) {K190 : XY → Nat → Int32 → Nat → Nat → Nat → Nat → Int32 → Int32 → Nat → Nat → XN → Prop} (hK190 : ∀ (Y : XY) (q : Nat) (v_2 : Int32) (p_3 : Nat) (p_5 : Nat) (p_6 : Nat) (p_7 : Nat) (v_8 : Int32) (v_9 : Int32) (k : Nat) (n : Nat) (N : XN), K190 Y q v_2 p_3 p_5 p_6 p_7 v_8 v_9 k n N → ExZ G ⟨RL, nm, ds⟩ cL_law 26 ret tb room_1 (law_Z G) k n 190 [(0, .ref (xSb G)), (1, .int 1), (2, .int v_2), (3, .ref p_3), (5, .ref p_5), (6, .ref p_6), (7, .ref p_7), (8, .int v_8), (9, .int v_9)] [] Y N) (Y : XY) (q : Nat) (v_2 : Int32) (p_3 : Nat) (p_5 : Nat) (p_6 : Nat) (p_7 : Nat) (v_8 : Int32) (v_9 : Int32) (p_10 : Nat) (v_12 : Int32) (v_14 : Int32) (v_15 : Int32) (v_16 : Int32) (v_17 : Int32) (s0 : Int32) (k : Nat) (n : Nat) (N : XN) (h : f_L_law_322 G K4 K190 Y q v_2 p_3 p_5 p_6 p_7 v_8 v_9 p_10 v_12 v_14 v_15 v_16 v_17 s0 k n N) : ExZ G ⟨RL, nm, ds⟩ cL_law 26 ret tb room_1 (law_Z G) k n 322 [(0, .ref (xSb G)), (2, .int v_2), (3, .ref p_3), (5, .ref p_5), (6, .ref p_6), (7, .ref p_7), (8, .int v_8), (9, .int v_9), (10, .ref p_10), (12, .int v_12), (14, .int v_14), (15, .int v_15), (16, .int v_16), (17, .int v_17)] [.int s0] Y N := by
  rw [f_L_law_322] at h
  refine x_istore (L' := [(0, .ref (xSb G)), (2, .int v_2), (3, .ref p_3), (5, .ref p_5), (6, .ref p_6), (7, .ref p_7), (8, .int v_8), (9, .int v_9), (10, .ref p_10), (12, .int v_12), (14, .int v_14), (15, .int v_15), (16, .int v_16), (17, .int v_17), (18, .int s0)]) [1, 2, 3, 4, 5, 6, 7, 8, 9, 10, 11, 12, 13, 14, 0] dL_law_322 (by decide) rfl ?_
  refine x_aload 3 dL_law_324 rfl ?_
  refine x_bipush (v := 10) dL_law_326 rfl ?_
  obtain ⟨c1, h⟩ := x_ckP h
  obtain ⟨c2, h⟩ := x_ckP h
  obtain ⟨r3, N5, e4, h⟩ := x_bd2P h
  refine x_nV (b := p_5) (As := [.int 10]) (ci := 10) (R' := xR 1 0 0) (zz := yX10_below) dL_law_328 ml_L_118 wi_X10_below wv_X10_below wn_X10 wc_X10_below hp_X10_below ⟨Nat.le_of_ble_eq_true rfl, Nat.le_of_ble_eq_true rfl⟩ rfl (Nat.le_of_ble_eq_true rfl) c2 vc_X10 c1 (T_X10_below (G := G) e4) ?_
  rcases x_ifP h with ⟨c10, h⟩ | ⟨c10, h⟩
  · rw [c10]
    refine x_swIn (off := 37) (tgt := 368) dL_law_331 (by decide) (by decide) rfl (by decide) ?_
    refine x_aload 3 dL_law_368 rfl ?_
    refine x_aload 3 dL_law_370 rfl ?_
    refine x_bipush (v := 6) dL_law_372 rfl ?_
    obtain ⟨r6, N8, e7, h⟩ := x_bd2P h
    refine x_nV (b := p_5) (As := [.int 6]) (ci := 10) (R' := xR 1 0 0) (zz := yX10_below) dL_law_374 ml_L_118 wi_X10_below wv_X10_below wn_X10 wc_X10_below hp_X10_below ⟨Nat.le_of_ble_eq_true rfl, Nat.le_of_ble_eq_true rfl⟩ rfl (Nat.le_of_ble_eq_true rfl) c2 vc_X10 c1 (T_X10_below (G := G) e7) ?_
    rcases x_ifP h with ⟨c9, h⟩ | ⟨c9, h⟩
    · refine x_if_ne_f (tgt := 386) dL_law_377 (by decide) c9 ?_
      refine x_sipush (v := 11000) dL_law_380 rfl ?_
      refine x_goto (tgt := 388) dL_law_383 (by decide) ?_
      refine x_sub (L' := [(0, .ref (xSb G)), (2, .int v_2), (3, .ref p_3), (5, .ref p_5), (6, .ref p_6), (7, .ref p_7), (8, .int v_8), (9, .int v_9), (10, .ref p_10), (12, .int v_12), (15, .int v_15), (17, .int v_17)]) [0, 1, 2, 3, 4, 5, 6, 7, 8, 9, 11, 13] rfl ?_
      exact T_L_law_388 (G := G) hK4 hK190 Y q v_2 p_3 p_5 p_6 p_7 v_8 v_9 p_10 v_12 v_15 v_17 11000 p_5 k n N8 h
    · refine x_if_ne_t (tgt := 386) dL_law_377 (by decide) c9 ?_
      refine x_bipush (v := 30) dL_law_386 rfl ?_
      refine x_sub (L' := [(0, .ref (xSb G)), (2, .int v_2), (3, .ref p_3), (5, .ref p_5), (6, .ref p_6), (7, .ref p_7), (8, .int v_8), (9, .int v_9), (10, .ref p_10), (12, .int v_12), (15, .int v_15), (17, .int v_17)]) [0, 1, 2, 3, 4, 5, 6, 7, 8, 9, 11, 13] rfl ?_
      exact T_L_law_388 (G := G) hK4 hK190 Y q v_2 p_3 p_5 p_6 p_7 v_8 v_9 p_10 v_12 v_15 v_17 30 p_5 k n N8 h
  rcases x_ifP h with ⟨c11, h⟩ | ⟨c11, h⟩
  · rw [c11]
    refine x_swIn (off := 173) (tgt := 504) dL_law_331 (by decide) (by decide) rfl (by decide) ?_
    refine x_sub (L' := [(0, .ref (xSb G)), (2, .int v_2), (3, .ref p_3), (5, .ref p_5), (6, .ref p_6), (7, .ref p_7), (8, .int v_8), (9, .int v_9), (10, .ref p_10), (12, .int v_12), (15, .int v_15), (16, .int v_16), (18, .int s0)]) [0, 1, 2, 3, 4, 5, 6, 7, 8, 9, 11, 12, 14] rfl ?_
    exact T_L_law_504 (G := G) hK4 hK190 Y q v_2 p_3 p_5 p_6 p_7 v_8 v_9 p_10 v_12 v_15 v_16 s0 k n N5 h
  rcases x_ifP h with ⟨c12, h⟩ | ⟨c12, h⟩
  · rw [c12]
    refine x_swIn (off := 173) (tgt := 504) dL_law_331 (by decide) (by decide) rfl (by decide) ?_
    refine x_sub (L' := [(0, .ref (xSb G)), (2, .int v_2), (3, .ref p_3), (5, .ref p_5), (6, .ref p_6), (7, .ref p_7), (8, .int v_8), (9, .int v_9), (10, .ref p_10), (12, .int v_12), (15, .int v_15), (16, .int v_16), (18, .int s0)]) [0, 1, 2, 3, 4, 5, 6, 7, 8, 9, 11, 12, 14] rfl ?_
    exact T_L_law_504 (G := G) hK4 hK190 Y q v_2 p_3 p_5 p_6 p_7 v_8 v_9 p_10 v_12 v_15 v_16 s0 k n N5 h
  rcases x_ifP h with ⟨c21, h⟩ | ⟨c21, h⟩
  · rw [c21]
    refine x_swIn (off := 215) (tgt := 546) dL_law_331 (by decide) (by decide) rfl (by decide) ?_
    refine x_iload 14 dL_law_546 rfl ?_
    refine x_istore (L' := [(0, .ref (xSb G)), (2, .int v_2), (3, .ref p_3), (5, .ref p_5), (6, .ref p_6), (7, .ref p_7), (8, .int v_8), (9, .int v_9), (10, .ref p_10), (11, .int s0), (12, .int v_12), (15, .int v_15), (16, .int v_16), (18, .int s0)]) [1, 2, 3, 4, 5, 6, 7, 8, 9, 0, 10, 12, 13, 15] dL_law_548 (by decide) rfl ?_
    refine x_iload 13 dL_law_550 rfl ?_
    rcases x_ifP h with ⟨c13, h⟩ | ⟨c13, h⟩
    · refine x_if_eq_t (tgt := 566) dL_law_552 (by decide) c13 ?_
      refine x_sub (L' := [(0, .ref (xSb G)), (2, .int v_2), (3, .ref p_3), (5, .ref p_5), (6, .ref p_6), (7, .ref p_7), (8, .int v_8), (9, .int v_9), (10, .ref p_10), (11, .int s0), (12, .int v_12), (15, .int v_15), (16, .int v_16)]) [0, 1, 2, 3, 4, 5, 6, 7, 8, 9, 10, 11, 12] rfl ?_
      exact T_L_law_566 (G := G) hK4 hK190 Y q v_2 p_3 p_5 p_6 p_7 v_8 v_9 p_10 s0 v_12 v_15 v_16 k n N5 h
    · refine x_if_eq_f (tgt := 566) dL_law_552 (by decide) c13 ?_
      refine x_aload 4 dL_law_555 rfl ?_
      refine x_iload 11 dL_law_557 rfl ?_
      refine x_iload 12 dL_law_559 rfl ?_
      obtain ⟨c14, h⟩ := x_ckP h
      obtain ⟨c15, h⟩ := x_ckP h
      obtain ⟨r16, Y18, q19, N20, e17, h⟩ := x_bd4P h
      refine x_nV (b := p_6) (As := [.int v_15, .int v_16]) (ci := 8) (R' := xR 3 1 4) (zz := yX8_release) dL_law_561 ml_L_243 wi_X8_release wv_X8_release wn_X8 wc_X8_release hp_X8_release ⟨Nat.le_of_ble_eq_true rfl, Nat.le_of_ble_eq_true rfl⟩ rfl (Nat.le_of_ble_eq_true rfl) c15 vc_X8 c14 (T_X8_release (G := G) e17) ?_
      refine x_istore (L' := [(0, .ref (xSb G)), (2, .int v_2), (3, .ref p_3), (5, .ref p_5), (6, .ref p_6), (7, .ref p_7), (8, .int v_8), (9, .int v_9), (10, .ref p_10), (11, .int s0), (12, .int r16), (15, .int v_15), (16, .int v_16)]) [1, 2, 3, 4, 5, 6, 7, 8, 9, 10, 0, 11, 12] dL_law_564 (by decide) rfl ?_
      exact T_L_law_566 (G := G) hK4 hK190 Y18 q19 v_2 p_3 p_5 p_6 p_7 v_8 v_9 p_10 s0 r16 v_15 v_16 (k + 1) (n + 4) N20 h
  rcases x_ifP h with ⟨c22, h⟩ | ⟨c22, h⟩
  · rw [c22]
    refine x_swIn (off := 257) (tgt := 588) dL_law_331 (by decide) (by decide) rfl (by decide) ?_
    refine x_sub (L' := [(0, .ref (xSb G)), (2, .int v_2), (3, .ref p_3), (5, .ref p_5), (6, .ref p_6), (7, .ref p_7), (8, .int v_8), (9, .int v_9), (10, .ref p_10), (12, .int v_12), (14, .int v_14), (16, .int v_16)]) [0, 1, 2, 3, 4, 5, 6, 7, 8, 9, 10, 12] rfl ?_
    exact T_L_law_588 (G := G) hK4 hK190 Y q v_2 p_3 p_5 p_6 p_7 v_8 v_9 p_10 v_12 v_14 v_16 k n N5 h
  rcases x_ifP h with ⟨c23, h⟩ | ⟨c23, h⟩
  · rw [c23]
    refine x_swIn (off := 257) (tgt := 588) dL_law_331 (by decide) (by decide) rfl (by decide) ?_
    refine x_sub (L' := [(0, .ref (xSb G)), (2, .int v_2), (3, .ref p_3), (5, .ref p_5), (6, .ref p_6), (7, .ref p_7), (8, .int v_8), (9, .int v_9), (10, .ref p_10), (12, .int v_12), (14, .int v_14), (16, .int v_16)]) [0, 1, 2, 3, 4, 5, 6, 7, 8, 9, 10, 12] rfl ?_
    exact T_L_law_588 (G := G) hK4 hK190 Y q v_2 p_3 p_5 p_6 p_7 v_8 v_9 p_10 v_12 v_14 v_16 k n N5 h
  obtain ⟨c28, h⟩ := x_ckP h
  refine x_swOut (tgt := 799) dL_law_331 c28 (by decide) ?_
  refine x_aload 3 dL_law_799 rfl ?_
  refine x_aload 3 dL_law_801 rfl ?_
  refine x_iconst (v := 5) dL_law_803 rfl ?_
  obtain ⟨r24, N26, e25, h⟩ := x_bd2P h
  refine x_nV (b := p_5) (As := [.int 5]) (ci := 10) (R' := xR 1 0 0) (zz := yX10_below) dL_law_804 ml_L_118 wi_X10_below wv_X10_below wn_X10 wc_X10_below hp_X10_below ⟨Nat.le_of_ble_eq_true rfl, Nat.le_of_ble_eq_true rfl⟩ rfl (Nat.le_of_ble_eq_true rfl) c2 vc_X10 c1 (T_X10_below (G := G) e25) ?_
  rcases x_ifP h with ⟨c27, h⟩ | ⟨c27, h⟩
  · refine x_if_ne_f (tgt := 815) dL_law_807 (by decide) c27 ?_
    refine x_bipush (v := 25) dL_law_810 rfl ?_
    refine x_goto (tgt := 816) dL_law_812 (by decide) ?_
    refine x_sub (L' := [(0, .ref (xSb G)), (2, .int v_2), (3, .ref p_3), (5, .ref p_5), (6, .ref p_6), (7, .ref p_7), (8, .int v_8), (9, .int v_9), (10, .ref p_10)]) [0, 1, 2, 3, 4, 5, 6, 7, 8] rfl ?_
    exact T_L_law_816 (G := G) hK4 hK190 Y q v_2 p_3 p_5 p_6 p_7 v_8 v_9 p_10 25 p_5 k n N26 h
  · refine x_if_ne_t (tgt := 815) dL_law_807 (by decide) c27 ?_
    refine x_iconst (v := 5) dL_law_815 rfl ?_
    refine x_sub (L' := [(0, .ref (xSb G)), (2, .int v_2), (3, .ref p_3), (5, .ref p_5), (6, .ref p_6), (7, .ref p_7), (8, .int v_8), (9, .int v_9), (10, .ref p_10)]) [0, 1, 2, 3, 4, 5, 6, 7, 8] rfl ?_
    exact T_L_law_816 (G := G) hK4 hK190 Y q v_2 p_3 p_5 p_6 p_7 v_8 v_9 p_10 5 p_5 k n N26 h
set_option maxHeartbeats 4000000 in
set_option maxRecDepth 100000 in
theorem T_L_law_303 {G : XG} {tb : List ExceptionTableEntry} {nm ds : String}  {K4 : XY → Nat → Int32 → Nat → Nat → XN → Prop} (hK4 : ∀ (Y : XY) (q : Nat) (v_2 : Int32) (k : Nat) (n : Nat) (N : XN), K4 Y q v_2 k n N → ExZ G ⟨RL, nm, ds⟩ cL_law 26 ret tb room_1 (law_Z G) k n 4 [(0, .ref (xSb G)), (1, .int 1), (2, .int v_2)] [] Y N) {K190 : XY → Nat → Int32 → Nat → Nat → Nat → Nat → Int32 → Int32 → Nat → Nat → XN → Prop} (hK190 : ∀ (Y : XY) (q : Nat) (v_2 : Int32) (p_3 : Nat) (p_5 : Nat) (p_6 : Nat) (p_7 : Nat) (v_8 : Int32) (v_9 : Int32) (k : Nat) (n : Nat) (N : XN), K190 Y q v_2 p_3 p_5 p_6 p_7 v_8 v_9 k n N → ExZ G ⟨RL, nm, ds⟩ cL_law 26 ret tb room_1 (law_Z G) k n 190 [(0, .ref (xSb G)), (1, .int 1), (2, .int v_2), (3, .ref p_3), (5, .ref p_5), (6, .ref p_6), (7, .ref p_7), (8, .int v_8), (9, .int v_9)] [] Y N) (Y : XY) (q : Nat) (v_2 : Int32) (p_3 : Nat) (p_5 : Nat) (p_6 : Nat) (p_7 : Nat) (v_8 : Int32) (v_9 : Int32) (p_10 : Nat) (v_12 : Int32) (v_14 : Int32) (v_15 : Int32) (v_16 : Int32) (s0 : Int32) (k : Nat) (n : Nat) (N : XN) (h : f_L_law_303 G K4 K190 Y q v_2 p_3 p_5 p_6 p_7 v_8 v_9 p_10 v_12 v_14 v_15 v_16 s0 k n N) : ExZ G ⟨RL, nm, ds⟩ cL_law 26 ret tb room_1 (law_Z G) k n 303 [(0, .ref (xSb G)), (2, .int v_2), (3, .ref p_3), (5, .ref p_5), (6, .ref p_6), (7, .ref p_7), (8, .int v_8), (9, .int v_9), (10, .ref p_10), (12, .int v_12), (14, .int v_14), (15, .int v_15), (16, .int v_16)] [.int s0] Y N := by
  rw [f_L_law_303] at h
  refine x_istore (L' := [(0, .ref (xSb G)), (2, .int v_2), (3, .ref p_3), (5, .ref p_5), (6, .ref p_6), (7, .ref p_7), (8, .int v_8), (9, .int v_9), (10, .ref p_10), (12, .int v_12), (14, .int v_14), (15, .int v_15), (16, .int v_16), (17, .int s0)]) [1, 2, 3, 4, 5, 6, 7, 8, 9, 10, 11, 12, 13, 0] dL_law_303 (by decide) rfl ?_
  refine x_iload 13 dL_law_305 rfl ?_
  rcases x_ifP h with ⟨c1, h⟩ | ⟨c1, h⟩
  · refine x_if_eq_t (tgt := 321) dL_law_307 (by decide) c1 ?_
    refine x_iconst (v := 0) dL_law_321 rfl ?_
    exact T_L_law_322 (G := G) hK4 hK190 Y q v_2 p_3 p_5 p_6 p_7 v_8 v_9 p_10 v_12 v_14 v_15 v_16 s0 0 k n N h
  · refine x_if_eq_f (tgt := 321) dL_law_307 (by decide) c1 ?_
    refine x_iload 12 dL_law_310 rfl ?_
    refine x_iload 10 dL_law_312 rfl ?_
    rcases x_ifP h with ⟨c2, h⟩ | ⟨c2, h⟩
    · refine x_icmp_ge_t (tgt := 321) dL_law_314 (by decide) c2 ?_
      refine x_iconst (v := 0) dL_law_321 rfl ?_
      exact T_L_law_322 (G := G) hK4 hK190 Y q v_2 p_3 p_5 p_6 p_7 v_8 v_9 p_10 v_12 v_14 v_15 v_16 s0 0 k n N h
    · refine x_icmp_ge_f (tgt := 321) dL_law_314 (by decide) c2 ?_
      refine x_iconst (v := 1) dL_law_317 rfl ?_
      refine x_goto (tgt := 322) dL_law_318 (by decide) ?_
      exact T_L_law_322 (G := G) hK4 hK190 Y q v_2 p_3 p_5 p_6 p_7 v_8 v_9 p_10 v_12 v_14 v_15 v_16 s0 1 k n N h
set_option maxHeartbeats 4000000 in
set_option maxRecDepth 100000 in
theorem T_L_law_285 {G : XG} {tb : List ExceptionTableEntry} {nm ds : String}  {K4 : XY → Nat → Int32 → Nat → Nat → XN → Prop} (hK4 : ∀ (Y : XY) (q : Nat) (v_2 : Int32) (k : Nat) (n : Nat) (N : XN), K4 Y q v_2 k n N → ExZ G ⟨RL, nm, ds⟩ cL_law 26 ret tb room_1 (law_Z G) k n 4 [(0, .ref (xSb G)), (1, .int 1), (2, .int v_2)] [] Y N) {K190 : XY → Nat → Int32 → Nat → Nat → Nat → Nat → Int32 → Int32 → Nat → Nat → XN → Prop} (hK190 : ∀ (Y : XY) (q : Nat) (v_2 : Int32) (p_3 : Nat) (p_5 : Nat) (p_6 : Nat) (p_7 : Nat) (v_8 : Int32) (v_9 : Int32) (k : Nat) (n : Nat) (N : XN), K190 Y q v_2 p_3 p_5 p_6 p_7 v_8 v_9 k n N → ExZ G ⟨RL, nm, ds⟩ cL_law 26 ret tb room_1 (law_Z G) k n 190 [(0, .ref (xSb G)), (1, .int 1), (2, .int v_2), (3, .ref p_3), (5, .ref p_5), (6, .ref p_6), (7, .ref p_7), (8, .int v_8), (9, .int v_9)] [] Y N) (Y : XY) (q : Nat) (v_2 : Int32) (p_3 : Nat) (p_5 : Nat) (p_6 : Nat) (p_7 : Nat) (v_8 : Int32) (v_9 : Int32) (p_10 : Nat) (v_12 : Int32) (v_13 : Int32) (v_14 : Int32) (v_15 : Int32) (s0 : Int32) (s1 : Int32) (o2 : Nat) (k : Nat) (n : Nat) (N : XN) (h : f_L_law_285 G K4 K190 Y q v_2 p_3 p_5 p_6 p_7 v_8 v_9 p_10 v_12 v_13 v_14 v_15 s0 s1 o2 k n N) : ExZ G ⟨RL, nm, ds⟩ cL_law 26 ret tb room_1 (law_Z G) k n 285 [(0, .ref (xSb G)), (2, .int v_2), (3, .ref p_3), (5, .ref p_5), (6, .ref p_6), (7, .ref p_7), (8, .int v_8), (9, .int v_9), (10, .ref p_10), (12, .int v_12), (13, .int v_13), (14, .int v_14), (15, .int v_15)] [.int s0, .int s1, .ref o2] Y N := by
  rw [f_L_law_285] at h
  refine x_iadd dL_law_285 ?_
  obtain ⟨c1, h⟩ := x_ckP h
  obtain ⟨c2, h⟩ := x_ckP h
  obtain ⟨r3, N5, e4, h⟩ := x_bd2P h
  refine x_nV (b := o2) (As := [.int (s1 + s0)]) (ci := 10) (R' := xR 1 0 0) (zz := yX10_below) dL_law_286 ml_L_118 wi_X10_below wv_X10_below wn_X10 wc_X10_below hp_X10_below ⟨Nat.le_of_ble_eq_true rfl, Nat.le_of_ble_eq_true rfl⟩ rfl (Nat.le_of_ble_eq_true rfl) c2 vc_X10 c1 (T_X10_below (G := G) e4) ?_
  refine x_istore (L' := [(0, .ref (xSb G)), (2, .int v_2), (3, .ref p_3), (5, .ref p_5), (6, .ref p_6), (7, .ref p_7), (8, .int v_8), (9, .int v_9), (10, .ref p_10), (12, .int v_12), (13, .int v_13), (14, .int v_14), (15, .int v_15), (16, .int r3)]) [1, 2, 3, 4, 5, 6, 7, 8, 9, 10, 11, 12, 13, 0] dL_law_289 (by decide) rfl ?_
  refine x_iload 12 dL_law_291 rfl ?_
  refine x_iload 10 dL_law_293 rfl ?_
  rcases x_ifP h with ⟨c6, h⟩ | ⟨c6, h⟩
  · refine x_icmp_ge_t (tgt := 302) dL_law_295 (by decide) c6 ?_
    refine x_iconst (v := 0) dL_law_302 rfl ?_
    refine x_sub (L' := [(0, .ref (xSb G)), (2, .int v_2), (3, .ref p_3), (5, .ref p_5), (6, .ref p_6), (7, .ref p_7), (8, .int v_8), (9, .int v_9), (10, .ref p_10), (12, .int v_12), (14, .int v_14), (15, .int v_15), (16, .int r3)]) [0, 1, 2, 3, 4, 5, 6, 7, 8, 9, 11, 12, 13] rfl ?_
    exact T_L_law_303 (G := G) hK4 hK190 Y q v_2 p_3 p_5 p_6 p_7 v_8 v_9 p_10 v_12 v_14 v_15 r3 0 k n N5 h
  · refine x_icmp_ge_f (tgt := 302) dL_law_295 (by decide) c6 ?_
    refine x_iconst (v := 1) dL_law_298 rfl ?_
    refine x_goto (tgt := 303) dL_law_299 (by decide) ?_
    refine x_sub (L' := [(0, .ref (xSb G)), (2, .int v_2), (3, .ref p_3), (5, .ref p_5), (6, .ref p_6), (7, .ref p_7), (8, .int v_8), (9, .int v_9), (10, .ref p_10), (12, .int v_12), (14, .int v_14), (15, .int v_15), (16, .int r3)]) [0, 1, 2, 3, 4, 5, 6, 7, 8, 9, 11, 12, 13] rfl ?_
    exact T_L_law_303 (G := G) hK4 hK190 Y q v_2 p_3 p_5 p_6 p_7 v_8 v_9 p_10 v_12 v_14 v_15 r3 1 k n N5 h
set_option maxHeartbeats 4000000 in
set_option maxRecDepth 100000 in
theorem T_L_law_255 {G : XG} {tb : List ExceptionTableEntry} {nm ds : String}  {K4 : XY → Nat → Int32 → Nat → Nat → XN → Prop} (hK4 : ∀ (Y : XY) (q : Nat) (v_2 : Int32) (k : Nat) (n : Nat) (N : XN), K4 Y q v_2 k n N → ExZ G ⟨RL, nm, ds⟩ cL_law 26 ret tb room_1 (law_Z G) k n 4 [(0, .ref (xSb G)), (1, .int 1), (2, .int v_2)] [] Y N) {K190 : XY → Nat → Int32 → Nat → Nat → Nat → Nat → Int32 → Int32 → Nat → Nat → XN → Prop} (hK190 : ∀ (Y : XY) (q : Nat) (v_2 : Int32) (p_3 : Nat) (p_5 : Nat) (p_6 : Nat) (p_7 : Nat) (v_8 : Int32) (v_9 : Int32) (k : Nat) (n : Nat) (N : XN), K190 Y q v_2 p_3 p_5 p_6 p_7 v_8 v_9 k n N → ExZ G ⟨RL, nm, ds⟩ cL_law 26 ret tb room_1 (law_Z G) k n 190 [(0, .ref (xSb G)), (1, .int 1), (2, .int v_2), (3, .ref p_3), (5, .ref p_5), (6, .ref p_6), (7, .ref p_7), (8, .int v_8), (9, .int v_9)] [] Y N) (Y : XY) (q : Nat) (v_2 : Int32) (p_3 : Nat) (p_5 : Nat) (p_6 : Nat) (p_7 : Nat) (v_8 : Int32) (v_9 : Int32) (p_10 : Nat) (v_12 : Int32) (v_13 : Int32) (v_14 : Int32) (s0 : Int32) (s1 : Int32) (o2 : Nat) (k : Nat) (n : Nat) (N : XN) (h : f_L_law_255 G K4 K190 Y q v_2 p_3 p_5 p_6 p_7 v_8 v_9 p_10 v_12 v_13 v_14 s0 s1 o2 k n N) : ExZ G ⟨RL, nm, ds⟩ cL_law 26 ret tb room_1 (law_Z G) k n 255 [(0, .ref (xSb G)), (2, .int v_2), (3, .ref p_3), (5, .ref p_5), (6, .ref p_6), (7, .ref p_7), (8, .int v_8), (9, .int v_9), (10, .ref p_10), (12, .int v_12), (13, .int v_13), (14, .int v_14)] [.int s0, .int s1, .ref o2] Y N := by
  rw [f_L_law_255] at h
  refine x_iadd dL_law_255 ?_
  obtain ⟨c1, h⟩ := x_ckP h
  obtain ⟨c2, h⟩ := x_ckP h
  obtain ⟨r3, N5, e4, h⟩ := x_bd2P h
  refine x_nV (b := o2) (As := [.int (s1 + s0)]) (ci := 10) (R' := xR 1 0 0) (zz := yX10_below) dL_law_256 ml_L_118 wi_X10_below wv_X10_below wn_X10 wc_X10_below hp_X10_below ⟨Nat.le_of_ble_eq_true rfl, Nat.le_of_ble_eq_true rfl⟩ rfl (Nat.le_of_ble_eq_true rfl) c2 vc_X10 c1 (T_X10_below (G := G) e4) ?_
  refine x_istore (L' := [(0, .ref (xSb G)), (2, .int v_2), (3, .ref p_3), (5, .ref p_5), (6, .ref p_6), (7, .ref p_7), (8, .int v_8), (9, .int v_9), (10, .ref p_10), (12, .int v_12), (13, .int v_13), (14, .int v_14), (15, .int r3)]) [1, 2, 3, 4, 5, 6, 7, 8, 9, 10, 11, 12, 0] dL_law_259 (by decide) rfl ?_
  refine x_aload 3 dL_law_261 rfl ?_
  refine x_iload 11 dL_law_263 rfl ?_
  refine x_aload 3 dL_law_265 rfl ?_
  refine x_bipush (v := 12) dL_law_267 rfl ?_
  obtain ⟨c6, h⟩ := x_ckP h
  obtain ⟨r7, N9, e8, h⟩ := x_bd2P h
  refine x_nV (b := p_5) (As := [.int 12]) (ci := 10) (R' := xR 1 0 0) (zz := yX10_below) dL_law_269 ml_L_118 wi_X10_below wv_X10_below wn_X10 wc_X10_below hp_X10_below ⟨Nat.le_of_ble_eq_true rfl, Nat.le_of_ble_eq_true rfl⟩ rfl (Nat.le_of_ble_eq_true rfl) c2 vc_X10 c6 (T_X10_below (G := G) e8) ?_
  rcases x_ifP h with ⟨c10, h⟩ | ⟨c10, h⟩
  · refine x_if_eq_t (tgt := 280) dL_law_272 (by decide) c10 ?_
    refine x_iconst (v := 1) dL_law_280 rfl ?_
    refine x_goto (tgt := 285) dL_law_281 (by decide) ?_
    exact T_L_law_285 (G := G) hK4 hK190 Y q v_2 p_3 p_5 p_6 p_7 v_8 v_9 p_10 v_12 v_13 v_14 r3 1 v_14 p_5 k n N9 h
  · refine x_if_eq_f (tgt := 280) dL_law_272 (by decide) c10 ?_
    refine x_iload 11 dL_law_275 rfl ?_
    rcases x_ifP h with ⟨c11, h⟩ | ⟨c11, h⟩
    · refine x_if_ne_f (tgt := 284) dL_law_277 (by decide) c11 ?_
      refine x_iconst (v := 1) dL_law_280 rfl ?_
      refine x_goto (tgt := 285) dL_law_281 (by decide) ?_
      exact T_L_law_285 (G := G) hK4 hK190 Y q v_2 p_3 p_5 p_6 p_7 v_8 v_9 p_10 v_12 v_13 v_14 r3 1 v_14 p_5 k n N9 h
    · refine x_if_ne_t (tgt := 284) dL_law_277 (by decide) c11 ?_
      refine x_iconst (v := 0) dL_law_284 rfl ?_
      exact T_L_law_285 (G := G) hK4 hK190 Y q v_2 p_3 p_5 p_6 p_7 v_8 v_9 p_10 v_12 v_13 v_14 r3 0 v_14 p_5 k n N9 h
set_option maxHeartbeats 4000000 in
set_option maxRecDepth 100000 in
theorem T_L_law_190 {G : XG} {tb : List ExceptionTableEntry} {nm ds : String}  {K4 : XY → Nat → Int32 → Nat → Nat → XN → Prop} (hK4 : ∀ (Y : XY) (q : Nat) (v_2 : Int32) (k : Nat) (n : Nat) (N : XN), K4 Y q v_2 k n N → ExZ G ⟨RL, nm, ds⟩ cL_law 26 ret tb room_1 (law_Z G) k n 4 [(0, .ref (xSb G)), (1, .int 1), (2, .int v_2)] [] Y N) : ∀ (D9 : Nat) (Y : XY) (q : Nat) (v_2 : Int32) (p_3 : Nat) (p_5 : Nat) (p_6 : Nat) (p_7 : Nat) (v_8 : Int32) (v_9 : Int32) (k : Nat) (n : Nat) (N : XN), f_L_law_190 G K4 D9 Y q v_2 p_3 p_5 p_6 p_7 v_8 v_9 k n N → ExZ G ⟨RL, nm, ds⟩ cL_law 26 ret tb room_1 (law_Z G) k n 190 [(0, .ref (xSb G)), (1, .int 1), (2, .int v_2), (3, .ref p_3), (5, .ref p_5), (6, .ref p_6), (7, .ref p_7), (8, .int v_8), (9, .int v_9)] [] Y N := by
  intro D9
  induction D9 with
  | zero => intro Y q v_2 p_3 p_5 p_6 p_7 v_8 v_9 k n N h; exact False.elim h
  | succ D9 ih =>
    intro Y q v_2 p_3 p_5 p_6 p_7 v_8 v_9 k n N h
    rw [f_L_law_190] at h
    refine x_iload 8 dL_law_190 rfl ?_
    refine x_bipush (v := 35) dL_law_192 rfl ?_
    rcases x_ifP h with ⟨c1, h⟩ | ⟨c1, h⟩
    · refine x_icmp_ge_t (tgt := 962) dL_law_194 (by decide) c1 ?_
      refine x_iconst (v := 0) dL_law_962 rfl ?_
      refine x_istore (L' := [(0, .ref (xSb G)), (1, .int 1), (2, .int v_2), (3, .ref p_3), (7, .ref p_7), (8, .int v_8), (9, .int 0)]) [1, 2, 3, 4, 7, 8, 0] dL_law_963 (by decide) rfl ?_
      exact T_L_law_965 (G := G) hK4 FU Y q v_2 p_3 p_7 v_8 0 k n N h
    · refine x_icmp_ge_f (tgt := 962) dL_law_194 (by decide) c1 ?_
      refine x_iload_n 1 dL_law_197 rfl rfl ?_
      refine x_if_eq_f (tgt := 962) dL_law_198 (by decide) (by decide) ?_
      refine x_mark h.1 fun q2 g4 => ?_
      obtain ⟨Y3, eY3, h⟩ := x_mkP h q2 g4
      refine x_nmY eY3 ?_
      refine x_aload 5 dL_law_201 rfl ?_
      obtain ⟨c5, h⟩ := x_ckP h
      obtain ⟨c6, h⟩ := x_ckP h
      obtain ⟨r7, Y9, q10, N11, e8, h⟩ := x_bd4P h
      refine x_nV (b := p_6) (As := []) (ci := 8) (R' := xR 2 266 2317) (zz := yX8_copy) dL_law_203 ml_L_236 wi_X8_copy wv_X8_copy wn_X8 wc_X8_copy hp_X8_copy ⟨Nat.le_of_ble_eq_true rfl, Nat.le_of_ble_eq_true rfl⟩ rfl (Nat.le_of_ble_eq_true rfl) c6 vc_X8 c5 (T_X8_copy (G := G) e8) ?_
      refine x_astore (L' := [(0, .ref (xSb G)), (2, .int v_2), (3, .ref p_3), (5, .ref p_5), (6, .ref p_6), (7, .ref p_7), (8, .int v_8), (9, .int v_9), (10, .ref r7)]) [1, 3, 4, 5, 6, 7, 8, 9, 0] dL_law_206 (by decide) rfl ?_
      refine x_iconst (v := 1) dL_law_208 rfl ?_
      refine x_istore (L' := [(0, .ref (xSb G)), (2, .int v_2), (3, .ref p_3), (5, .ref p_5), (6, .ref p_6), (7, .ref p_7), (8, .int v_8), (9, .int v_9), (10, .ref r7)]) [1, 2, 3, 4, 5, 6, 7, 8, 9] dL_law_209 (by decide) rfl ?_
      refine x_ldc (v := (-2000000097)) dL_law_211 kc_L_52 ?_
      refine x_istore (L' := [(0, .ref (xSb G)), (2, .int v_2), (3, .ref p_3), (5, .ref p_5), (6, .ref p_6), (7, .ref p_7), (8, .int v_8), (9, .int v_9), (10, .ref r7), (12, .int (-2000000097))]) [1, 2, 3, 4, 5, 6, 7, 8, 9, 0] dL_law_213 (by decide) rfl ?_
      refine x_aload 4 dL_law_215 rfl ?_
      obtain ⟨c12, h⟩ := x_ckP h
      obtain ⟨c14, h⟩ := x_ckP h
      obtain ⟨p13, lp13, h⟩ := x_ltP h
      have ep13 : gr Y9 p_6 3 = some p13 := by rw [lp13]; exact c14
      refine x_getr dL_law_217 vc_X8 xin8 fb_X8_3 fl_L_123 xr_X8_3 c12 ep13 ?_
      obtain ⟨c15, h⟩ := x_ckP h
      refine x_rlen (j := 4) dL_law_220 (by decide) c15 rfl ?_
      obtain ⟨v16, ev16, h⟩ := x_ltP h
      refine x_nmiP ev16 ?_
      refine x_istore (L' := [(0, .ref (xSb G)), (2, .int v_2), (3, .ref p_3), (5, .ref p_5), (6, .ref p_6), (7, .ref p_7), (8, .int v_8), (9, .int v_9), (10, .ref r7), (12, .int (-2000000097)), (13, .int v16)]) [1, 2, 3, 4, 5, 6, 7, 8, 9, 10, 0] dL_law_221 (by decide) rfl ?_
      refine x_aload 4 dL_law_223 rfl ?_
      obtain ⟨c18, h⟩ := x_ckP h
      obtain ⟨p17, lp17, h⟩ := x_ltP h
      have ep17 : gr Y9 p_6 4 = some p17 := by rw [lp17]; exact c18
      refine x_getr dL_law_225 vc_X8 xin8 fb_X8_4 fl_L_138 xr_X8_4 c12 ep17 ?_
      obtain ⟨c19, h⟩ := x_ckP h
      refine x_rlen (j := 4) dL_law_228 (by decide) c19 rfl ?_
      obtain ⟨v20, ev20, h⟩ := x_ltP h
      refine x_nmiP ev20 ?_
      refine x_istore (L' := [(0, .ref (xSb G)), (2, .int v_2), (3, .ref p_3), (5, .ref p_5), (6, .ref p_6), (7, .ref p_7), (8, .int v_8), (9, .int v_9), (10, .ref r7), (12, .int (-2000000097)), (13, .int v16), (14, .int v20)]) [1, 2, 3, 4, 5, 6, 7, 8, 9, 10, 11, 0] dL_law_229 (by decide) rfl ?_
      refine x_aload 3 dL_law_231 rfl ?_
      refine x_iload 10 dL_law_233 rfl ?_
      refine x_aload 3 dL_law_235 rfl ?_
      refine x_bipush (v := 12) dL_law_237 rfl ?_
      obtain ⟨c21, h⟩ := x_ckP h
      obtain ⟨r22, N24, e23, h⟩ := x_bd2P h
      refine x_nV (b := p_5) (As := [.int 12]) (ci := 10) (R' := xR 1 0 0) (zz := yX10_below) dL_law_239 ml_L_118 wi_X10_below wv_X10_below wn_X10 wc_X10_below hp_X10_below ⟨Nat.le_of_ble_eq_true rfl, Nat.le_of_ble_eq_true rfl⟩ rfl (Nat.le_of_ble_eq_true rfl) c6 vc_X10 c21 (T_X10_below (G := G) e23) ?_
      rcases x_ifP h with ⟨c25, h⟩ | ⟨c25, h⟩
      · refine x_if_eq_t (tgt := 250) dL_law_242 (by decide) c25 ?_
        refine x_iconst (v := 1) dL_law_250 rfl ?_
        refine x_goto (tgt := 255) dL_law_251 (by decide) ?_
        exact T_L_law_255 (G := G) hK4 ih Y9 q10 v_2 p_3 p_5 p_6 p_7 v_8 v_9 r7 (-2000000097) v16 v20 1 v16 p_5 (k + 266) (n + 2317) N24 h
      · refine x_if_eq_f (tgt := 250) dL_law_242 (by decide) c25 ?_
        refine x_iload 10 dL_law_245 rfl ?_
        rcases x_ifP h with ⟨c26, h⟩ | ⟨c26, h⟩
        · refine x_if_ne_f (tgt := 254) dL_law_247 (by decide) c26 ?_
          refine x_iconst (v := 1) dL_law_250 rfl ?_
          refine x_goto (tgt := 255) dL_law_251 (by decide) ?_
          exact T_L_law_255 (G := G) hK4 ih Y9 q10 v_2 p_3 p_5 p_6 p_7 v_8 v_9 r7 (-2000000097) v16 v20 1 v16 p_5 (k + 266) (n + 2317) N24 h
        · refine x_if_ne_t (tgt := 254) dL_law_247 (by decide) c26 ?_
          refine x_iconst (v := 0) dL_law_254 rfl ?_
          exact T_L_law_255 (G := G) hK4 ih Y9 q10 v_2 p_3 p_5 p_6 p_7 v_8 v_9 r7 (-2000000097) v16 v20 0 v16 p_5 (k + 266) (n + 2317) N24 h
set_option maxHeartbeats 4000000 in
set_option maxRecDepth 100000 in
theorem T_L_law_4 {G : XG} {tb : List ExceptionTableEntry} {nm ds : String}  : ∀ (D9 : Nat) (Y : XY) (q : Nat) (v_2 : Int32) (k : Nat) (n : Nat) (N : XN), f_L_law_4 G D9 Y q v_2 k n N → ExZ G ⟨RL, nm, ds⟩ cL_law 26 ret tb room_1 (law_Z G) k n 4 [(0, .ref (xSb G)), (1, .int 1), (2, .int v_2)] [] Y N := by
  intro D9
  induction D9 with
  | zero => intro Y q v_2 k n N h; exact False.elim h
  | succ D9 ih =>
    intro Y q v_2 k n N h
    rw [f_L_law_4] at h
    refine x_iload_n 2 dL_law_4 rfl rfl ?_
    refine x_aload_n 0 dL_law_5 rfl rfl ?_
    refine x_scrlen dL_law_6 ?_
    rcases x_ifP h with ⟨c1, h⟩ | ⟨c1, h⟩
    · refine x_icmp_ge_t (tgt := 1093) dL_law_7 (by decide) c1 ?_
      refine x_iload_n 1 dL_law_1093 rfl rfl ?_
      obtain ⟨c2, h⟩ := x_ckP h
      exact x_law dL_law_1094 c2.1 c2.2
    · refine x_icmp_ge_f (tgt := 1093) dL_law_7 (by decide) c1 ?_
      refine x_iload_n 2 dL_law_10 rfl rfl ?_
      refine x_iconst (v := 2) dL_law_11 rfl ?_
      rcases x_ifP h with ⟨c3, h⟩ | ⟨c3, h⟩
      · refine x_icmp_ge_t (tgt := 1093) dL_law_12 (by decide) c3 ?_
        refine x_iload_n 1 dL_law_1093 rfl rfl ?_
        obtain ⟨c4, h⟩ := x_ckP h
        exact x_law dL_law_1094 c4.1 c4.2
      · refine x_icmp_ge_f (tgt := 1093) dL_law_12 (by decide) c3 ?_
        refine x_iload_n 1 dL_law_15 rfl rfl ?_
        refine x_if_eq_f (tgt := 1093) dL_law_16 (by decide) (by decide) ?_
        refine x_mark0 h.1 fun q5 g7 => ?_
        obtain ⟨Y6, eY6, h⟩ := x_mk0P h q5 g7
        refine x_nmY eY6 ?_
        obtain ⟨c8, h⟩ := x_ckP h
        obtain ⟨c9, h⟩ := x_ckP h
        refine x_newO (q := q5) (ci := 7) dL_law_19 vc_X7 xin7 tyX7_ok kl9_L_14 it9_X7 wn_X7 (fun j hj => match j, hj with | 0, _ => rfl | 1, _ => rfl | 2, _ => rfl | 3, _ => rfl | 4, _ => rfl | 5, _ => rfl | 6, _ => rfl | 7, _ => rfl | 8, _ => rfl | 9, _ => rfl | z + 10, h => absurd h (by omega)) c8.1 c9 ?_
        obtain ⟨Y10, eY10, h⟩ := x_ltP h
        refine x_nmY eY10 ?_
        obtain ⟨N11, eN11, h⟩ := x_ltP h
        refine x_nmM eN11 ?_
        have k12 : kc Y10 q5 = 17 := by rw [eY10]; exact kcq rfl
        refine x_dup dL_law_22 rfl ?_
        obtain ⟨c13, h⟩ := x_ckP h
        obtain ⟨c14, h⟩ := x_ckP h
        refine x_init (b := q5) (As := []) (R' := xR 3 907 16792) (zz := yX7_init) dL_law_23 ml_L_210 wi_X7_init wn_X7 wc_X7_init rfl hp_X7_init ⟨Nat.le_of_ble_eq_true rfl, Nat.le_of_ble_eq_true rfl⟩ rfl (Nat.le_of_ble_eq_true rfl) c14 (I_X7 (G := G) k12 c13) ?_
        obtain ⟨Y15, eY15, h⟩ := x_ltP h
        refine x_nmY eY15 ?_
        obtain ⟨N16, eN16, h⟩ := x_ltP h
        refine x_nmM eN16 ?_
        refine x_astore_n (L' := [(0, .ref (xSb G)), (2, .int v_2), (3, .ref q5)]) [1, 3, 0] dL_law_26 rfl (by decide) rfl ?_
        refine x_bipush (v := 8) dL_law_27 rfl ?_
        obtain ⟨c17, h⟩ := x_ckP h
        obtain ⟨c18, h⟩ := x_ckP h
        refine x_newP (q := q5 + 908) (M := 8) (kd := 1) dL_law_29 rfl ac9_int (by decide) rfl (by decide) (Or.inl ⟨rfl, rfl, rfl⟩) c17.1 c18 ?_
        obtain ⟨Y19, eY19, h⟩ := x_ltP h
        refine x_nmY eY19 ?_
        obtain ⟨N20, eN20, h⟩ := x_ltP h
        refine x_nmM eN20 ?_
        have k21 : kc Y19 (q5 + 908) = 1 := by rw [eY19]; exact kcq rfl
        refine x_astore (L' := [(0, .ref (xSb G)), (2, .int v_2), (3, .ref q5), (4, .ref (q5 + 908))]) [1, 2, 3, 0] dL_law_31 (by decide) rfl ?_
        obtain ⟨c22, h⟩ := x_ckP h
        obtain ⟨c23, h⟩ := x_ckP h
        refine x_newO (q := q5 + 909) (ci := 10) dL_law_33 vc_X10 xin10 tyX10_ok kl9_L_119 it9_X10 wn_X10 (fun j hj => match j, hj with | 0, _ => rfl | z + 1, h => absurd h (by omega)) c22.1 c23 ?_
        obtain ⟨Y24, eY24, h⟩ := x_ltP h
        refine x_nmY eY24 ?_
        obtain ⟨N25, eN25, h⟩ := x_ltP h
        refine x_nmM eN25 ?_
        have k26 : kc Y24 (q5 + 909) = 20 := by rw [eY24]; exact kcq rfl
        refine x_dup dL_law_36 rfl ?_
        refine x_aload_n 0 dL_law_37 rfl rfl ?_
        refine x_iload_n 1 dL_law_38 rfl rfl ?_
        obtain ⟨c27, h⟩ := x_ckP h
        refine x_scrld (xb_in c27) rfl dL_law_39 ?_
        obtain ⟨N29, e28, h⟩ := x_bd1P h
        refine x_init (b := q5 + 909) (As := [.int (xSx G v_2.toNatClampNeg)]) (R' := xR 1 0 0) (zz := yX10_init) dL_law_40 ml_L_211 wi_X10_init wn_X10 wc_X10_init rfl hp_X10_init ⟨Nat.le_of_ble_eq_true rfl, Nat.le_of_ble_eq_true rfl⟩ rfl (Nat.le_of_ble_eq_true rfl) c23 (T_X10_init (G := G) e28) ?_
        refine x_astore (L' := [(0, .ref (xSb G)), (2, .int v_2), (3, .ref q5), (4, .ref (q5 + 908)), (5, .ref (q5 + 909))]) [1, 2, 3, 4, 0] dL_law_43 (by decide) rfl ?_
        refine x_aload_n 2 dL_law_45 rfl rfl ?_
        obtain ⟨c30, h⟩ := x_ckP h
        obtain ⟨c31, h⟩ := x_ckP h
        refine x_newO (q := q5 + 910) (ci := 8) dL_law_46 vc_X8 xin8 tyX8_ok kl9_L_113 it9_X8 wn_X8 (fun j hj => match j, hj with | 0, _ => rfl | 1, _ => rfl | 2, _ => rfl | 3, _ => rfl | 4, _ => rfl | 5, _ => rfl | 6, _ => rfl | 7, _ => rfl | z + 8, h => absurd h (by omega)) c30.1 c31 ?_
        obtain ⟨Y32, eY32, h⟩ := x_ltP h
        refine x_nmY eY32 ?_
        obtain ⟨N33, eN33, h⟩ := x_ltP h
        refine x_nmM eN33 ?_
        have k34 : kc Y32 (q5 + 910) = 18 := by rw [eY32]; exact kcq rfl
        refine x_dup dL_law_49 rfl ?_
        obtain ⟨c35, h⟩ := x_ckP h
        obtain ⟨Y37, q38, N39, e36, h⟩ := x_bd3P h
        refine x_initNL (b := q5 + 910) (As := []) (R' := xR 1 5 5) (zz := yX8_init) dL_law_50 nl_L_115 wi_X8_init wn_X8 wc_X8_init rfl hp_X8_init ⟨Nat.le_of_ble_eq_true rfl, Nat.le_of_ble_eq_true rfl⟩ rfl (Nat.le_of_ble_eq_true rfl) c35 (T_X8_init (G := G) e36) ?_
        refine x_drop ?_
        obtain ⟨Y40, eY40, h⟩ := x_ltP h
        refine x_nmY eY40 ?_
        obtain ⟨w41, h⟩ := x_ckWP h
        obtain ⟨c42, h⟩ := x_ckP h
        obtain ⟨r43, Y45, q46, N47, e44, h⟩ := x_bd4P h
        refine x_nS (As := [.ref q5, .ref (q5 + 910)]) (R' := xR 9 560 3360) (zz := yL_agrees) dL_law_53 ml_L_214 wt_L_agrees wn_L wc_L_agrees hp_L_agrees ⟨Nat.le_of_ble_eq_true rfl, Nat.le_of_ble_eq_true rfl⟩ rfl (Nat.le_of_ble_eq_true rfl) c42 (T_L_agrees (G := G) e44) ?_
        obtain ⟨c48, h⟩ := x_ckP h
        refine x_if_eq_f (tgt := 139) dL_law_56 (by decide) c48 ?_
        refine x_aload_n 2 dL_law_59 rfl rfl ?_
        obtain ⟨c49, h⟩ := x_ckP h
        obtain ⟨w53, h⟩ := x_ckWP h
        obtain ⟨r50, q52, h⟩ := x_ltP h
        refine x_callV (b := q5) (As := []) (ci := 7) (R' := xR 1 0 0) (zz := yX7_errorOffset) dL_law_60 ml_L_218 wi_X7_errorOffset wv_X7_errorOffset wn_X7 wc_X7_errorOffset hp_X7_errorOffset ⟨Nat.le_of_ble_eq_true rfl, Nat.le_of_ble_eq_true rfl⟩ rfl (Nat.le_of_ble_eq_true rfl) c42 vc_X7 c49 (T_X7_errorOffset (G := G) w53 c49 q52.symm) ?_
        refine x_iconst (v := (-1)) dL_law_63 rfl ?_
        obtain ⟨c54, h⟩ := x_ckP h
        refine x_icmp_ne_f (tgt := 139) dL_law_64 (by decide) c54 ?_
        refine x_aload_n 2 dL_law_67 rfl rfl ?_
        obtain ⟨w58, h⟩ := x_ckWP h
        obtain ⟨r55, N56, q57, h⟩ := x_bd2P h
        refine x_callV (b := q5) (As := []) (ci := 7) (R' := xR 3 0 0) (zz := yX7_undo) dL_law_68 ml_L_221 wi_X7_undo wv_X7_undo wn_X7 wc_X7_undo hp_X7_undo ⟨Nat.le_of_ble_eq_true rfl, Nat.le_of_ble_eq_true rfl⟩ rfl (Nat.le_of_ble_eq_true rfl) c42 vc_X7 c49 (T_X7_undo (G := G) w58 c49 q57) ?_
        refine x_iconst (v := (-1)) dL_law_71 rfl ?_
        obtain ⟨c59, h⟩ := x_ckP h
        refine x_icmp_ne_f (tgt := 139) dL_law_72 (by decide) c59 ?_
        refine x_aload_n 2 dL_law_75 rfl rfl ?_
        refine x_iconst (v := 0) dL_law_76 rfl ?_
        obtain ⟨w63, h⟩ := x_ck9P h
        obtain ⟨c64, h⟩ := x_ckP h
        obtain ⟨r60, N61, q62, h⟩ := x_bd2P h
        refine x_csW (As := [.ref q5, .int 0]) (R' := xR 8 1 6) (zz := yL_pass) dL_law_77 ml_L_224 wt_L_pass wn_L wc_L_pass hp_L_pass ⟨Nat.le_of_ble_eq_true rfl, Nat.le_of_ble_eq_true rfl⟩ rfl (Nat.le_of_ble_eq_true rfl) c64 (T_L_pass (G := G) w63.1 w63.2 c49 q62) ?_
        refine x_ldc (v := (-2000000098)) dL_law_80 kc_L_42 ?_
        obtain ⟨c65, h⟩ := x_ckP h
        refine x_icmp_ne_f (tgt := 139) dL_law_82 (by decide) c65 ?_
        refine x_aload_n 2 dL_law_85 rfl rfl ?_
        refine x_bipush (v := 7) dL_law_86 rfl ?_
        obtain ⟨w69, h⟩ := x_ck9P h
        obtain ⟨c70, h⟩ := x_ckP h
        obtain ⟨r66, N67, q68, h⟩ := x_bd2P h
        refine x_csW (As := [.ref q5, .int 7]) (R' := xR 8 1 6) (zz := yL_pass) dL_law_88 ml_L_224 wt_L_pass wn_L wc_L_pass hp_L_pass ⟨Nat.le_of_ble_eq_true rfl, Nat.le_of_ble_eq_true rfl⟩ rfl (Nat.le_of_ble_eq_true rfl) c70 (T_L_pass (G := G) w69.1 w69.2 c49 q68) ?_
        obtain ⟨c71, h⟩ := x_ckP h
        refine x_if_ne_f (tgt := 139) dL_law_91 (by decide) c71 ?_
        refine x_aload_n 2 dL_law_94 rfl rfl ?_
        obtain ⟨w75, h⟩ := x_ckWP h
        obtain ⟨r72, N73, q74, h⟩ := x_bd2P h
        refine x_callV (b := q5) (As := []) (ci := 7) (R' := xR 3 0 0) (zz := yX7_undo) dL_law_95 ml_L_221 wi_X7_undo wv_X7_undo wn_X7 wc_X7_undo hp_X7_undo ⟨Nat.le_of_ble_eq_true rfl, Nat.le_of_ble_eq_true rfl⟩ rfl (Nat.le_of_ble_eq_true rfl) c70 vc_X7 c49 (T_X7_undo (G := G) w75 c49 q74) ?_
        obtain ⟨c76, h⟩ := x_ckP h
        refine x_if_ne_f (tgt := 139) dL_law_98 (by decide) c76 ?_
        refine x_aload_n 2 dL_law_101 rfl rfl ?_
        refine x_iconst (v := 0) dL_law_102 rfl ?_
        refine x_iconst (v := 0) dL_law_103 rfl ?_
        obtain ⟨w80, h⟩ := x_ck9P h
        obtain ⟨c81, h⟩ := x_ckP h
        obtain ⟨r77, N78, q79, h⟩ := x_bd2P h
        refine x_csW (As := [.ref q5, .int 0, .int 0]) (R' := xR 8 1 6) (zz := yL_raise) dL_law_104 ml_L_226 wt_L_raise wn_L wc_L_raise hp_L_raise ⟨Nat.le_of_ble_eq_true rfl, Nat.le_of_ble_eq_true rfl⟩ rfl (Nat.le_of_ble_eq_true rfl) c81 (T_L_raise (G := G) w80.1 w80.2 c49 q79) ?_
        refine x_ldc (v := (-2000000097)) dL_law_107 kc_L_52 ?_
        obtain ⟨c82, h⟩ := x_ckP h
        refine x_icmp_ne_f (tgt := 139) dL_law_109 (by decide) c82 ?_
        refine x_aload_n 2 dL_law_112 rfl rfl ?_
        refine x_iconst (v := 0) dL_law_113 rfl ?_
        refine x_iconst (v := 0) dL_law_114 rfl ?_
        obtain ⟨w86, h⟩ := x_ck9P h
        obtain ⟨c87, h⟩ := x_ckP h
        obtain ⟨r83, N84, q85, h⟩ := x_bd2P h
        refine x_csW (As := [.ref q5, .int 0, .int 0]) (R' := xR 8 1 6) (zz := yL_lease) dL_law_115 ml_L_228 wt_L_lease wn_L wc_L_lease hp_L_lease ⟨Nat.le_of_ble_eq_true rfl, Nat.le_of_ble_eq_true rfl⟩ rfl (Nat.le_of_ble_eq_true rfl) c87 (T_L_lease (G := G) w86.1 w86.2 c49 q85) ?_
        refine x_ldc (v := (-2000000097)) dL_law_118 kc_L_52 ?_
        obtain ⟨c88, h⟩ := x_ckP h
        refine x_icmp_ne_f (tgt := 139) dL_law_120 (by decide) c88 ?_
        refine x_aload_n 2 dL_law_123 rfl rfl ?_
        refine x_sipush (v := 1101) dL_law_124 rfl ?_
        obtain ⟨w92, h⟩ := x_ck9P h
        obtain ⟨c93, h⟩ := x_ckP h
        obtain ⟨r89, N90, q91, h⟩ := x_bd2P h
        refine x_csW (As := [.ref q5, .int 1101]) (R' := xR 9 1 6) (zz := yL_finesIn) dL_law_127 ml_L_230 wt_L_finesIn wn_L wc_L_finesIn hp_L_finesIn ⟨Nat.le_of_ble_eq_true rfl, Nat.le_of_ble_eq_true rfl⟩ rfl (Nat.le_of_ble_eq_true rfl) c93 (T_L_finesIn (G := G) w92.1 w92.2 c49 q91) ?_
        refine x_ldc (v := (-2000000098)) dL_law_130 kc_L_42 ?_
        obtain ⟨c94, h⟩ := x_ckP h
        refine x_icmp_ne_f (tgt := 139) dL_law_132 (by decide) c94 ?_
        refine x_iconst (v := 1) dL_law_135 rfl ?_
        refine x_goto (tgt := 140) dL_law_136 (by decide) ?_
        refine x_istore_n (L' := [(0, .ref (xSb G)), (1, .int 1), (2, .int v_2), (3, .ref q5), (4, .ref (q5 + 908)), (5, .ref (q5 + 909))]) [1, 0, 2, 3, 4, 5] dL_law_140 rfl (by decide) rfl ?_
        refine x_mark h.1 fun q95 g97 => ?_
        obtain ⟨Y96, eY96, h⟩ := x_mkP h q95 g97
        refine x_nmY eY96 ?_
        refine x_aload_n 3 dL_law_141 rfl rfl ?_
        refine x_aload 4 dL_law_142 rfl ?_
        refine x_aload 5 dL_law_144 rfl ?_
        obtain ⟨w98, h⟩ := x_ckWP h
        obtain ⟨c99, h⟩ := x_ckP h
        obtain ⟨r100, Y102, q103, N104, e101, h⟩ := x_bd4P h
        refine x_nS (As := [.ref q5, .ref (q5 + 908), .ref (q5 + 909)]) (R' := xR 33 400 40000) (zz := yL_randomDesk) dL_law_146 ml_L_232 wt_L_randomDesk wn_L wc_L_randomDesk hp_L_randomDesk ⟨Nat.le_of_ble_eq_true rfl, Nat.le_of_ble_eq_true rfl⟩ rfl (Nat.le_of_ble_eq_true rfl) c99 (T_L_randomDesk (G := G) e101) ?_
        refine x_astore (L' := [(0, .ref (xSb G)), (1, .int 1), (2, .int v_2), (3, .ref q5), (5, .ref (q5 + 909)), (6, .ref r100)]) [1, 2, 3, 4, 6, 0] dL_law_149 (by decide) rfl ?_
        refine x_aload 5 dL_law_151 rfl ?_
        refine x_ifnn_r (tgt := 158) dL_law_153 (by decide) ?_
        refine x_drop ?_
        obtain ⟨Y105, eY105, h⟩ := x_ltP h
        refine x_nmY eY105 ?_
        refine x_iload_n 1 dL_law_158 rfl rfl ?_
        refine x_if_eq_f (tgt := 175) dL_law_159 (by decide) (by decide) ?_
        refine x_aload_n 3 dL_law_162 rfl rfl ?_
        refine x_aload 5 dL_law_163 rfl ?_
        obtain ⟨w106, h⟩ := x_ckWP h
        obtain ⟨c107, h⟩ := x_ckP h
        obtain ⟨r108, Y110, q111, N112, e109, h⟩ := x_bd4P h
        refine x_nS (As := [.ref q5, .ref r100]) (R' := xR 9 560 3360) (zz := yL_agrees) dL_law_165 ml_L_214 wt_L_agrees wn_L wc_L_agrees hp_L_agrees ⟨Nat.le_of_ble_eq_true rfl, Nat.le_of_ble_eq_true rfl⟩ rfl (Nat.le_of_ble_eq_true rfl) c107 (T_L_agrees (G := G) e109) ?_
        obtain ⟨c113, h⟩ := x_ckP h
        refine x_if_eq_f (tgt := 175) dL_law_168 (by decide) c113 ?_
        refine x_iconst (v := 1) dL_law_171 rfl ?_
        refine x_goto (tgt := 176) dL_law_172 (by decide) ?_
        refine x_istore_n (L' := [(0, .ref (xSb G)), (1, .int 1), (2, .int v_2), (3, .ref q5), (5, .ref (q5 + 909)), (6, .ref r100)]) [1, 0, 2, 3, 4, 5] dL_law_176 rfl (by decide) rfl ?_
        refine x_mark h.1 fun q114 g116 => ?_
        obtain ⟨Y115, eY115, h⟩ := x_mkP h q114 g116
        refine x_nmY eY115 ?_
        refine x_bipush (v := 9) dL_law_177 rfl ?_
        obtain ⟨c117, h⟩ := x_ckP h
        obtain ⟨c118, h⟩ := x_ckP h
        refine x_newD (q := q114) (M := 9) dL_law_179 kl9_L_113 (by decide) rfl (by decide) c117.1 c118 ?_
        obtain ⟨Y119, eY119, h⟩ := x_ltP h
        refine x_nmY eY119 ?_
        obtain ⟨N120, eN120, h⟩ := x_ltP h
        refine x_nmM eN120 ?_
        have k121 : kc Y119 q114 = 43 := by rw [eY119]; exact kcq rfl
        refine x_astore (L' := [(0, .ref (xSb G)), (1, .int 1), (2, .int v_2), (3, .ref q5), (5, .ref (q5 + 909)), (6, .ref r100), (7, .ref q114)]) [1, 2, 3, 4, 5, 6, 0] dL_law_182 (by decide) rfl ?_
        refine x_drop ?_
        obtain ⟨Y122, eY122, h⟩ := x_ltP h
        refine x_nmY eY122 ?_
        refine x_iconst (v := 0) dL_law_184 rfl ?_
        refine x_istore (L' := [(0, .ref (xSb G)), (1, .int 1), (2, .int v_2), (3, .ref q5), (5, .ref (q5 + 909)), (6, .ref r100), (7, .ref q114), (8, .int 0)]) [1, 2, 3, 4, 5, 6, 7, 0] dL_law_185 (by decide) rfl ?_
        refine x_iconst (v := 0) dL_law_187 rfl ?_
        refine x_istore (L' := [(0, .ref (xSb G)), (1, .int 1), (2, .int v_2), (3, .ref q5), (5, .ref (q5 + 909)), (6, .ref r100), (7, .ref q114), (8, .int 0), (9, .int 0)]) [1, 2, 3, 4, 5, 6, 7, 8, 0] dL_law_188 (by decide) rfl ?_
        exact T_L_law_190 (G := G) ih FU Y122 (q114 + 1) v_2 q5 (q5 + 909) r100 q114 0 0 (k + 1 + 907 + 1 + 1 + 1 + 5 + 560 + 1 + 1 + 1 + 1 + 1 + 400 + 560 + 1) (n + 10 + 16792 + 8 + 1 + 8 + 5 + 3360 + 6 + 6 + 6 + 6 + 6 + 40000 + 3360 + 9) N120 h
set_option maxHeartbeats 4000000 in
theorem T_L_law {G : XG} {tb : List ExceptionTableEntry} {nm ds : String} (Y : XY) (q : Nat) (N : XN) (h : f_L_law G Y q N) : ExZ G ⟨RL, nm, ds⟩ cL_law 26 ret tb room_1 (law_Z G) 0 0 0 [(0, .ref (xSb G))] [] Y N := by
  rw [f_L_law] at h
  refine x_iconst (v := 1) dL_law_0 rfl ?_
  refine x_istore_n (L' := [(0, .ref (xSb G)), (1, .int 1)]) [1, 0] dL_law_1 rfl (by decide) rfl ?_
  refine x_iconst (v := 0) dL_law_2 rfl ?_
  refine x_istore_n (L' := [(0, .ref (xSb G)), (1, .int 1), (2, .int 0)]) [1, 2, 0] dL_law_3 rfl (by decide) rfl ?_
  exact T_L_law_4 (G := G) FU Y q 0 0 0 N h
