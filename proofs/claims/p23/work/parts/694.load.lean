set_option maxHeartbeats 4000000 in
set_option maxRecDepth 100000 in
theorem T_L_agrees_336 {G : XG} {tb : List ExceptionTableEntry} {rz : Int32} {Yz : XY} {qz : Nat} {Nz : XN} (Y : XY) (q : Nat) (p_0 : Nat) (p_1 : Nat) (k : Nat) (n : Nat) (N : XN) (h : f_L_agrees_336 Y q p_0 p_1 k n N = some (rz, Yz, qz, Nz)) : ExZ G yL_agrees cL_agrees 5 (some .boolean) tb (xR 9 560 3360) (xZn G (xR 9 560 3360) (some (.int rz)) Yz Nz) k n 336 [(0, .ref p_0), (1, .ref p_1), (2, .int 1)] [] Y N := by
  rw [f_L_agrees_336] at h
  refine x_iload_n 2 dL_agrees_336 rfl rfl ?_
  refine x_if_eq_f (tgt := 389) dL_agrees_337 (by decide) (by decide) ?_
  refine x_aload_n 0 dL_agrees_340 rfl rfl ?_
  refine x_aload_n 1 dL_agrees_341 rfl rfl ?_
  obtain ⟨c1, h⟩ := x_ckk h
  obtain ⟨c3, h⟩ := x_ckk h
  obtain ⟨p2, lp2, h⟩ := x_lt h
  have ep2 : gr Y p_1 3 = some p2 := by rw [lp2]; exact c3
  refine x_getr dL_agrees_342 vc_X8 xin8 fb_X8_3 fl_L_123 xr_X8_3 c1 ep2 ?_
  obtain ⟨c4, h⟩ := x_ckk h
  refine x_rlen (j := 4) dL_agrees_345 (by decide) c4 rfl ?_
  refine x_iconst (v := 0) dL_agrees_346 rfl ?_
  obtain ⟨c5, h⟩ := x_ckk h
  obtain ⟨w9, h⟩ := x_ck9 h
  obtain ⟨c10, h⟩ := x_ckk h
  obtain ⟨r6, N7, q8, h⟩ := x_bd2 h
  refine x_csW (As := [.ref p_0, .int (Int32.ofNat (kn Y p2)), .int 0]) (R' := xR 8 1 6) (zz := yL_handler) dL_agrees_347 ml_L_195 wt_L_handler wn_L wc_L_handler hp_L_handler ⟨Nat.le_of_ble_eq_true rfl, Nat.le_of_ble_eq_true rfl⟩ rfl (Nat.le_of_ble_eq_true rfl) c10 (T_L_handler (G := G) w9.1 w9.2 c5 q8) ?_
  refine x_ldc (v := (-2000000097)) dL_agrees_350 kc_L_52 ?_
  obtain ⟨c11, h⟩ := x_ckk h
  refine x_icmp_ne_f (tgt := 389) dL_agrees_352 (by decide) c11 ?_
  refine x_aload_n 0 dL_agrees_355 rfl rfl ?_
  refine x_aload_n 1 dL_agrees_356 rfl rfl ?_
  obtain ⟨c13, h⟩ := x_ckk h
  obtain ⟨p12, lp12, h⟩ := x_lt h
  have ep12 : gr Y p_1 4 = some p12 := by rw [lp12]; exact c13
  refine x_getr dL_agrees_357 vc_X8 xin8 fb_X8_4 fl_L_138 xr_X8_4 c1 ep12 ?_
  obtain ⟨c14, h⟩ := x_ckk h
  refine x_rlen (j := 4) dL_agrees_360 (by decide) c14 rfl ?_
  refine x_iconst (v := 0) dL_agrees_361 rfl ?_
  obtain ⟨w18, h⟩ := x_ck9 h
  obtain ⟨c19, h⟩ := x_ckk h
  obtain ⟨r15, N16, q17, h⟩ := x_bd2 h
  refine x_csW (As := [.ref p_0, .int (Int32.ofNat (kn Y p12)), .int 0]) (R' := xR 8 1 6) (zz := yL_line) dL_agrees_362 ml_L_201 wt_L_line wn_L wc_L_line hp_L_line ⟨Nat.le_of_ble_eq_true rfl, Nat.le_of_ble_eq_true rfl⟩ rfl (Nat.le_of_ble_eq_true rfl) c19 (T_L_line (G := G) w18.1 w18.2 c5 q17) ?_
  refine x_ldc (v := (-2000000097)) dL_agrees_365 kc_L_52 ?_
  obtain ⟨c20, h⟩ := x_ckk h
  refine x_icmp_ne_f (tgt := 389) dL_agrees_367 (by decide) c20 ?_
  refine x_aload_n 0 dL_agrees_370 rfl rfl ?_
  refine x_aload_n 1 dL_agrees_371 rfl rfl ?_
  obtain ⟨c22, h⟩ := x_ckk h
  obtain ⟨p21, lp21, h⟩ := x_lt h
  have ep21 : gr Y p_1 6 = some p21 := by rw [lp21]; exact c22
  refine x_getr dL_agrees_372 vc_X8 xin8 fb_X8_6 fl_L_152 xr_X8_6 c1 ep21 ?_
  obtain ⟨c23, h⟩ := x_ckk h
  refine x_rlen (j := 4) dL_agrees_375 (by decide) c23 rfl ?_
  refine x_iconst (v := 0) dL_agrees_376 rfl ?_
  obtain ⟨w27, h⟩ := x_ck9 h
  obtain ⟨c28, h⟩ := x_ckk h
  obtain ⟨r24, N25, q26, h⟩ := x_bd2 h
  refine x_csW (As := [.ref p_0, .int (Int32.ofNat (kn Y p21)), .int 0]) (R' := xR 8 1 6) (zz := yL_request) dL_agrees_377 ml_L_208 wt_L_request wn_L wc_L_request hp_L_request ⟨Nat.le_of_ble_eq_true rfl, Nat.le_of_ble_eq_true rfl⟩ rfl (Nat.le_of_ble_eq_true rfl) c28 (T_L_request (G := G) w27.1 w27.2 c5 q26) ?_
  refine x_ldc (v := (-2000000097)) dL_agrees_380 kc_L_52 ?_
  obtain ⟨c29, h⟩ := x_ckk h
  refine x_icmp_ne_f (tgt := 389) dL_agrees_382 (by decide) c29 ?_
  refine x_iconst (v := 1) dL_agrees_385 rfl ?_
  refine x_goto (tgt := 390) dL_agrees_386 (by decide) ?_
  refine x_wide (k' := 560) (n' := 3360) c28 ?_
  obtain ⟨rfl, h8⟩ := Prod.mk.inj (x_so h)
  obtain ⟨rfl, h7⟩ := Prod.mk.inj h8
  obtain ⟨rfl, rfl⟩ := Prod.mk.inj h7
  exact x_nzret dL_agrees_390 rfl (by decide) rfl rfl
set_option maxHeartbeats 4000000 in
set_option maxRecDepth 100000 in
theorem T_L_agrees_288 {G : XG} {tb : List ExceptionTableEntry} {rz : Int32} {Yz : XY} {qz : Nat} {Nz : XN} {K272 : XY → Nat → Nat → Nat → Int32 → Nat → Nat → XN → Option (Int32 × XY × Nat × XN)} (hK272 : ∀ (Y : XY) (q : Nat) (p_0 : Nat) (p_1 : Nat) (v_3 : Int32) (k : Nat) (n : Nat) (N : XN), K272 Y q p_0 p_1 v_3 k n N = some (rz, Yz, qz, Nz) → ExZ G yL_agrees cL_agrees 5 (some .boolean) tb (xR 9 560 3360) (xZn G (xR 9 560 3360) (some (.int rz)) Yz Nz) k n 272 [(0, .ref p_0), (1, .ref p_1), (2, .int 1), (3, .int v_3)] [] Y N) : ∀ (D9 : Nat) (Y : XY) (q : Nat) (p_0 : Nat) (p_1 : Nat) (v_3 : Int32) (v_4 : Int32) (k : Nat) (n : Nat) (N : XN), f_L_agrees_288 K272 D9 Y q p_0 p_1 v_3 v_4 k n N = some (rz, Yz, qz, Nz) → ExZ G yL_agrees cL_agrees 5 (some .boolean) tb (xR 9 560 3360) (xZn G (xR 9 560 3360) (some (.int rz)) Yz Nz) k n 288 [(0, .ref p_0), (1, .ref p_1), (2, .int 1), (3, .int v_3), (4, .int v_4)] [] Y N := by
  intro D9
  induction D9 with
  | zero => intro Y q p_0 p_1 v_3 v_4 k n N h; exact nomatch (show none = some _ from h)
  | succ D9 ih =>
    intro Y q p_0 p_1 v_3 v_4 k n N h
    rw [f_L_agrees_288] at h
    refine x_iload 4 dL_agrees_288 rfl ?_
    refine x_bipush (v := 7) dL_agrees_290 rfl ?_
    rcases x_if h with ⟨c1, h⟩ | ⟨c1, h⟩
    · refine x_icmp_ge_t (tgt := 330) dL_agrees_292 (by decide) c1 ?_
      refine x_iinc (L' := [(0, .ref p_0), (1, .ref p_1), (2, .int 1), (3, .int (v_3 + 1))]) 3 [1, 2, 3, 0] dL_agrees_330 rfl rfl (by decide) rfl ?_
      refine x_goto (tgt := 272) dL_agrees_333 (by decide) ?_
      exact hK272 Y q p_0 p_1 (v_3 + 1) k n N h
    · refine x_icmp_ge_f (tgt := 330) dL_agrees_292 (by decide) c1 ?_
      refine x_iload_n 2 dL_agrees_295 rfl rfl ?_
      refine x_if_eq_f (tgt := 330) dL_agrees_296 (by decide) (by decide) ?_
      refine x_aload_n 0 dL_agrees_299 rfl rfl ?_
      refine x_iload_n 3 dL_agrees_300 rfl rfl ?_
      refine x_iload 4 dL_agrees_301 rfl ?_
      obtain ⟨c2, h⟩ := x_ckk h
      obtain ⟨w6, h⟩ := x_ck9 h
      obtain ⟨c7, h⟩ := x_ckk h
      obtain ⟨r3, N4, q5, h⟩ := x_bd2 h
      refine x_csW (As := [.ref p_0, .int v_3, .int v_4]) (R' := xR 8 1 6) (zz := yL_request) dL_agrees_303 ml_L_208 wt_L_request wn_L wc_L_request hp_L_request ⟨Nat.le_of_ble_eq_true rfl, Nat.le_of_ble_eq_true rfl⟩ rfl (Nat.le_of_ble_eq_true rfl) c7 (T_L_request (G := G) w6.1 w6.2 c2 q5) ?_
      refine x_aload_n 1 dL_agrees_306 rfl rfl ?_
      obtain ⟨c8, h⟩ := x_ckk h
      obtain ⟨c10, h⟩ := x_ckk h
      obtain ⟨p9, lp9, h⟩ := x_lt h
      have ep9 : gr Y p_1 6 = some p9 := by rw [lp9]; exact c10
      refine x_getr dL_agrees_307 vc_X8 xin8 fb_X8_6 fl_L_152 xr_X8_6 c8 ep9 ?_
      refine x_iload_n 3 dL_agrees_310 rfl rfl ?_
      obtain ⟨c11, h⟩ := x_ckk h
      obtain ⟨c12, h⟩ := x_ckk h
      obtain ⟨c14, h⟩ := x_ckk h
      obtain ⟨p13, lp13, h⟩ := x_lt h
      have ep13 : gr Y p9 v_3.toNatClampNeg = some p13 := by rw [lp13]; exact c14
      refine x_aald (j := 4) dL_agrees_311 (by decide) c11 (xb_in c12) ep13 ?_
      refine x_iload 4 dL_agrees_312 rfl ?_
      obtain ⟨c15, h⟩ := x_ckk h
      obtain ⟨c16, h⟩ := x_ckk h
      refine x_iald dL_agrees_314 c15 (xb_in c16) rfl ?_
      obtain ⟨c17, h⟩ := x_ckk h
      refine x_icmp_ne_f (tgt := 322) dL_agrees_315 (by decide) c17 ?_
      refine x_iconst (v := 1) dL_agrees_318 rfl ?_
      refine x_goto (tgt := 323) dL_agrees_319 (by decide) ?_
      refine x_istore_n (L' := [(0, .ref p_0), (1, .ref p_1), (2, .int 1), (3, .int v_3), (4, .int v_4)]) [1, 2, 0, 3, 4] dL_agrees_323 rfl (by decide) rfl ?_
      refine x_iinc (L' := [(0, .ref p_0), (1, .ref p_1), (2, .int 1), (3, .int v_3), (4, .int (v_4 + 1))]) 4 [1, 2, 3, 4, 0] dL_agrees_324 rfl rfl (by decide) rfl ?_
      refine x_goto (tgt := 288) dL_agrees_327 (by decide) ?_
      exact ih Y q p_0 p_1 v_3 (v_4 + 1) (k + 1) (n + 6) N4 h
set_option maxHeartbeats 4000000 in
set_option maxRecDepth 100000 in
theorem T_L_agrees_272 {G : XG} {tb : List ExceptionTableEntry} {rz : Int32} {Yz : XY} {qz : Nat} {Nz : XN} : ∀ (D9 : Nat) (Y : XY) (q : Nat) (p_0 : Nat) (p_1 : Nat) (v_3 : Int32) (k : Nat) (n : Nat) (N : XN), f_L_agrees_272 D9 Y q p_0 p_1 v_3 k n N = some (rz, Yz, qz, Nz) → ExZ G yL_agrees cL_agrees 5 (some .boolean) tb (xR 9 560 3360) (xZn G (xR 9 560 3360) (some (.int rz)) Yz Nz) k n 272 [(0, .ref p_0), (1, .ref p_1), (2, .int 1), (3, .int v_3)] [] Y N := by
  intro D9
  induction D9 with
  | zero => intro Y q p_0 p_1 v_3 k n N h; exact nomatch (show none = some _ from h)
  | succ D9 ih =>
    intro Y q p_0 p_1 v_3 k n N h
    rw [f_L_agrees_272] at h
    refine x_iload_n 3 dL_agrees_272 rfl rfl ?_
    refine x_aload_n 1 dL_agrees_273 rfl rfl ?_
    obtain ⟨c1, h⟩ := x_ckk h
    obtain ⟨c3, h⟩ := x_ckk h
    obtain ⟨p2, lp2, h⟩ := x_lt h
    have ep2 : gr Y p_1 6 = some p2 := by rw [lp2]; exact c3
    refine x_getr dL_agrees_274 vc_X8 xin8 fb_X8_6 fl_L_152 xr_X8_6 c1 ep2 ?_
    obtain ⟨c4, h⟩ := x_ckk h
    refine x_rlen (j := 4) dL_agrees_277 (by decide) c4 rfl ?_
    rcases x_if h with ⟨c5, h⟩ | ⟨c5, h⟩
    · refine x_icmp_ge_t (tgt := 336) dL_agrees_278 (by decide) c5 ?_
      refine x_sub (L' := [(0, .ref p_0), (1, .ref p_1), (2, .int 1)]) [0, 1, 2] rfl ?_
      exact T_L_agrees_336 (G := G) Y q p_0 p_1 k n N h
    · refine x_icmp_ge_f (tgt := 336) dL_agrees_278 (by decide) c5 ?_
      refine x_iload_n 2 dL_agrees_281 rfl rfl ?_
      refine x_if_eq_f (tgt := 336) dL_agrees_282 (by decide) (by decide) ?_
      refine x_iconst (v := 0) dL_agrees_285 rfl ?_
      refine x_istore (L' := [(0, .ref p_0), (1, .ref p_1), (2, .int 1), (3, .int v_3), (4, .int 0)]) [1, 2, 3, 4, 0] dL_agrees_286 (by decide) rfl ?_
      exact T_L_agrees_288 (G := G) ih FU Y q p_0 p_1 v_3 0 k n N h
set_option maxHeartbeats 4000000 in
set_option maxRecDepth 100000 in
theorem T_L_agrees_237 {G : XG} {tb : List ExceptionTableEntry} {rz : Int32} {Yz : XY} {qz : Nat} {Nz : XN} {K132 : XY → Nat → Nat → Nat → Int32 → Nat → Nat → XN → Option (Int32 × XY × Nat × XN)} (hK132 : ∀ (Y : XY) (q : Nat) (p_0 : Nat) (p_1 : Nat) (v_3 : Int32) (k : Nat) (n : Nat) (N : XN), K132 Y q p_0 p_1 v_3 k n N = some (rz, Yz, qz, Nz) → ExZ G yL_agrees cL_agrees 5 (some .boolean) tb (xR 9 560 3360) (xZn G (xR 9 560 3360) (some (.int rz)) Yz Nz) k n 132 [(0, .ref p_0), (1, .ref p_1), (2, .int 1), (3, .int v_3)] [] Y N) (Y : XY) (q : Nat) (p_0 : Nat) (p_1 : Nat) (v_3 : Int32) (k : Nat) (n : Nat) (N : XN) (h : f_L_agrees_237 K132 Y q p_0 p_1 v_3 k n N = some (rz, Yz, qz, Nz)) : ExZ G yL_agrees cL_agrees 5 (some .boolean) tb (xR 9 560 3360) (xZn G (xR 9 560 3360) (some (.int rz)) Yz Nz) k n 237 [(0, .ref p_0), (1, .ref p_1), (2, .int 1), (3, .int v_3)] [] Y N := by
  rw [f_L_agrees_237] at h
  refine x_iload_n 2 dL_agrees_237 rfl rfl ?_
  refine x_if_eq_f (tgt := 262) dL_agrees_238 (by decide) (by decide) ?_
  refine x_aload_n 0 dL_agrees_241 rfl rfl ?_
  refine x_iload_n 3 dL_agrees_242 rfl rfl ?_
  refine x_aload_n 1 dL_agrees_243 rfl rfl ?_
  obtain ⟨c1, h⟩ := x_ckk h
  obtain ⟨c3, h⟩ := x_ckk h
  obtain ⟨p2, lp2, h⟩ := x_lt h
  have ep2 : gr Y p_1 5 = some p2 := by rw [lp2]; exact c3
  refine x_getr dL_agrees_244 vc_X8 xin8 fb_X8_5 fl_L_147 xr_X8_5 c1 ep2 ?_
  refine x_iload_n 3 dL_agrees_247 rfl rfl ?_
  obtain ⟨c4, h⟩ := x_ckk h
  obtain ⟨c5, h⟩ := x_ckk h
  obtain ⟨c7, h⟩ := x_ckk h
  obtain ⟨p6, lp6, h⟩ := x_lt h
  have ep6 : gr Y p2 v_3.toNatClampNeg = some p6 := by rw [lp6]; exact c7
  refine x_aald (j := 4) dL_agrees_248 (by decide) c4 (xb_in c5) ep6 ?_
  obtain ⟨c8, h⟩ := x_ckk h
  refine x_ilen dL_agrees_249 c8 rfl ?_
  obtain ⟨c9, h⟩ := x_ckk h
  obtain ⟨w13, h⟩ := x_ck9 h
  obtain ⟨c14, h⟩ := x_ckk h
  obtain ⟨r10, N11, q12, h⟩ := x_bd2 h
  refine x_csW (As := [.ref p_0, .int v_3, .int (Int32.ofNat (kn Y p6))]) (R' := xR 8 1 6) (zz := yL_tenant) dL_agrees_250 ml_L_206 wt_L_tenant wn_L wc_L_tenant hp_L_tenant ⟨Nat.le_of_ble_eq_true rfl, Nat.le_of_ble_eq_true rfl⟩ rfl (Nat.le_of_ble_eq_true rfl) c14 (T_L_tenant (G := G) w13.1 w13.2 c9 q12) ?_
  refine x_ldc (v := (-2000000100)) dL_agrees_253 kc_L_61 ?_
  obtain ⟨c15, h⟩ := x_ckk h
  refine x_icmp_ne_f (tgt := 262) dL_agrees_255 (by decide) c15 ?_
  refine x_iconst (v := 1) dL_agrees_258 rfl ?_
  refine x_goto (tgt := 263) dL_agrees_259 (by decide) ?_
  refine x_istore_n (L' := [(0, .ref p_0), (1, .ref p_1), (2, .int 1), (3, .int v_3)]) [1, 2, 0, 3] dL_agrees_263 rfl (by decide) rfl ?_
  refine x_iinc (L' := [(0, .ref p_0), (1, .ref p_1), (2, .int 1), (3, .int (v_3 + 1))]) 3 [1, 2, 3, 0] dL_agrees_264 rfl rfl (by decide) rfl ?_
  refine x_goto (tgt := 132) dL_agrees_267 (by decide) ?_
  exact hK132 Y q p_0 p_1 (v_3 + 1) (k + 1) (n + 6) N11 h
set_option maxHeartbeats 4000000 in
set_option maxRecDepth 100000 in
theorem T_L_agrees_190 {G : XG} {tb : List ExceptionTableEntry} {rz : Int32} {Yz : XY} {qz : Nat} {Nz : XN} {K132 : XY → Nat → Nat → Nat → Int32 → Nat → Nat → XN → Option (Int32 × XY × Nat × XN)} (hK132 : ∀ (Y : XY) (q : Nat) (p_0 : Nat) (p_1 : Nat) (v_3 : Int32) (k : Nat) (n : Nat) (N : XN), K132 Y q p_0 p_1 v_3 k n N = some (rz, Yz, qz, Nz) → ExZ G yL_agrees cL_agrees 5 (some .boolean) tb (xR 9 560 3360) (xZn G (xR 9 560 3360) (some (.int rz)) Yz Nz) k n 132 [(0, .ref p_0), (1, .ref p_1), (2, .int 1), (3, .int v_3)] [] Y N) : ∀ (D9 : Nat) (Y : XY) (q : Nat) (p_0 : Nat) (p_1 : Nat) (v_3 : Int32) (v_4 : Int32) (k : Nat) (n : Nat) (N : XN), f_L_agrees_190 K132 D9 Y q p_0 p_1 v_3 v_4 k n N = some (rz, Yz, qz, Nz) → ExZ G yL_agrees cL_agrees 5 (some .boolean) tb (xR 9 560 3360) (xZn G (xR 9 560 3360) (some (.int rz)) Yz Nz) k n 190 [(0, .ref p_0), (1, .ref p_1), (2, .int 1), (3, .int v_3), (4, .int v_4)] [] Y N := by
  intro D9
  induction D9 with
  | zero => intro Y q p_0 p_1 v_3 v_4 k n N h; exact nomatch (show none = some _ from h)
  | succ D9 ih =>
    intro Y q p_0 p_1 v_3 v_4 k n N h
    rw [f_L_agrees_190] at h
    refine x_iload 4 dL_agrees_190 rfl ?_
    refine x_aload_n 1 dL_agrees_192 rfl rfl ?_
    obtain ⟨c1, h⟩ := x_ckk h
    obtain ⟨c3, h⟩ := x_ckk h
    obtain ⟨p2, lp2, h⟩ := x_lt h
    have ep2 : gr Y p_1 5 = some p2 := by rw [lp2]; exact c3
    refine x_getr dL_agrees_193 vc_X8 xin8 fb_X8_5 fl_L_147 xr_X8_5 c1 ep2 ?_
    refine x_iload_n 3 dL_agrees_196 rfl rfl ?_
    obtain ⟨c4, h⟩ := x_ckk h
    obtain ⟨c5, h⟩ := x_ckk h
    obtain ⟨c7, h⟩ := x_ckk h
    obtain ⟨p6, lp6, h⟩ := x_lt h
    have ep6 : gr Y p2 v_3.toNatClampNeg = some p6 := by rw [lp6]; exact c7
    refine x_aald (j := 4) dL_agrees_197 (by decide) c4 (xb_in c5) ep6 ?_
    obtain ⟨c8, h⟩ := x_ckk h
    refine x_ilen dL_agrees_198 c8 rfl ?_
    rcases x_if h with ⟨c9, h⟩ | ⟨c9, h⟩
    · refine x_icmp_ge_t (tgt := 237) dL_agrees_199 (by decide) c9 ?_
      refine x_sub (L' := [(0, .ref p_0), (1, .ref p_1), (2, .int 1), (3, .int v_3)]) [0, 1, 2, 3] rfl ?_
      exact T_L_agrees_237 (G := G) hK132 Y q p_0 p_1 v_3 k n N h
    · refine x_icmp_ge_f (tgt := 237) dL_agrees_199 (by decide) c9 ?_
      refine x_iload_n 2 dL_agrees_202 rfl rfl ?_
      refine x_if_eq_f (tgt := 237) dL_agrees_203 (by decide) (by decide) ?_
      refine x_aload_n 0 dL_agrees_206 rfl rfl ?_
      refine x_iload_n 3 dL_agrees_207 rfl rfl ?_
      refine x_iload 4 dL_agrees_208 rfl ?_
      obtain ⟨c10, h⟩ := x_ckk h
      obtain ⟨w14, h⟩ := x_ck9 h
      obtain ⟨c15, h⟩ := x_ckk h
      obtain ⟨r11, N12, q13, h⟩ := x_bd2 h
      refine x_csW (As := [.ref p_0, .int v_3, .int v_4]) (R' := xR 8 1 6) (zz := yL_tenant) dL_agrees_210 ml_L_206 wt_L_tenant wn_L wc_L_tenant hp_L_tenant ⟨Nat.le_of_ble_eq_true rfl, Nat.le_of_ble_eq_true rfl⟩ rfl (Nat.le_of_ble_eq_true rfl) c15 (T_L_tenant (G := G) w14.1 w14.2 c10 q13) ?_
      refine x_aload_n 1 dL_agrees_213 rfl rfl ?_
      refine x_getr dL_agrees_214 vc_X8 xin8 fb_X8_5 fl_L_147 xr_X8_5 c1 ep2 ?_
      refine x_iload_n 3 dL_agrees_217 rfl rfl ?_
      obtain ⟨c16, h⟩ := x_ckk h
      refine x_aald (j := 4) dL_agrees_218 (by decide) c4 (xb_in c16) ep6 ?_
      refine x_iload 4 dL_agrees_219 rfl ?_
      obtain ⟨c17, h⟩ := x_ckk h
      refine x_iald dL_agrees_221 c8 (xb_in c17) rfl ?_
      obtain ⟨c18, h⟩ := x_ckk h
      refine x_icmp_ne_f (tgt := 229) dL_agrees_222 (by decide) c18 ?_
      refine x_iconst (v := 1) dL_agrees_225 rfl ?_
      refine x_goto (tgt := 230) dL_agrees_226 (by decide) ?_
      refine x_istore_n (L' := [(0, .ref p_0), (1, .ref p_1), (2, .int 1), (3, .int v_3), (4, .int v_4)]) [1, 2, 0, 3, 4] dL_agrees_230 rfl (by decide) rfl ?_
      refine x_iinc (L' := [(0, .ref p_0), (1, .ref p_1), (2, .int 1), (3, .int v_3), (4, .int (v_4 + 1))]) 4 [1, 2, 3, 4, 0] dL_agrees_231 rfl rfl (by decide) rfl ?_
      refine x_goto (tgt := 190) dL_agrees_234 (by decide) ?_
      exact ih Y q p_0 p_1 v_3 (v_4 + 1) (k + 1) (n + 6) N12 h
set_option maxHeartbeats 4000000 in
set_option maxRecDepth 100000 in
theorem T_L_agrees_148 {G : XG} {tb : List ExceptionTableEntry} {rz : Int32} {Yz : XY} {qz : Nat} {Nz : XN} {K132 : XY → Nat → Nat → Nat → Int32 → Nat → Nat → XN → Option (Int32 × XY × Nat × XN)} (hK132 : ∀ (Y : XY) (q : Nat) (p_0 : Nat) (p_1 : Nat) (v_3 : Int32) (k : Nat) (n : Nat) (N : XN), K132 Y q p_0 p_1 v_3 k n N = some (rz, Yz, qz, Nz) → ExZ G yL_agrees cL_agrees 5 (some .boolean) tb (xR 9 560 3360) (xZn G (xR 9 560 3360) (some (.int rz)) Yz Nz) k n 132 [(0, .ref p_0), (1, .ref p_1), (2, .int 1), (3, .int v_3)] [] Y N) : ∀ (D9 : Nat) (Y : XY) (q : Nat) (p_0 : Nat) (p_1 : Nat) (v_3 : Int32) (v_4 : Int32) (k : Nat) (n : Nat) (N : XN), f_L_agrees_148 K132 D9 Y q p_0 p_1 v_3 v_4 k n N = some (rz, Yz, qz, Nz) → ExZ G yL_agrees cL_agrees 5 (some .boolean) tb (xR 9 560 3360) (xZn G (xR 9 560 3360) (some (.int rz)) Yz Nz) k n 148 [(0, .ref p_0), (1, .ref p_1), (2, .int 1), (3, .int v_3), (4, .int v_4)] [] Y N := by
  intro D9
  induction D9 with
  | zero => intro Y q p_0 p_1 v_3 v_4 k n N h; exact nomatch (show none = some _ from h)
  | succ D9 ih =>
    intro Y q p_0 p_1 v_3 v_4 k n N h
    rw [f_L_agrees_148] at h
    refine x_iload 4 dL_agrees_148 rfl ?_
    refine x_iconst (v := 5) dL_agrees_150 rfl ?_
    rcases x_if h with ⟨c1, h⟩ | ⟨c1, h⟩
    · refine x_icmp_ge_t (tgt := 187) dL_agrees_151 (by decide) c1 ?_
      refine x_iconst (v := 0) dL_agrees_187 rfl ?_
      refine x_istore (L' := [(0, .ref p_0), (1, .ref p_1), (2, .int 1), (3, .int v_3), (4, .int 0)]) [1, 2, 3, 4, 0] dL_agrees_188 (by decide) rfl ?_
      exact T_L_agrees_190 (G := G) hK132 FU Y q p_0 p_1 v_3 0 k n N h
    · refine x_icmp_ge_f (tgt := 187) dL_agrees_151 (by decide) c1 ?_
      refine x_iload_n 2 dL_agrees_154 rfl rfl ?_
      refine x_if_eq_f (tgt := 187) dL_agrees_155 (by decide) (by decide) ?_
      refine x_aload_n 0 dL_agrees_158 rfl rfl ?_
      refine x_iload_n 3 dL_agrees_159 rfl rfl ?_
      refine x_iload 4 dL_agrees_160 rfl ?_
      obtain ⟨c2, h⟩ := x_ckk h
      obtain ⟨w6, h⟩ := x_ck9 h
      obtain ⟨c7, h⟩ := x_ckk h
      obtain ⟨r3, N4, q5, h⟩ := x_bd2 h
      refine x_csW (As := [.ref p_0, .int v_3, .int v_4]) (R' := xR 8 1 6) (zz := yL_line) dL_agrees_162 ml_L_201 wt_L_line wn_L wc_L_line hp_L_line ⟨Nat.le_of_ble_eq_true rfl, Nat.le_of_ble_eq_true rfl⟩ rfl (Nat.le_of_ble_eq_true rfl) c7 (T_L_line (G := G) w6.1 w6.2 c2 q5) ?_
      refine x_aload_n 1 dL_agrees_165 rfl rfl ?_
      refine x_iload_n 3 dL_agrees_166 rfl rfl ?_
      refine x_iload 4 dL_agrees_167 rfl ?_
      obtain ⟨c8, h⟩ := x_ckk h
      obtain ⟨r9, N11, e10, h⟩ := x_bd2 h
      refine x_nV (b := p_1) (As := [.int v_3, .int v_4]) (ci := 8) (R' := xR 1 0 0) (zz := yX8_ofLine) dL_agrees_169 ml_L_203 wi_X8_ofLine wv_X8_ofLine wn_X8 wc_X8_ofLine hp_X8_ofLine ⟨Nat.le_of_ble_eq_true rfl, Nat.le_of_ble_eq_true rfl⟩ rfl (Nat.le_of_ble_eq_true rfl) c7 vc_X8 c8 (T_X8_ofLine (G := G) e10) ?_
      obtain ⟨c12, h⟩ := x_ckk h
      refine x_icmp_ne_f (tgt := 179) dL_agrees_172 (by decide) c12 ?_
      refine x_iconst (v := 1) dL_agrees_175 rfl ?_
      refine x_goto (tgt := 180) dL_agrees_176 (by decide) ?_
      refine x_istore_n (L' := [(0, .ref p_0), (1, .ref p_1), (2, .int 1), (3, .int v_3), (4, .int v_4)]) [1, 2, 0, 3, 4] dL_agrees_180 rfl (by decide) rfl ?_
      refine x_iinc (L' := [(0, .ref p_0), (1, .ref p_1), (2, .int 1), (3, .int v_3), (4, .int (v_4 + 1))]) 4 [1, 2, 3, 4, 0] dL_agrees_181 rfl rfl (by decide) rfl ?_
      refine x_goto (tgt := 148) dL_agrees_184 (by decide) ?_
      exact ih Y q p_0 p_1 v_3 (v_4 + 1) (k + 1) (n + 6) N11 h
set_option maxHeartbeats 4000000 in
set_option maxRecDepth 100000 in
theorem T_L_agrees_132 {G : XG} {tb : List ExceptionTableEntry} {rz : Int32} {Yz : XY} {qz : Nat} {Nz : XN} : ∀ (D9 : Nat) (Y : XY) (q : Nat) (p_0 : Nat) (p_1 : Nat) (v_3 : Int32) (k : Nat) (n : Nat) (N : XN), f_L_agrees_132 D9 Y q p_0 p_1 v_3 k n N = some (rz, Yz, qz, Nz) → ExZ G yL_agrees cL_agrees 5 (some .boolean) tb (xR 9 560 3360) (xZn G (xR 9 560 3360) (some (.int rz)) Yz Nz) k n 132 [(0, .ref p_0), (1, .ref p_1), (2, .int 1), (3, .int v_3)] [] Y N := by
  intro D9
  induction D9 with
  | zero => intro Y q p_0 p_1 v_3 k n N h; exact nomatch (show none = some _ from h)
  | succ D9 ih =>
    intro Y q p_0 p_1 v_3 k n N h
    rw [f_L_agrees_132] at h
    refine x_iload_n 3 dL_agrees_132 rfl rfl ?_
    refine x_aload_n 1 dL_agrees_133 rfl rfl ?_
    obtain ⟨c1, h⟩ := x_ckk h
    obtain ⟨c3, h⟩ := x_ckk h
    obtain ⟨p2, lp2, h⟩ := x_lt h
    have ep2 : gr Y p_1 4 = some p2 := by rw [lp2]; exact c3
    refine x_getr dL_agrees_134 vc_X8 xin8 fb_X8_4 fl_L_138 xr_X8_4 c1 ep2 ?_
    obtain ⟨c4, h⟩ := x_ckk h
    refine x_rlen (j := 4) dL_agrees_137 (by decide) c4 rfl ?_
    rcases x_if h with ⟨c5, h⟩ | ⟨c5, h⟩
    · refine x_icmp_ge_t (tgt := 270) dL_agrees_138 (by decide) c5 ?_
      refine x_iconst (v := 0) dL_agrees_270 rfl ?_
      refine x_istore_n (L' := [(0, .ref p_0), (1, .ref p_1), (2, .int 1), (3, .int 0)]) [1, 2, 3, 0] dL_agrees_271 rfl (by decide) rfl ?_
      exact T_L_agrees_272 (G := G) FU Y q p_0 p_1 0 k n N h
    · refine x_icmp_ge_f (tgt := 270) dL_agrees_138 (by decide) c5 ?_
      refine x_iload_n 2 dL_agrees_141 rfl rfl ?_
      refine x_if_eq_f (tgt := 270) dL_agrees_142 (by decide) (by decide) ?_
      refine x_iconst (v := 0) dL_agrees_145 rfl ?_
      refine x_istore (L' := [(0, .ref p_0), (1, .ref p_1), (2, .int 1), (3, .int v_3), (4, .int 0)]) [1, 2, 3, 4, 0] dL_agrees_146 (by decide) rfl ?_
      exact T_L_agrees_148 (G := G) ih FU Y q p_0 p_1 v_3 0 k n N h
set_option maxHeartbeats 4000000 in
set_option maxRecDepth 100000 in
theorem T_L_agrees_84 {G : XG} {tb : List ExceptionTableEntry} {rz : Int32} {Yz : XY} {qz : Nat} {Nz : XN} {K68 : XY → Nat → Nat → Nat → Int32 → Nat → Nat → XN → Option (Int32 × XY × Nat × XN)} (hK68 : ∀ (Y : XY) (q : Nat) (p_0 : Nat) (p_1 : Nat) (v_3 : Int32) (k : Nat) (n : Nat) (N : XN), K68 Y q p_0 p_1 v_3 k n N = some (rz, Yz, qz, Nz) → ExZ G yL_agrees cL_agrees 5 (some .boolean) tb (xR 9 560 3360) (xZn G (xR 9 560 3360) (some (.int rz)) Yz Nz) k n 68 [(0, .ref p_0), (1, .ref p_1), (2, .int 1), (3, .int v_3)] [] Y N) : ∀ (D9 : Nat) (Y : XY) (q : Nat) (p_0 : Nat) (p_1 : Nat) (v_3 : Int32) (v_4 : Int32) (k : Nat) (n : Nat) (N : XN), f_L_agrees_84 K68 D9 Y q p_0 p_1 v_3 v_4 k n N = some (rz, Yz, qz, Nz) → ExZ G yL_agrees cL_agrees 5 (some .boolean) tb (xR 9 560 3360) (xZn G (xR 9 560 3360) (some (.int rz)) Yz Nz) k n 84 [(0, .ref p_0), (1, .ref p_1), (2, .int 1), (3, .int v_3), (4, .int v_4)] [] Y N := by
  intro D9
  induction D9 with
  | zero => intro Y q p_0 p_1 v_3 v_4 k n N h; exact nomatch (show none = some _ from h)
  | succ D9 ih =>
    intro Y q p_0 p_1 v_3 v_4 k n N h
    rw [f_L_agrees_84] at h
    refine x_iload 4 dL_agrees_84 rfl ?_
    refine x_bipush (v := 8) dL_agrees_86 rfl ?_
    rcases x_if h with ⟨c1, h⟩ | ⟨c1, h⟩
    · refine x_icmp_ge_t (tgt := 124) dL_agrees_88 (by decide) c1 ?_
      refine x_iinc (L' := [(0, .ref p_0), (1, .ref p_1), (2, .int 1), (3, .int (v_3 + 1))]) 3 [1, 2, 3, 0] dL_agrees_124 rfl rfl (by decide) rfl ?_
      refine x_goto (tgt := 68) dL_agrees_127 (by decide) ?_
      exact hK68 Y q p_0 p_1 (v_3 + 1) k n N h
    · refine x_icmp_ge_f (tgt := 124) dL_agrees_88 (by decide) c1 ?_
      refine x_iload_n 2 dL_agrees_91 rfl rfl ?_
      refine x_if_eq_f (tgt := 124) dL_agrees_92 (by decide) (by decide) ?_
      refine x_aload_n 0 dL_agrees_95 rfl rfl ?_
      refine x_iload_n 3 dL_agrees_96 rfl rfl ?_
      refine x_iload 4 dL_agrees_97 rfl ?_
      obtain ⟨c2, h⟩ := x_ckk h
      obtain ⟨w6, h⟩ := x_ck9 h
      obtain ⟨c7, h⟩ := x_ckk h
      obtain ⟨r3, N4, q5, h⟩ := x_bd2 h
      refine x_csW (As := [.ref p_0, .int v_3, .int v_4]) (R' := xR 8 1 6) (zz := yL_handler) dL_agrees_99 ml_L_195 wt_L_handler wn_L wc_L_handler hp_L_handler ⟨Nat.le_of_ble_eq_true rfl, Nat.le_of_ble_eq_true rfl⟩ rfl (Nat.le_of_ble_eq_true rfl) c7 (T_L_handler (G := G) w6.1 w6.2 c2 q5) ?_
      refine x_aload_n 1 dL_agrees_102 rfl rfl ?_
      refine x_iload_n 3 dL_agrees_103 rfl rfl ?_
      refine x_iload 4 dL_agrees_104 rfl ?_
      obtain ⟨c8, h⟩ := x_ckk h
      obtain ⟨r9, N11, e10, h⟩ := x_bd2 h
      refine x_nV (b := p_1) (As := [.int v_3, .int v_4]) (ci := 8) (R' := xR 2 0 0) (zz := yX8_ofHandler) dL_agrees_106 ml_L_198 wi_X8_ofHandler wv_X8_ofHandler wn_X8 wc_X8_ofHandler hp_X8_ofHandler ⟨Nat.le_of_ble_eq_true rfl, Nat.le_of_ble_eq_true rfl⟩ rfl (Nat.le_of_ble_eq_true rfl) c7 vc_X8 c8 (T_X8_ofHandler (G := G) e10) ?_
      obtain ⟨c12, h⟩ := x_ckk h
      refine x_icmp_ne_f (tgt := 116) dL_agrees_109 (by decide) c12 ?_
      refine x_iconst (v := 1) dL_agrees_112 rfl ?_
      refine x_goto (tgt := 117) dL_agrees_113 (by decide) ?_
      refine x_istore_n (L' := [(0, .ref p_0), (1, .ref p_1), (2, .int 1), (3, .int v_3), (4, .int v_4)]) [1, 2, 0, 3, 4] dL_agrees_117 rfl (by decide) rfl ?_
      refine x_iinc (L' := [(0, .ref p_0), (1, .ref p_1), (2, .int 1), (3, .int v_3), (4, .int (v_4 + 1))]) 4 [1, 2, 3, 4, 0] dL_agrees_118 rfl rfl (by decide) rfl ?_
      refine x_goto (tgt := 84) dL_agrees_121 (by decide) ?_
      exact ih Y q p_0 p_1 v_3 (v_4 + 1) (k + 1) (n + 6) N11 h
set_option maxHeartbeats 4000000 in
set_option maxRecDepth 100000 in
theorem T_L_agrees_68 {G : XG} {tb : List ExceptionTableEntry} {rz : Int32} {Yz : XY} {qz : Nat} {Nz : XN} : ∀ (D9 : Nat) (Y : XY) (q : Nat) (p_0 : Nat) (p_1 : Nat) (v_3 : Int32) (k : Nat) (n : Nat) (N : XN), f_L_agrees_68 D9 Y q p_0 p_1 v_3 k n N = some (rz, Yz, qz, Nz) → ExZ G yL_agrees cL_agrees 5 (some .boolean) tb (xR 9 560 3360) (xZn G (xR 9 560 3360) (some (.int rz)) Yz Nz) k n 68 [(0, .ref p_0), (1, .ref p_1), (2, .int 1), (3, .int v_3)] [] Y N := by
  intro D9
  induction D9 with
  | zero => intro Y q p_0 p_1 v_3 k n N h; exact nomatch (show none = some _ from h)
  | succ D9 ih =>
    intro Y q p_0 p_1 v_3 k n N h
    rw [f_L_agrees_68] at h
    refine x_iload_n 3 dL_agrees_68 rfl rfl ?_
    refine x_aload_n 1 dL_agrees_69 rfl rfl ?_
    obtain ⟨c1, h⟩ := x_ckk h
    obtain ⟨c3, h⟩ := x_ckk h
    obtain ⟨p2, lp2, h⟩ := x_lt h
    have ep2 : gr Y p_1 3 = some p2 := by rw [lp2]; exact c3
    refine x_getr dL_agrees_70 vc_X8 xin8 fb_X8_3 fl_L_123 xr_X8_3 c1 ep2 ?_
    obtain ⟨c4, h⟩ := x_ckk h
    refine x_rlen (j := 4) dL_agrees_73 (by decide) c4 rfl ?_
    rcases x_if h with ⟨c5, h⟩ | ⟨c5, h⟩
    · refine x_icmp_ge_t (tgt := 130) dL_agrees_74 (by decide) c5 ?_
      refine x_iconst (v := 0) dL_agrees_130 rfl ?_
      refine x_istore_n (L' := [(0, .ref p_0), (1, .ref p_1), (2, .int 1), (3, .int 0)]) [1, 2, 3, 0] dL_agrees_131 rfl (by decide) rfl ?_
      exact T_L_agrees_132 (G := G) FU Y q p_0 p_1 0 k n N h
    · refine x_icmp_ge_f (tgt := 130) dL_agrees_74 (by decide) c5 ?_
      refine x_iload_n 2 dL_agrees_77 rfl rfl ?_
      refine x_if_eq_f (tgt := 130) dL_agrees_78 (by decide) (by decide) ?_
      refine x_iconst (v := 0) dL_agrees_81 rfl ?_
      refine x_istore (L' := [(0, .ref p_0), (1, .ref p_1), (2, .int 1), (3, .int v_3), (4, .int 0)]) [1, 2, 3, 4, 0] dL_agrees_82 (by decide) rfl ?_
      exact T_L_agrees_84 (G := G) ih FU Y q p_0 p_1 v_3 0 k n N h
set_option maxHeartbeats 4000000 in
set_option maxRecDepth 100000 in
theorem T_L_agrees_31 {G : XG} {tb : List ExceptionTableEntry} {rz : Int32} {Yz : XY} {qz : Nat} {Nz : XN} : ∀ (D9 : Nat) (Y : XY) (q : Nat) (p_0 : Nat) (p_1 : Nat) (v_3 : Int32) (k : Nat) (n : Nat) (N : XN), f_L_agrees_31 D9 Y q p_0 p_1 v_3 k n N = some (rz, Yz, qz, Nz) → ExZ G yL_agrees cL_agrees 5 (some .boolean) tb (xR 9 560 3360) (xZn G (xR 9 560 3360) (some (.int rz)) Yz Nz) k n 31 [(0, .ref p_0), (1, .ref p_1), (2, .int 1), (3, .int v_3)] [] Y N := by
  intro D9
  induction D9 with
  | zero => intro Y q p_0 p_1 v_3 k n N h; exact nomatch (show none = some _ from h)
  | succ D9 ih =>
    intro Y q p_0 p_1 v_3 k n N h
    rw [f_L_agrees_31] at h
    refine x_iload_n 3 dL_agrees_31 rfl rfl ?_
    refine x_bipush (v := 10) dL_agrees_32 rfl ?_
    rcases x_if h with ⟨c1, h⟩ | ⟨c1, h⟩
    · refine x_icmp_ge_t (tgt := 66) dL_agrees_34 (by decide) c1 ?_
      refine x_iconst (v := 0) dL_agrees_66 rfl ?_
      refine x_istore_n (L' := [(0, .ref p_0), (1, .ref p_1), (2, .int 1), (3, .int 0)]) [1, 2, 3, 0] dL_agrees_67 rfl (by decide) rfl ?_
      exact T_L_agrees_68 (G := G) FU Y q p_0 p_1 0 k n N h
    · refine x_icmp_ge_f (tgt := 66) dL_agrees_34 (by decide) c1 ?_
      refine x_iload_n 2 dL_agrees_37 rfl rfl ?_
      refine x_if_eq_f (tgt := 66) dL_agrees_38 (by decide) (by decide) ?_
      refine x_aload_n 0 dL_agrees_41 rfl rfl ?_
      refine x_iload_n 3 dL_agrees_42 rfl rfl ?_
      obtain ⟨c2, h⟩ := x_ckk h
      obtain ⟨w6, h⟩ := x_ck9 h
      obtain ⟨c7, h⟩ := x_ckk h
      obtain ⟨r3, N4, q5, h⟩ := x_bd2 h
      refine x_csW (As := [.ref p_0, .int v_3]) (R' := xR 8 1 6) (zz := yL_state) dL_agrees_43 ml_L_190 wt_L_state wn_L wc_L_state hp_L_state ⟨Nat.le_of_ble_eq_true rfl, Nat.le_of_ble_eq_true rfl⟩ rfl (Nat.le_of_ble_eq_true rfl) c7 (T_L_state (G := G) w6.1 w6.2 c2 q5) ?_
      refine x_aload_n 1 dL_agrees_46 rfl rfl ?_
      refine x_iload_n 3 dL_agrees_47 rfl rfl ?_
      obtain ⟨c8, h⟩ := x_ckk h
      obtain ⟨r9, N11, e10, h⟩ := x_bd2 h
      refine x_nV (b := p_1) (As := [.int v_3]) (ci := 8) (R' := xR 2 0 0) (zz := yX8_told) dL_agrees_48 ml_L_192 wi_X8_told wv_X8_told wn_X8 wc_X8_told hp_X8_told ⟨Nat.le_of_ble_eq_true rfl, Nat.le_of_ble_eq_true rfl⟩ rfl (Nat.le_of_ble_eq_true rfl) c7 vc_X8 c8 (T_X8_told (G := G) e10) ?_
      obtain ⟨c12, h⟩ := x_ckk h
      refine x_icmp_ne_f (tgt := 58) dL_agrees_51 (by decide) c12 ?_
      refine x_iconst (v := 1) dL_agrees_54 rfl ?_
      refine x_goto (tgt := 59) dL_agrees_55 (by decide) ?_
      refine x_istore_n (L' := [(0, .ref p_0), (1, .ref p_1), (2, .int 1), (3, .int v_3)]) [1, 2, 0, 3] dL_agrees_59 rfl (by decide) rfl ?_
      refine x_iinc (L' := [(0, .ref p_0), (1, .ref p_1), (2, .int 1), (3, .int (v_3 + 1))]) 3 [1, 2, 3, 0] dL_agrees_60 rfl rfl (by decide) rfl ?_
      refine x_goto (tgt := 31) dL_agrees_63 (by decide) ?_
      exact ih Y q p_0 p_1 (v_3 + 1) (k + 1) (n + 6) N11 h
set_option maxHeartbeats 4000000 in
set_option maxRecDepth 100000 in
theorem T_L_agrees {G : XG} {Y : XY} {q : Nat} {a0 : Nat} {a1 : Nat} {N : XN} {rz : Int32} {Yz : XY} {qz : Nat} {Nz : XN} (h : f_L_agrees Y q a0 a1 N = some (rz, Yz, qz, Nz)) : Cn G yL_agrees cL_agrees 5 (some .boolean) (xR 9 560 3360) [.ref a0, .ref a1] (some (.int rz)) Y N Yz Nz := by
  refine x_entryN (by decide) (Nat.le_of_ble_eq_true rfl) rfl fun tb => ?_
  rw [f_L_agrees] at h
  refine x_aload_n 0 dL_agrees_0 rfl rfl ?_
  obtain ⟨c1, h⟩ := x_ckk h
  obtain ⟨w5, h⟩ := x_ckW h
  obtain ⟨r2, N3, q4, h⟩ := x_bd2 h
  refine x_cv (b := a0) (As := []) (ci := 7) (d' := 8) (zz := yX7_checksum) dL_agrees_1 ml_L_185 wi_X7_checksum wv_X7_checksum wn_X7 wc_X7_checksum hp_X7_checksum (by decide) (by decide) rfl (Nat.le_of_ble_eq_true rfl) ⟨Nat.le_of_ble_eq_true rfl, Nat.le_of_ble_eq_true rfl⟩ vc_X7 c1 (T_X7_checksum (G := G) w5 c1 q4) ?_
  refine x_aload_n 1 dL_agrees_4 rfl rfl ?_
  obtain ⟨c6, h⟩ := x_ckk h
  obtain ⟨r7, N9, e8, h⟩ := x_bd2 h
  refine x_nV (b := a1) (As := []) (ci := 8) (R' := xR 3 0 0) (zz := yX8_checksum) dL_agrees_5 ml_L_189 wi_X8_checksum wv_X8_checksum wn_X8 wc_X8_checksum hp_X8_checksum ⟨Nat.le_of_ble_eq_true rfl, Nat.le_of_ble_eq_true rfl⟩ rfl (Nat.le_of_ble_eq_true rfl) ⟨Nat.le_of_ble_eq_true rfl, Nat.le_of_ble_eq_true rfl⟩ vc_X8 c6 (T_X8_checksum (G := G) e8) ?_
  refine x_lcmp dL_agrees_8 ?_
  obtain ⟨c10, h⟩ := x_ckk h
  refine x_if_ne_f (tgt := 27) dL_agrees_9 (by decide) c10 ?_
  refine x_aload_n 0 dL_agrees_12 rfl rfl ?_
  refine x_bipush (v := 10) dL_agrees_13 rfl ?_
  obtain ⟨w14, h⟩ := x_ck9 h
  obtain ⟨r11, N12, q13, h⟩ := x_bd2 h
  refine x_csW (As := [.ref a0, .int 10]) (R' := xR 8 1 6) (zz := yL_state) dL_agrees_15 ml_L_190 wt_L_state wn_L wc_L_state hp_L_state ⟨Nat.le_of_ble_eq_true rfl, Nat.le_of_ble_eq_true rfl⟩ rfl (Nat.le_of_ble_eq_true rfl) ⟨Nat.le_of_ble_eq_true rfl, Nat.le_of_ble_eq_true rfl⟩ (T_L_state (G := G) w14.1 w14.2 c1 q13) ?_
  refine x_ldc (v := (-2000000098)) dL_agrees_18 kc_L_42 ?_
  obtain ⟨c15, h⟩ := x_ckk h
  refine x_icmp_ne_f (tgt := 27) dL_agrees_20 (by decide) c15 ?_
  refine x_iconst (v := 1) dL_agrees_23 rfl ?_
  refine x_goto (tgt := 28) dL_agrees_24 (by decide) ?_
  refine x_istore_n (L' := [(0, .ref a0), (1, .ref a1), (2, .int 1)]) [1, 2, 0] dL_agrees_28 rfl (by decide) rfl ?_
  refine x_iconst (v := 0) dL_agrees_29 rfl ?_
  refine x_istore_n (L' := [(0, .ref a0), (1, .ref a1), (2, .int 1), (3, .int 0)]) [1, 2, 3, 0] dL_agrees_30 rfl (by decide) rfl ?_
  exact T_L_agrees_31 (G := G) FU Y q a0 a1 0 1 6 N12 h
set_option maxHeartbeats 4000000 in
set_option maxRecDepth 100000 in
theorem T_L_loadText {G : XG} {Y : XY} {q : Nat} {a0 : Nat} {a1 : Nat} {N : XN} {rz : Int32} {Yz : XY} {qz : Nat} {Nz : XN} (h : f_L_loadText Y q a0 a1 N = some (rz, Yz, qz, Nz)) : Cn G yL_loadText cL_loadText 3 (some .int) (xR 32 0 0) [.ref a0, .ref a1] (some (.int rz)) Y N Yz Nz := by
  refine x_entryN (by decide) (Nat.le_of_ble_eq_true rfl) rfl fun tb => ?_
  rw [f_L_loadText] at h
  refine x_aload_n 1 dL_loadText_0 rfl rfl ?_
  refine x_iconst (v := 0) dL_loadText_1 rfl ?_
  obtain ⟨c1, h⟩ := x_ckk h
  obtain ⟨c2, h⟩ := x_ckk h
  refine x_iald dL_loadText_2 c1 (xb_in c2) xj_0 ?_
  refine x_istore_n (L' := [(0, .ref a0), (1, .ref a1), (2, .int (gi N a1 0))]) [1, 2, 0] dL_loadText_3 rfl (by decide) rfl ?_
  refine x_iload_n 2 dL_loadText_4 rfl rfl ?_
  refine x_bipush (v := 20) dL_loadText_5 rfl ?_
  refine x_irem dL_loadText_7 (by decide) ?_
  rcases x_if h with ⟨c3, h⟩ | ⟨c3, h⟩
  · refine x_if_le_t (tgt := 16) dL_loadText_8 (by decide) c3 ?_
    refine x_aload_n 1 dL_loadText_16 rfl rfl ?_
    refine x_iconst (v := 0) dL_loadText_17 rfl ?_
    refine x_iconst (v := 0) dL_loadText_18 rfl ?_
    obtain ⟨c4, h⟩ := x_ckk h
    refine x_iast dL_loadText_19 c1 (xb_in c4) xj_0 ?_
    obtain ⟨N5, eN5, h⟩ := x_lt h
    refine x_nmM eN5 ?_
    refine x_aload_n 0 dL_loadText_20 rfl rfl ?_
    refine x_iload_n 2 dL_loadText_21 rfl rfl ?_
    obtain ⟨c6, h⟩ := x_ckk h
    obtain ⟨w10, h⟩ := x_ckW h
    obtain ⟨r7, N8, q9, h⟩ := x_bd2 h
    refine x_csW (As := [.ref a0, .int (gi N a1 0)]) (R' := xR 31 0 0) (zz := yL_load) dL_loadText_22 ml_L_19 wt_L_load wn_L wc_L_load hp_L_load ⟨Nat.le_of_ble_eq_true rfl, Nat.le_of_ble_eq_true rfl⟩ rfl (Nat.le_of_ble_eq_true rfl) ⟨Nat.le_of_ble_eq_true rfl, Nat.le_of_ble_eq_true rfl⟩ (T_L_load (G := G) w10 c6 q9) ?_
    obtain ⟨Y11, eY11, h⟩ := x_lt h
    refine x_nmY eY11 ?_
    refine x_wide (k' := 0) (n' := 0) ⟨Nat.le_of_ble_eq_true rfl, Nat.le_of_ble_eq_true rfl⟩ ?_
    obtain ⟨rfl, h8⟩ := Prod.mk.inj (x_so h)
    obtain ⟨rfl, h7⟩ := Prod.mk.inj h8
    obtain ⟨rfl, rfl⟩ := Prod.mk.inj h7
    exact x_niret dL_loadText_25 rfl rfl rfl
  · refine x_if_le_f (tgt := 16) dL_loadText_8 (by decide) c3 ?_
    refine x_aload_n 0 dL_loadText_11 rfl rfl ?_
    refine x_aload_n 1 dL_loadText_12 rfl rfl ?_
    obtain ⟨w12, h⟩ := x_ckW h
    obtain ⟨N14, e13, h⟩ := x_bd1 h
    refine x_nS (As := [.ref a0, .ref a1]) (R' := xR 3 0 0) (zz := yL_flush) dL_loadText_13 ml_L_7 wt_L_flush wn_L wc_L_flush hp_L_flush ⟨Nat.le_of_ble_eq_true rfl, Nat.le_of_ble_eq_true rfl⟩ rfl (Nat.le_of_ble_eq_true rfl) ⟨Nat.le_of_ble_eq_true rfl, Nat.le_of_ble_eq_true rfl⟩ (T_L_flush (G := G) w12 e13) ?_
    refine x_aload_n 1 dL_loadText_16 rfl rfl ?_
    refine x_iconst (v := 0) dL_loadText_17 rfl ?_
    refine x_iconst (v := 0) dL_loadText_18 rfl ?_
    obtain ⟨c15, h⟩ := x_ckk h
    refine x_iast dL_loadText_19 c1 (xb_in c15) xj_0 ?_
    obtain ⟨N16, eN16, h⟩ := x_lt h
    refine x_nmM eN16 ?_
    refine x_aload_n 0 dL_loadText_20 rfl rfl ?_
    refine x_iload_n 2 dL_loadText_21 rfl rfl ?_
    obtain ⟨c17, h⟩ := x_ckk h
    obtain ⟨w21, h⟩ := x_ckW h
    obtain ⟨r18, N19, q20, h⟩ := x_bd2 h
    refine x_csW (As := [.ref a0, .int (gi N a1 0)]) (R' := xR 31 0 0) (zz := yL_load) dL_loadText_22 ml_L_19 wt_L_load wn_L wc_L_load hp_L_load ⟨Nat.le_of_ble_eq_true rfl, Nat.le_of_ble_eq_true rfl⟩ rfl (Nat.le_of_ble_eq_true rfl) ⟨Nat.le_of_ble_eq_true rfl, Nat.le_of_ble_eq_true rfl⟩ (T_L_load (G := G) w21 c17 q20) ?_
    obtain ⟨Y22, eY22, h⟩ := x_lt h
    refine x_nmY eY22 ?_
    refine x_wide (k' := 0) (n' := 0) ⟨Nat.le_of_ble_eq_true rfl, Nat.le_of_ble_eq_true rfl⟩ ?_
    obtain ⟨rfl, h8⟩ := Prod.mk.inj (x_so h)
    obtain ⟨rfl, h7⟩ := Prod.mk.inj h8
    obtain ⟨rfl, rfl⟩ := Prod.mk.inj h7
    exact x_niret dL_loadText_25 rfl rfl rfl
