set_option maxHeartbeats 4000000 in
set_option maxRecDepth 100000 in
theorem T_X8_tick_528 {G : XG} {tb : List ExceptionTableEntry} {Yz : XY} {qz : Nat} {Nz : XN} {K453 : XY → Nat → Nat → Int32 → Nat → Nat → XN → Option (XY × Nat × XN)} (hK453 : ∀ (Y : XY) (q : Nat) (p_0 : Nat) (v_1 : Int32) (k : Nat) (n : Nat) (N : XN), K453 Y q p_0 v_1 k n N = some (Yz, qz, Nz) → ExZ G yX8_tick cX8_tick 9 none tb (xR 6 224 832) (xZn G (xR 6 224 832) none Yz Nz) k n 453 [(0, .ref p_0), (1, .int v_1)] [] Y N) {K487 : XY → Nat → Nat → Int32 → Nat → Int32 → Nat → Nat → XN → Option (XY × Nat × XN)} (hK487 : ∀ (Y : XY) (q : Nat) (p_0 : Nat) (v_1 : Int32) (p_2 : Nat) (v_3 : Int32) (k : Nat) (n : Nat) (N : XN), K487 Y q p_0 v_1 p_2 v_3 k n N = some (Yz, qz, Nz) → ExZ G yX8_tick cX8_tick 9 none tb (xR 6 224 832) (xZn G (xR 6 224 832) none Yz Nz) k n 487 [(0, .ref p_0), (1, .int v_1), (2, .ref p_2), (3, .int v_3)] [] Y N) (Y : XY) (q : Nat) (p_0 : Nat) (v_1 : Int32) (p_2 : Nat) (v_3 : Int32) (s0 : Int32) (s1 : Int32) (s2 : Int32) (o3 : Nat) (k : Nat) (n : Nat) (N : XN) (h : f_X8_tick_528 K453 K487 Y q p_0 v_1 p_2 v_3 s0 s1 s2 o3 k n N = some (Yz, qz, Nz)) : ExZ G yX8_tick cX8_tick 9 none tb (xR 6 224 832) (xZn G (xR 6 224 832) none Yz Nz) k n 528 [(0, .ref p_0), (1, .int v_1), (2, .ref p_2), (3, .int v_3)] [.int s0, .int s1, .int s2, .ref o3] Y N := by
  rw [f_X8_tick_528] at h
  refine x_iadd dX8_tick_528 ?_
  obtain ⟨c1, h⟩ := x_ckk h
  obtain ⟨c2, h⟩ := x_ckk h
  obtain ⟨r3, Y5, q6, N7, e4, h⟩ := x_bd4 h
  refine x_nV (b := o3) (As := [.int s2, .int (s1 + s0)]) (ci := 8) (R' := xR 3 3 12) (zz := yX8_pays) dX8_tick_529 ml_X8_87 wi_X8_pays wv_X8_pays wn_X8 wc_X8_pays hp_X8_pays ⟨Nat.le_of_ble_eq_true rfl, Nat.le_of_ble_eq_true rfl⟩ rfl (Nat.le_of_ble_eq_true rfl) c2 vc_X8 c1 (T_X8_pays (G := G) e4) ?_
  refine x_istore (L' := [(0, .ref p_0), (1, .int v_1), (2, .ref p_2), (3, .int v_3), (4, .int r3)]) [1, 2, 3, 4, 0] dX8_tick_532 (by decide) rfl ?_
  refine x_aload_n 0 dX8_tick_534 rfl rfl ?_
  obtain ⟨c8, h⟩ := x_ckk h
  obtain ⟨c10, h⟩ := x_ckk h
  obtain ⟨p9, lp9, h⟩ := x_lt h
  have ep9 : gr Y5 p_0 3 = some p9 := by rw [lp9]; exact c10
  refine x_getr dX8_tick_535 vc_X8 xin8 fb_X8_3 fl_X8_14 xr_X8_3 c8 ep9 ?_
  refine x_aload_n 2 dX8_tick_538 rfl rfl ?_
  refine x_iload_n 3 dX8_tick_539 rfl rfl ?_
  obtain ⟨c11, h⟩ := x_ckk h
  obtain ⟨c12, h⟩ := x_ckk h
  refine x_iald dX8_tick_540 c11 (xb_in c12) rfl ?_
  obtain ⟨c13, h⟩ := x_ckk h
  obtain ⟨c14, h⟩ := x_ckk h
  obtain ⟨c16, h⟩ := x_ckk h
  obtain ⟨p15, lp15, h⟩ := x_lt h
  have ep15 : gr Y5 p9 (gi N7 p_2 v_3.toNatClampNeg).toNatClampNeg = some p15 := by rw [lp15]; exact c16
  refine x_aald (j := 4) dX8_tick_541 (by decide) c13 (xb_in c14) ep15 ?_
  refine x_iconst (v := 4) dX8_tick_542 rfl ?_
  refine x_dup2 dX8_tick_543 rfl rfl ?_
  obtain ⟨c17, h⟩ := x_ckk h
  obtain ⟨c18, h⟩ := x_ckk h
  refine x_iald dX8_tick_544 c17 (xb_in c18) xj_4 ?_
  refine x_iload 4 dX8_tick_545 rfl ?_
  refine x_iadd dX8_tick_547 ?_
  obtain ⟨c19, h⟩ := x_ckk h
  refine x_iast dX8_tick_548 c17 (xb_in c19) xj_4 ?_
  obtain ⟨N20, eN20, h⟩ := x_lt h
  refine x_nmM eN20 ?_
  refine x_aload_n 0 dX8_tick_549 rfl rfl ?_
  refine x_dup dX8_tick_550 rfl ?_
  refine x_geti dX8_tick_551 vc_X8 xin8 fb_X8_1 fl_X8_32 xr_X8_1 c8 ?_
  refine x_iload 4 dX8_tick_554 rfl ?_
  refine x_iadd dX8_tick_556 ?_
  refine x_puti dX8_tick_557 vc_X8 xin8 tyX8_ok nmX8 fb_X8_1 fl_X8_32 ff_X8_1 xr_X8_1 (nf_X8_1 _) (ft_X8_1 _) c8 ?_
  obtain ⟨N21, eN21, h⟩ := x_lt h
  refine x_nmM eN21 ?_
  refine x_iinc (L' := [(0, .ref p_0), (1, .int v_1), (2, .ref p_2), (3, .int (v_3 + 1))]) 3 [1, 2, 3, 0] dX8_tick_560 rfl rfl (by decide) rfl ?_
  refine x_goto (tgt := 487) dX8_tick_563 (by decide) ?_
  exact hK487 Y5 q6 p_0 v_1 p_2 (v_3 + 1) (k + 3) (n + 12) N21 h
set_option maxHeartbeats 4000000 in
set_option maxRecDepth 100000 in
theorem T_X8_tick_487 {G : XG} {tb : List ExceptionTableEntry} {Yz : XY} {qz : Nat} {Nz : XN} {K453 : XY → Nat → Nat → Int32 → Nat → Nat → XN → Option (XY × Nat × XN)} (hK453 : ∀ (Y : XY) (q : Nat) (p_0 : Nat) (v_1 : Int32) (k : Nat) (n : Nat) (N : XN), K453 Y q p_0 v_1 k n N = some (Yz, qz, Nz) → ExZ G yX8_tick cX8_tick 9 none tb (xR 6 224 832) (xZn G (xR 6 224 832) none Yz Nz) k n 453 [(0, .ref p_0), (1, .int v_1)] [] Y N) : ∀ (D9 : Nat) (Y : XY) (q : Nat) (p_0 : Nat) (v_1 : Int32) (p_2 : Nat) (v_3 : Int32) (k : Nat) (n : Nat) (N : XN), f_X8_tick_487 K453 D9 Y q p_0 v_1 p_2 v_3 k n N = some (Yz, qz, Nz) → ExZ G yX8_tick cX8_tick 9 none tb (xR 6 224 832) (xZn G (xR 6 224 832) none Yz Nz) k n 487 [(0, .ref p_0), (1, .int v_1), (2, .ref p_2), (3, .int v_3)] [] Y N := by
  intro D9
  induction D9 with
  | zero => intro Y q p_0 v_1 p_2 v_3 k n N h; exact nomatch (show none = some _ from h)
  | succ D9 ih =>
    intro Y q p_0 v_1 p_2 v_3 k n N h
    rw [f_X8_tick_487] at h
    refine x_iload_n 3 dX8_tick_487 rfl rfl ?_
    refine x_aload_n 2 dX8_tick_488 rfl rfl ?_
    obtain ⟨c1, h⟩ := x_ckk h
    refine x_ilen dX8_tick_489 c1 rfl ?_
    rcases x_if h with ⟨c2, h⟩ | ⟨c2, h⟩
    · refine x_icmp_ge_t (tgt := 566) dX8_tick_490 (by decide) c2 ?_
      refine x_iinc (L' := [(0, .ref p_0), (1, .int (v_1 + 1))]) 1 [1, 0] dX8_tick_566 rfl rfl (by decide) rfl ?_
      refine x_goto (tgt := 453) dX8_tick_569 (by decide) ?_
      exact hK453 Y q p_0 (v_1 + 1) k n N h
    · refine x_icmp_ge_f (tgt := 566) dX8_tick_490 (by decide) c2 ?_
      refine x_aload_n 0 dX8_tick_493 rfl rfl ?_
      refine x_aload_n 2 dX8_tick_494 rfl rfl ?_
      refine x_iload_n 3 dX8_tick_495 rfl rfl ?_
      obtain ⟨c3, h⟩ := x_ckk h
      refine x_iald dX8_tick_496 c1 (xb_in c3) rfl ?_
      refine x_aload_n 0 dX8_tick_497 rfl rfl ?_
      obtain ⟨c4, h⟩ := x_ckk h
      obtain ⟨c6, h⟩ := x_ckk h
      obtain ⟨p5, lp5, h⟩ := x_lt h
      have ep5 : gr Y p_0 4 = some p5 := by rw [lp5]; exact c6
      refine x_getr dX8_tick_498 vc_X8 xin8 fb_X8_4 fl_X8_18 xr_X8_4 c4 ep5 ?_
      refine x_iload_n 1 dX8_tick_501 rfl rfl ?_
      obtain ⟨c7, h⟩ := x_ckk h
      obtain ⟨c8, h⟩ := x_ckk h
      obtain ⟨c10, h⟩ := x_ckk h
      obtain ⟨p9, lp9, h⟩ := x_lt h
      have ep9 : gr Y p5 v_1.toNatClampNeg = some p9 := by rw [lp9]; exact c10
      refine x_aald (j := 4) dX8_tick_502 (by decide) c7 (xb_in c8) ep9 ?_
      refine x_iconst (v := 0) dX8_tick_503 rfl ?_
      obtain ⟨c11, h⟩ := x_ckk h
      obtain ⟨c12, h⟩ := x_ckk h
      refine x_iald dX8_tick_504 c11 (xb_in c12) xj_0 ?_
      refine x_aload_n 2 dX8_tick_505 rfl rfl ?_
      refine x_ilen dX8_tick_506 c1 rfl ?_
      obtain ⟨c13, h⟩ := x_ckk h
      refine x_idiv dX8_tick_507 c13 ?_
      refine x_iload_n 3 dX8_tick_508 rfl rfl ?_
      refine x_aload_n 0 dX8_tick_509 rfl rfl ?_
      refine x_getr dX8_tick_510 vc_X8 xin8 fb_X8_4 fl_X8_18 xr_X8_4 c4 ep5 ?_
      refine x_iload_n 1 dX8_tick_513 rfl rfl ?_
      obtain ⟨c14, h⟩ := x_ckk h
      refine x_aald (j := 4) dX8_tick_514 (by decide) c7 (xb_in c14) ep9 ?_
      refine x_iconst (v := 0) dX8_tick_515 rfl ?_
      obtain ⟨c15, h⟩ := x_ckk h
      refine x_iald dX8_tick_516 c11 (xb_in c15) xj_0 ?_
      refine x_aload_n 2 dX8_tick_517 rfl rfl ?_
      refine x_ilen dX8_tick_518 c1 rfl ?_
      obtain ⟨c16, h⟩ := x_ckk h
      refine x_irem dX8_tick_519 c16 ?_
      rcases x_if h with ⟨c17, h⟩ | ⟨c17, h⟩
      · refine x_icmp_ge_t (tgt := 527) dX8_tick_520 (by decide) c17 ?_
        refine x_iconst (v := 0) dX8_tick_527 rfl ?_
        exact T_X8_tick_528 (G := G) hK453 ih Y q p_0 v_1 p_2 v_3 0 ((gi N p9 0) / (Int32.ofNat (kn Y p_2))) (gi N p_2 v_3.toNatClampNeg) p_0 k n N h
      · refine x_icmp_ge_f (tgt := 527) dX8_tick_520 (by decide) c17 ?_
        refine x_iconst (v := 1) dX8_tick_523 rfl ?_
        refine x_goto (tgt := 528) dX8_tick_524 (by decide) ?_
        exact T_X8_tick_528 (G := G) hK453 ih Y q p_0 v_1 p_2 v_3 1 ((gi N p9 0) / (Int32.ofNat (kn Y p_2))) (gi N p_2 v_3.toNatClampNeg) p_0 k n N h
set_option maxHeartbeats 4000000 in
set_option maxRecDepth 100000 in
theorem T_X8_tick_453 {G : XG} {tb : List ExceptionTableEntry} {Yz : XY} {qz : Nat} {Nz : XN} : ∀ (D9 : Nat) (Y : XY) (q : Nat) (p_0 : Nat) (v_1 : Int32) (k : Nat) (n : Nat) (N : XN), f_X8_tick_453 D9 Y q p_0 v_1 k n N = some (Yz, qz, Nz) → ExZ G yX8_tick cX8_tick 9 none tb (xR 6 224 832) (xZn G (xR 6 224 832) none Yz Nz) k n 453 [(0, .ref p_0), (1, .int v_1)] [] Y N := by
  intro D9
  induction D9 with
  | zero => intro Y q p_0 v_1 k n N h; exact nomatch (show none = some _ from h)
  | succ D9 ih =>
    intro Y q p_0 v_1 k n N h
    rw [f_X8_tick_453] at h
    refine x_iload_n 1 dX8_tick_453 rfl rfl ?_
    refine x_aload_n 0 dX8_tick_454 rfl rfl ?_
    obtain ⟨c1, h⟩ := x_ckk h
    obtain ⟨c3, h⟩ := x_ckk h
    obtain ⟨p2, lp2, h⟩ := x_lt h
    have ep2 : gr Y p_0 4 = some p2 := by rw [lp2]; exact c3
    refine x_getr dX8_tick_455 vc_X8 xin8 fb_X8_4 fl_X8_18 xr_X8_4 c1 ep2 ?_
    obtain ⟨c4, h⟩ := x_ckk h
    refine x_rlen (j := 4) dX8_tick_458 (by decide) c4 rfl ?_
    rcases x_if h with ⟨c5, h⟩ | ⟨c5, h⟩
    · refine x_icmp_ge_t (tgt := 572) dX8_tick_459 (by decide) c5 ?_
      refine x_aload_n 0 dX8_tick_572 rfl rfl ?_
      refine x_dup dX8_tick_573 rfl ?_
      refine x_geti dX8_tick_574 vc_X8 xin8 fb_X8_0 fl_X8_28 xr_X8_0 c1 ?_
      refine x_iconst (v := 1) dX8_tick_577 rfl ?_
      refine x_iadd dX8_tick_578 ?_
      refine x_puti dX8_tick_579 vc_X8 xin8 tyX8_ok nmX8 fb_X8_0 fl_X8_28 ff_X8_0 xr_X8_0 (nf_X8_0 _) (ft_X8_0 _) c1 ?_
      obtain ⟨N6, eN6, h⟩ := x_lt h
      refine x_nmM eN6 ?_
      obtain ⟨c7, h⟩ := x_ckk h
      refine x_wide (k' := 224) (n' := 832) c7 ?_
      obtain ⟨rfl, h8⟩ := Prod.mk.inj (x_so h)
      obtain ⟨rfl, rfl⟩ := Prod.mk.inj h8
      exact x_nvret dX8_tick_582 rfl rfl rfl
    · refine x_icmp_ge_f (tgt := 572) dX8_tick_459 (by decide) c5 ?_
      refine x_aload_n 0 dX8_tick_462 rfl rfl ?_
      refine x_geti dX8_tick_463 vc_X8 xin8 fb_X8_0 fl_X8_28 xr_X8_0 c1 ?_
      refine x_iconst (v := 1) dX8_tick_466 rfl ?_
      refine x_iadd dX8_tick_467 ?_
      refine x_aload_n 0 dX8_tick_468 rfl rfl ?_
      obtain ⟨c9, h⟩ := x_ckk h
      obtain ⟨p8, lp8, h⟩ := x_lt h
      have ep8 : gr Y p_0 2 = some p8 := by rw [lp8]; exact c9
      refine x_getr dX8_tick_469 vc_X8 xin8 fb_X8_2 fl_X8_7 xr_X8_2 c1 ep8 ?_
      refine x_iconst (v := 3) dX8_tick_472 rfl ?_
      obtain ⟨c10, h⟩ := x_ckk h
      obtain ⟨c11, h⟩ := x_ckk h
      refine x_iald dX8_tick_473 c10 (xb_in c11) xj_3 ?_
      obtain ⟨c12, h⟩ := x_ckk h
      refine x_irem dX8_tick_474 c12 ?_
      rcases x_if h with ⟨c13, h⟩ | ⟨c13, h⟩
      · refine x_if_ne_f (tgt := 572) dX8_tick_475 (by decide) c13 ?_
        refine x_aload_n 0 dX8_tick_478 rfl rfl ?_
        obtain ⟨c15, h⟩ := x_ckk h
        obtain ⟨p14, lp14, h⟩ := x_lt h
        have ep14 : gr Y p_0 5 = some p14 := by rw [lp14]; exact c15
        refine x_getr dX8_tick_479 vc_X8 xin8 fb_X8_5 fl_X8_21 xr_X8_5 c1 ep14 ?_
        refine x_iload_n 1 dX8_tick_482 rfl rfl ?_
        obtain ⟨c16, h⟩ := x_ckk h
        obtain ⟨c17, h⟩ := x_ckk h
        obtain ⟨c19, h⟩ := x_ckk h
        obtain ⟨p18, lp18, h⟩ := x_lt h
        have ep18 : gr Y p14 v_1.toNatClampNeg = some p18 := by rw [lp18]; exact c19
        refine x_aald (j := 4) dX8_tick_483 (by decide) c16 (xb_in c17) ep18 ?_
        refine x_astore_n (L' := [(0, .ref p_0), (1, .int v_1), (2, .ref p18)]) [1, 2, 0] dX8_tick_484 rfl (by decide) rfl ?_
        refine x_iconst (v := 0) dX8_tick_485 rfl ?_
        refine x_istore_n (L' := [(0, .ref p_0), (1, .int v_1), (2, .ref p18), (3, .int 0)]) [1, 2, 3, 0] dX8_tick_486 rfl (by decide) rfl ?_
        exact T_X8_tick_487 (G := G) ih FU Y q p_0 v_1 p18 0 k n N h
      · refine x_if_ne_t (tgt := 572) dX8_tick_475 (by decide) c13 ?_
        refine x_aload_n 0 dX8_tick_572 rfl rfl ?_
        refine x_dup dX8_tick_573 rfl ?_
        refine x_geti dX8_tick_574 vc_X8 xin8 fb_X8_0 fl_X8_28 xr_X8_0 c1 ?_
        refine x_iconst (v := 1) dX8_tick_577 rfl ?_
        refine x_iadd dX8_tick_578 ?_
        refine x_puti dX8_tick_579 vc_X8 xin8 tyX8_ok nmX8 fb_X8_0 fl_X8_28 ff_X8_0 xr_X8_0 (nf_X8_0 _) (ft_X8_0 _) c1 ?_
        obtain ⟨N20, eN20, h⟩ := x_lt h
        refine x_nmM eN20 ?_
        obtain ⟨c21, h⟩ := x_ckk h
        refine x_wide (k' := 224) (n' := 832) c21 ?_
        obtain ⟨rfl, h8⟩ := Prod.mk.inj (x_so h)
        obtain ⟨rfl, rfl⟩ := Prod.mk.inj h8
        exact x_nvret dX8_tick_582 rfl rfl rfl
set_option maxHeartbeats 4000000 in
set_option maxRecDepth 100000 in
theorem T_X8_tick_383 {G : XG} {tb : List ExceptionTableEntry} {Yz : XY} {qz : Nat} {Nz : XN} {K265 : XY → Nat → Nat → Nat → Int32 → Int32 → Nat → Nat → XN → Option (XY × Nat × XN)} (hK265 : ∀ (Y : XY) (q : Nat) (p_0 : Nat) (p_1 : Nat) (v_2 : Int32) (v_3 : Int32) (k : Nat) (n : Nat) (N : XN), K265 Y q p_0 p_1 v_2 v_3 k n N = some (Yz, qz, Nz) → ExZ G yX8_tick cX8_tick 9 none tb (xR 6 224 832) (xZn G (xR 6 224 832) none Yz Nz) k n 265 [(0, .ref p_0), (1, .ref p_1), (2, .int v_2), (3, .int v_3)] [] Y N) (Y : XY) (q : Nat) (p_0 : Nat) (p_1 : Nat) (v_2 : Int32) (v_3 : Int32) (p_4 : Nat) (v_5 : Int32) (z0 : Int64) (k : Nat) (n : Nat) (N : XN) (h : f_X8_tick_383 K265 Y q p_0 p_1 v_2 v_3 p_4 v_5 z0 k n N = some (Yz, qz, Nz)) : ExZ G yX8_tick cX8_tick 9 none tb (xR 6 224 832) (xZn G (xR 6 224 832) none Yz Nz) k n 383 [(0, .ref p_0), (1, .ref p_1), (2, .int v_2), (3, .int v_3), (4, .ref p_4), (5, .int v_5)] [.long z0] Y N := by
  rw [f_X8_tick_383] at h
  refine x_lstore (L' := [(0, .ref p_0), (1, .ref p_1), (2, .int v_2), (3, .int v_3), (4, .ref p_4), (5, .int v_5), (6, .long z0)]) [1, 2, 3, 4, 5, 6, 0] dX8_tick_383 (by decide) rfl ?_
  refine x_aload_n 0 dX8_tick_385 rfl rfl ?_
  refine x_iload 5 dX8_tick_386 rfl ?_
  refine x_lconst (v := 0) dX8_tick_388 rfl ?_
  refine x_ldc2 (v := 9999) dX8_tick_389 kl_X8_79 ?_
  refine x_lload 6 dX8_tick_392 rfl ?_
  obtain ⟨c4, h⟩ := x_ckk h
  obtain ⟨r1, N2, e3, h⟩ := x_bd2 h
  refine x_J9_min_f86c9 dX8_tick_394 ml_X8_81 e3 (Nat.le_of_ble_eq_true rfl) (Nat.le_of_ble_eq_true rfl) (Nat.le_of_ble_eq_true rfl) c4 ?_
  obtain ⟨r5, N6, e7, h⟩ := x_bd2 h
  refine x_J9_max_f86c9 dX8_tick_397 ml_X8_84 e7 (Nat.le_of_ble_eq_true rfl) (Nat.le_of_ble_eq_true rfl) (Nat.le_of_ble_eq_true rfl) c4 ?_
  refine x_l2i dX8_tick_400 ?_
  obtain ⟨c8, h⟩ := x_ckk h
  obtain ⟨c9, h⟩ := x_ckk h
  obtain ⟨r10, Y12, q13, N14, e11, h⟩ := x_bd4 h
  refine x_nV (b := p_0) (As := [.int v_5, .int (Int64.toInt32 r5)]) (ci := 8) (R' := xR 3 3 12) (zz := yX8_pays) dX8_tick_401 ml_X8_87 wi_X8_pays wv_X8_pays wn_X8 wc_X8_pays hp_X8_pays ⟨Nat.le_of_ble_eq_true rfl, Nat.le_of_ble_eq_true rfl⟩ rfl (Nat.le_of_ble_eq_true rfl) c9 vc_X8 c8 (T_X8_pays (G := G) e11) ?_
  refine x_istore (L' := [(0, .ref p_0), (1, .ref p_1), (2, .int v_2), (3, .int v_3), (4, .ref p_4), (5, .int v_5), (8, .int r10)]) [1, 2, 3, 4, 5, 6, 0] dX8_tick_404 (by decide) rfl ?_
  refine x_aload_n 0 dX8_tick_406 rfl rfl ?_
  obtain ⟨c15, h⟩ := x_ckk h
  obtain ⟨c17, h⟩ := x_ckk h
  obtain ⟨p16, lp16, h⟩ := x_lt h
  have ep16 : gr Y12 p_0 3 = some p16 := by rw [lp16]; exact c17
  refine x_getr dX8_tick_407 vc_X8 xin8 fb_X8_3 fl_X8_14 xr_X8_3 c15 ep16 ?_
  refine x_iload 5 dX8_tick_410 rfl ?_
  obtain ⟨c18, h⟩ := x_ckk h
  obtain ⟨c19, h⟩ := x_ckk h
  obtain ⟨c21, h⟩ := x_ckk h
  obtain ⟨p20, lp20, h⟩ := x_lt h
  have ep20 : gr Y12 p16 v_5.toNatClampNeg = some p20 := by rw [lp20]; exact c21
  refine x_aald (j := 4) dX8_tick_412 (by decide) c18 (xb_in c19) ep20 ?_
  refine x_iconst (v := 3) dX8_tick_413 rfl ?_
  refine x_dup2 dX8_tick_414 rfl rfl ?_
  obtain ⟨c22, h⟩ := x_ckk h
  obtain ⟨c23, h⟩ := x_ckk h
  refine x_iald dX8_tick_415 c22 (xb_in c23) xj_3 ?_
  refine x_iload 6 dX8_tick_416 rfl ?_
  refine x_iadd dX8_tick_418 ?_
  obtain ⟨c24, h⟩ := x_ckk h
  refine x_iast dX8_tick_419 c22 (xb_in c24) xj_3 ?_
  obtain ⟨N25, eN25, h⟩ := x_lt h
  refine x_nmM eN25 ?_
  refine x_aload_n 0 dX8_tick_420 rfl rfl ?_
  obtain ⟨c27, h⟩ := x_ckk h
  obtain ⟨p26, lp26, h⟩ := x_lt h
  have ep26 : gr Y12 p_0 4 = some p26 := by rw [lp26]; exact c27
  refine x_getr dX8_tick_421 vc_X8 xin8 fb_X8_4 fl_X8_18 xr_X8_4 c15 ep26 ?_
  refine x_aload 4 dX8_tick_424 rfl ?_
  refine x_iconst (v := 0) dX8_tick_426 rfl ?_
  obtain ⟨c28, h⟩ := x_ckk h
  obtain ⟨c29, h⟩ := x_ckk h
  refine x_iald dX8_tick_427 c28 (xb_in c29) xj_0 ?_
  obtain ⟨c30, h⟩ := x_ckk h
  obtain ⟨c31, h⟩ := x_ckk h
  obtain ⟨c33, h⟩ := x_ckk h
  obtain ⟨p32, lp32, h⟩ := x_lt h
  have ep32 : gr Y12 p26 (gi N25 p_4 0).toNatClampNeg = some p32 := by rw [lp32]; exact c33
  refine x_aald (j := 4) dX8_tick_428 (by decide) c30 (xb_in c31) ep32 ?_
  refine x_iconst (v := 2) dX8_tick_429 rfl ?_
  refine x_dup2 dX8_tick_430 rfl rfl ?_
  obtain ⟨c34, h⟩ := x_ckk h
  obtain ⟨c35, h⟩ := x_ckk h
  refine x_iald dX8_tick_431 c34 (xb_in c35) xj_2 ?_
  refine x_iload 6 dX8_tick_432 rfl ?_
  refine x_iadd dX8_tick_434 ?_
  obtain ⟨c36, h⟩ := x_ckk h
  refine x_iast dX8_tick_435 c34 (xb_in c36) xj_2 ?_
  obtain ⟨N37, eN37, h⟩ := x_lt h
  refine x_nmM eN37 ?_
  refine x_aload 4 dX8_tick_436 rfl ?_
  refine x_bipush (v := 7) dX8_tick_438 rfl ?_
  refine x_aload_n 0 dX8_tick_440 rfl rfl ?_
  refine x_geti dX8_tick_441 vc_X8 xin8 fb_X8_0 fl_X8_28 xr_X8_0 c15 ?_
  obtain ⟨c38, h⟩ := x_ckk h
  refine x_iast dX8_tick_444 c28 (xb_in c38) xj_7 ?_
  obtain ⟨N39, eN39, h⟩ := x_lt h
  refine x_nmM eN39 ?_
  refine x_iinc (L' := [(0, .ref p_0), (1, .ref p_1), (2, .int v_2), (3, .int (v_3 + 1))]) 3 [1, 2, 3, 0] dX8_tick_445 rfl rfl (by decide) rfl ?_
  refine x_goto (tgt := 265) dX8_tick_448 (by decide) ?_
  exact hK265 Y12 q13 p_0 p_1 v_2 (v_3 + 1) (k + 3) (n + 12) N39 h
set_option maxHeartbeats 4000000 in
set_option maxRecDepth 100000 in
theorem T_X8_tick_265 {G : XG} {tb : List ExceptionTableEntry} {Yz : XY} {qz : Nat} {Nz : XN} : ∀ (D9 : Nat) (Y : XY) (q : Nat) (p_0 : Nat) (p_1 : Nat) (v_2 : Int32) (v_3 : Int32) (k : Nat) (n : Nat) (N : XN), f_X8_tick_265 D9 Y q p_0 p_1 v_2 v_3 k n N = some (Yz, qz, Nz) → ExZ G yX8_tick cX8_tick 9 none tb (xR 6 224 832) (xZn G (xR 6 224 832) none Yz Nz) k n 265 [(0, .ref p_0), (1, .ref p_1), (2, .int v_2), (3, .int v_3)] [] Y N := by
  intro D9
  induction D9 with
  | zero => intro Y q p_0 p_1 v_2 v_3 k n N h; exact nomatch (show none = some _ from h)
  | succ D9 ih =>
    intro Y q p_0 p_1 v_2 v_3 k n N h
    rw [f_X8_tick_265] at h
    refine x_iload_n 3 dX8_tick_265 rfl rfl ?_
    refine x_iload_n 2 dX8_tick_266 rfl rfl ?_
    rcases x_if h with ⟨c1, h⟩ | ⟨c1, h⟩
    · refine x_icmp_ge_t (tgt := 451) dX8_tick_267 (by decide) c1 ?_
      refine x_iconst (v := 0) dX8_tick_451 rfl ?_
      refine x_istore_n (L' := [(0, .ref p_0), (1, .int 0)]) [1, 0] dX8_tick_452 rfl (by decide) rfl ?_
      exact T_X8_tick_453 (G := G) FU Y q p_0 0 k n N h
    · refine x_icmp_ge_f (tgt := 451) dX8_tick_267 (by decide) c1 ?_
      refine x_aload_n 1 dX8_tick_270 rfl rfl ?_
      refine x_iload_n 3 dX8_tick_271 rfl rfl ?_
      obtain ⟨c2, h⟩ := x_ckk h
      obtain ⟨c3, h⟩ := x_ckk h
      obtain ⟨c5, h⟩ := x_ckk h
      obtain ⟨p4, lp4, h⟩ := x_lt h
      have ep4 : gr Y p_1 v_3.toNatClampNeg = some p4 := by rw [lp4]; exact c5
      refine x_aald (j := 4) dX8_tick_272 (by decide) c2 (xb_in c3) ep4 ?_
      refine x_astore (L' := [(0, .ref p_0), (1, .ref p_1), (2, .int v_2), (3, .int v_3), (4, .ref p4)]) [1, 2, 3, 4, 0] dX8_tick_273 (by decide) rfl ?_
      refine x_aload 4 dX8_tick_275 rfl ?_
      refine x_iconst (v := 3) dX8_tick_277 rfl ?_
      obtain ⟨c6, h⟩ := x_ckk h
      obtain ⟨c7, h⟩ := x_ckk h
      refine x_iald dX8_tick_278 c6 (xb_in c7) xj_3 ?_
      refine x_iconst (v := 1) dX8_tick_279 rfl ?_
      rcases x_if h with ⟨c8, h⟩ | ⟨c8, h⟩
      · refine x_icmp_ne_f (tgt := 445) dX8_tick_280 (by decide) c8 ?_
        refine x_aload 4 dX8_tick_283 rfl ?_
        refine x_iconst (v := 4) dX8_tick_285 rfl ?_
        obtain ⟨c9, h⟩ := x_ckk h
        refine x_iald dX8_tick_286 c6 (xb_in c9) xj_4 ?_
        rcases x_if h with ⟨c10, h⟩ | ⟨c10, h⟩
        · refine x_if_lt_t (tgt := 445) dX8_tick_287 (by decide) c10 ?_
          refine x_iinc (L' := [(0, .ref p_0), (1, .ref p_1), (2, .int v_2), (3, .int (v_3 + 1))]) 3 [1, 2, 3, 0] dX8_tick_445 rfl rfl (by decide) rfl ?_
          refine x_goto (tgt := 265) dX8_tick_448 (by decide) ?_
          exact ih Y q p_0 p_1 v_2 (v_3 + 1) k n N h
        · refine x_if_lt_f (tgt := 445) dX8_tick_287 (by decide) c10 ?_
          refine x_aload_n 0 dX8_tick_290 rfl rfl ?_
          obtain ⟨c11, h⟩ := x_ckk h
          refine x_geti dX8_tick_291 vc_X8 xin8 fb_X8_0 fl_X8_28 xr_X8_0 c11 ?_
          refine x_aload 4 dX8_tick_294 rfl ?_
          refine x_bipush (v := 7) dX8_tick_296 rfl ?_
          obtain ⟨c12, h⟩ := x_ckk h
          refine x_iald dX8_tick_298 c6 (xb_in c12) xj_7 ?_
          refine x_isub dX8_tick_299 ?_
          refine x_aload_n 0 dX8_tick_300 rfl rfl ?_
          obtain ⟨c14, h⟩ := x_ckk h
          obtain ⟨p13, lp13, h⟩ := x_lt h
          have ep13 : gr Y p_0 2 = some p13 := by rw [lp13]; exact c14
          refine x_getr dX8_tick_301 vc_X8 xin8 fb_X8_2 fl_X8_7 xr_X8_2 c11 ep13 ?_
          refine x_iconst (v := 0) dX8_tick_304 rfl ?_
          obtain ⟨c15, h⟩ := x_ckk h
          obtain ⟨c16, h⟩ := x_ckk h
          refine x_iald dX8_tick_305 c15 (xb_in c16) xj_0 ?_
          rcases x_if h with ⟨c17, h⟩ | ⟨c17, h⟩
          · refine x_icmp_ge_t (tgt := 312) dX8_tick_306 (by decide) c17 ?_
            refine x_aload 4 dX8_tick_312 rfl ?_
            refine x_iconst (v := 4) dX8_tick_314 rfl ?_
            obtain ⟨c18, h⟩ := x_ckk h
            refine x_iald dX8_tick_315 c6 (xb_in c18) xj_4 ?_
            refine x_istore (L' := [(0, .ref p_0), (1, .ref p_1), (2, .int v_2), (3, .int v_3), (4, .ref p4), (5, .int (gi N p4 4))]) [1, 2, 3, 4, 5, 0] dX8_tick_316 (by decide) rfl ?_
            refine x_aload_n 0 dX8_tick_318 rfl rfl ?_
            refine x_getq dX8_tick_319 vc_X8 xin8 fb_X8_7 fl_X8_41 xr_X8_7 c11 ?_
            rcases x_nl h with ⟨e20, h⟩ | ⟨p19, e20, h⟩
            · refine x_ifnn_f dX8_tick_322 e20 ?_
              refine x_aload 4 dX8_tick_325 rfl ?_
              refine x_iconst (v := 5) dX8_tick_327 rfl ?_
              obtain ⟨c21, h⟩ := x_ckk h
              refine x_iald dX8_tick_328 c6 (xb_in c21) xj_5 ?_
              refine x_i2l dX8_tick_329 ?_
              refine x_goto (tgt := 383) dX8_tick_330 (by decide) ?_
              exact T_X8_tick_383 (G := G) ih Y q p_0 p_1 v_2 v_3 p4 (gi N p4 4) (Int32.toInt64 (gi N p4 5)) k n N h
            · refine x_ifnn_t (tgt := 333) dX8_tick_322 (by decide) e20 ?_
              refine x_aload_n 0 dX8_tick_333 rfl rfl ?_
              refine x_getr dX8_tick_334 vc_X8 xin8 fb_X8_7 fl_X8_41 xr_X8_7 c11 e20 ?_
              refine x_iconst (v := 4) dX8_tick_337 rfl ?_
              obtain ⟨c22, h⟩ := x_ckk h
              obtain ⟨c23, h⟩ := x_ckk h
              refine x_newP (q := q) (M := 4) (kd := 3) dX8_tick_338 rfl ac9_long (by decide) rfl (by decide) (Or.inr (Or.inr ⟨rfl, rfl, rfl⟩)) c22.1 c23 ?_
              obtain ⟨Y24, eY24, h⟩ := x_lt h
              refine x_nmY eY24 ?_
              obtain ⟨N25, eN25, h⟩ := x_lt h
              refine x_nmM eN25 ?_
              have k26 : kc Y24 q = 3 := by rw [eY24]; exact kcq rfl
              refine x_dup dX8_tick_340 rfl ?_
              refine x_iconst (v := 0) dX8_tick_341 rfl ?_
              refine x_aload 4 dX8_tick_342 rfl ?_
              refine x_iconst (v := 0) dX8_tick_344 rfl ?_
              have k27 : kc Y24 p4 = 1 := by rw [eY24]; exact kc_yK c22.1 c22.2 (by decide) (by decide) c6
              obtain ⟨c28, h⟩ := x_ckk h
              refine x_iald dX8_tick_345 k27 (xb_in c28) xj_0 ?_
              refine x_i2l dX8_tick_346 ?_
              obtain ⟨c29, h⟩ := x_ckk h
              refine x_last dX8_tick_347 k26 (xb_in c29) xj_0 ?_
              obtain ⟨N30, eN30, h⟩ := x_lt h
              refine x_nmM eN30 ?_
              refine x_dup dX8_tick_348 rfl ?_
              refine x_iconst (v := 1) dX8_tick_349 rfl ?_
              refine x_aload 4 dX8_tick_350 rfl ?_
              refine x_iconst (v := 5) dX8_tick_352 rfl ?_
              obtain ⟨c31, h⟩ := x_ckk h
              refine x_iald dX8_tick_353 k27 (xb_in c31) xj_5 ?_
              refine x_i2l dX8_tick_354 ?_
              obtain ⟨c32, h⟩ := x_ckk h
              refine x_last dX8_tick_355 k26 (xb_in c32) xj_1 ?_
              obtain ⟨N33, eN33, h⟩ := x_lt h
              refine x_nmM eN33 ?_
              refine x_dup dX8_tick_356 rfl ?_
              refine x_iconst (v := 2) dX8_tick_357 rfl ?_
              refine x_aload_n 0 dX8_tick_358 rfl rfl ?_
              refine x_iload 5 dX8_tick_359 rfl ?_
              have k34 : kc Y24 p_0 = 18 := by rw [eY24]; exact kc_yK c22.1 c22.2 (by decide) (by decide) c11
              obtain ⟨r35, N37, e36, h⟩ := x_bd2 h
              refine x_nV (b := p_0) (As := [.int (gi N p4 4)]) (ci := 8) (R' := xR 1 0 0) (zz := yX8_held) dX8_tick_361 ml_X8_45 wi_X8_held wv_X8_held wn_X8 wc_X8_held hp_X8_held ⟨Nat.le_of_ble_eq_true rfl, Nat.le_of_ble_eq_true rfl⟩ rfl (Nat.le_of_ble_eq_true rfl) c23 vc_X8 k34 (T_X8_held (G := G) e36) ?_
              refine x_i2l dX8_tick_364 ?_
              obtain ⟨c38, h⟩ := x_ckk h
              refine x_last dX8_tick_365 k26 (xb_in c38) xj_2 ?_
              obtain ⟨N39, eN39, h⟩ := x_lt h
              refine x_nmM eN39 ?_
              refine x_dup dX8_tick_366 rfl ?_
              refine x_iconst (v := 3) dX8_tick_367 rfl ?_
              refine x_aload_n 0 dX8_tick_368 rfl rfl ?_
              refine x_geti dX8_tick_369 vc_X8 xin8 fb_X8_0 fl_X8_28 xr_X8_0 k34 ?_
              refine x_aload 4 dX8_tick_372 rfl ?_
              refine x_bipush (v := 7) dX8_tick_374 rfl ?_
              obtain ⟨c40, h⟩ := x_ckk h
              refine x_iald dX8_tick_376 k27 (xb_in c40) xj_7 ?_
              refine x_isub dX8_tick_377 ?_
              refine x_i2l dX8_tick_378 ?_
              obtain ⟨c41, h⟩ := x_ckk h
              refine x_last dX8_tick_379 k26 (xb_in c41) xj_3 ?_
              obtain ⟨N42, eN42, h⟩ := x_lt h
              refine x_nmM eN42 ?_
              obtain ⟨c43, h⟩ := x_ckk h
              obtain ⟨r44, N46, e45, h⟩ := x_bd2 h
              refine x_nV (b := p19) (As := [.ref q]) (ci := 9) (R' := xR 5 0 0) (zz := yX9_value) dX8_tick_380 ml_X8_73 wi_X9_value wv_X9_value wn_X9 wc_X9_value hp_X9_value ⟨Nat.le_of_ble_eq_true rfl, Nat.le_of_ble_eq_true rfl⟩ rfl (Nat.le_of_ble_eq_true rfl) c23 vc_X9 c43 (T_X9_value_at (G := G) e45) ?_
              exact T_X8_tick_383 (G := G) ih Y24 (q + 1) p_0 p_1 v_2 v_3 p4 (gi N p4 4) r44 (k + 1) (n + 4) N46 h
          · refine x_icmp_ge_f (tgt := 312) dX8_tick_306 (by decide) c17 ?_
            refine x_goto (tgt := 445) dX8_tick_309 (by decide) ?_
            refine x_iinc (L' := [(0, .ref p_0), (1, .ref p_1), (2, .int v_2), (3, .int (v_3 + 1))]) 3 [1, 2, 3, 0] dX8_tick_445 rfl rfl (by decide) rfl ?_
            refine x_goto (tgt := 265) dX8_tick_448 (by decide) ?_
            exact ih Y q p_0 p_1 v_2 (v_3 + 1) k n N h
      · refine x_icmp_ne_t (tgt := 445) dX8_tick_280 (by decide) c8 ?_
        refine x_iinc (L' := [(0, .ref p_0), (1, .ref p_1), (2, .int v_2), (3, .int (v_3 + 1))]) 3 [1, 2, 3, 0] dX8_tick_445 rfl rfl (by decide) rfl ?_
        refine x_goto (tgt := 265) dX8_tick_448 (by decide) ?_
        exact ih Y q p_0 p_1 v_2 (v_3 + 1) k n N h
set_option maxHeartbeats 4000000 in
set_option maxRecDepth 100000 in
theorem T_X8_tick_72 {G : XG} {tb : List ExceptionTableEntry} {Yz : XY} {qz : Nat} {Nz : XN} {K52 : XY → Nat → Nat → Int32 → Nat → Nat → XN → Option (XY × Nat × XN)} (hK52 : ∀ (Y : XY) (q : Nat) (p_0 : Nat) (v_1 : Int32) (k : Nat) (n : Nat) (N : XN), K52 Y q p_0 v_1 k n N = some (Yz, qz, Nz) → ExZ G yX8_tick cX8_tick 9 none tb (xR 6 224 832) (xZn G (xR 6 224 832) none Yz Nz) k n 52 [(0, .ref p_0), (1, .int v_1)] [] Y N) : ∀ (D9 : Nat) (Y : XY) (q : Nat) (p_0 : Nat) (v_1 : Int32) (v_2 : Int32) (v_3 : Int32) (k : Nat) (n : Nat) (N : XN), f_X8_tick_72 K52 D9 Y q p_0 v_1 v_2 v_3 k n N = some (Yz, qz, Nz) → ExZ G yX8_tick cX8_tick 9 none tb (xR 6 224 832) (xZn G (xR 6 224 832) none Yz Nz) k n 72 [(0, .ref p_0), (1, .int v_1), (2, .int v_2), (3, .int v_3)] [] Y N := by
  intro D9
  induction D9 with
  | zero => intro Y q p_0 v_1 v_2 v_3 k n N h; exact nomatch (show none = some _ from h)
  | succ D9 ih =>
    intro Y q p_0 v_1 v_2 v_3 k n N h
    rw [f_X8_tick_72] at h
    refine x_iload_n 3 dX8_tick_72 rfl rfl ?_
    refine x_aload_n 0 dX8_tick_73 rfl rfl ?_
    obtain ⟨c1, h⟩ := x_ckk h
    obtain ⟨c3, h⟩ := x_ckk h
    obtain ⟨p2, lp2, h⟩ := x_lt h
    have ep2 : gr Y p_0 6 = some p2 := by rw [lp2]; exact c3
    refine x_getr dX8_tick_74 vc_X8 xin8 fb_X8_6 fl_X8_24 xr_X8_6 c1 ep2 ?_
    obtain ⟨c4, h⟩ := x_ckk h
    refine x_rlen (j := 4) dX8_tick_77 (by decide) c4 rfl ?_
    rcases x_if h with ⟨c5, h⟩ | ⟨c5, h⟩
    · refine x_icmp_ge_t (tgt := 249) dX8_tick_78 (by decide) c5 ?_
      refine x_iinc (L' := [(0, .ref p_0), (1, .int (v_1 + 1))]) 1 [1, 0] dX8_tick_249 rfl rfl (by decide) rfl ?_
      refine x_goto (tgt := 52) dX8_tick_252 (by decide) ?_
      exact hK52 Y q p_0 (v_1 + 1) k n N h
    · refine x_icmp_ge_f (tgt := 249) dX8_tick_78 (by decide) c5 ?_
      refine x_iload_n 2 dX8_tick_81 rfl rfl ?_
      rcases x_if h with ⟨c6, h⟩ | ⟨c6, h⟩
      · refine x_if_le_t (tgt := 249) dX8_tick_82 (by decide) c6 ?_
        refine x_iinc (L' := [(0, .ref p_0), (1, .int (v_1 + 1))]) 1 [1, 0] dX8_tick_249 rfl rfl (by decide) rfl ?_
        refine x_goto (tgt := 52) dX8_tick_252 (by decide) ?_
        exact hK52 Y q p_0 (v_1 + 1) k n N h
      · refine x_if_le_f (tgt := 249) dX8_tick_82 (by decide) c6 ?_
        refine x_aload_n 0 dX8_tick_85 rfl rfl ?_
        refine x_getr dX8_tick_86 vc_X8 xin8 fb_X8_6 fl_X8_24 xr_X8_6 c1 ep2 ?_
        refine x_iload_n 3 dX8_tick_89 rfl rfl ?_
        obtain ⟨c7, h⟩ := x_ckk h
        obtain ⟨c9, h⟩ := x_ckk h
        obtain ⟨p8, lp8, h⟩ := x_lt h
        have ep8 : gr Y p2 v_3.toNatClampNeg = some p8 := by rw [lp8]; exact c9
        refine x_aald (j := 4) dX8_tick_90 (by decide) c4 (xb_in c7) ep8 ?_
        refine x_astore (L' := [(0, .ref p_0), (1, .int v_1), (2, .int v_2), (3, .int v_3), (4, .ref p8)]) [1, 2, 3, 4, 0] dX8_tick_91 (by decide) rfl ?_
        refine x_aload 4 dX8_tick_93 rfl ?_
        refine x_iconst (v := 3) dX8_tick_95 rfl ?_
        obtain ⟨c10, h⟩ := x_ckk h
        obtain ⟨c11, h⟩ := x_ckk h
        refine x_iald dX8_tick_96 c10 (xb_in c11) xj_3 ?_
        refine x_iconst (v := 1) dX8_tick_97 rfl ?_
        rcases x_if h with ⟨c12, h⟩ | ⟨c12, h⟩
        · refine x_icmp_ne_f (tgt := 243) dX8_tick_98 (by decide) c12 ?_
          refine x_aload 4 dX8_tick_101 rfl ?_
          refine x_iconst (v := 4) dX8_tick_103 rfl ?_
          obtain ⟨c13, h⟩ := x_ckk h
          refine x_iald dX8_tick_104 c10 (xb_in c13) xj_4 ?_
          refine x_iload_n 1 dX8_tick_105 rfl rfl ?_
          rcases x_if h with ⟨c14, h⟩ | ⟨c14, h⟩
          · refine x_icmp_eq_t (tgt := 112) dX8_tick_106 (by decide) c14 ?_
            refine x_iload_n 2 dX8_tick_112 rfl rfl ?_
            refine x_aload 4 dX8_tick_113 rfl ?_
            refine x_iconst (v := 5) dX8_tick_115 rfl ?_
            obtain ⟨c15, h⟩ := x_ckk h
            refine x_iald dX8_tick_116 c10 (xb_in c15) xj_5 ?_
            obtain ⟨c19, h⟩ := x_ckk h
            obtain ⟨r16, N17, e18, h⟩ := x_bd2 h
            refine x_J9_min_7cf53 dX8_tick_117 ml_X8_52 e18 (Nat.le_of_ble_eq_true rfl) (Nat.le_of_ble_eq_true rfl) (Nat.le_of_ble_eq_true rfl) c19 ?_
            refine x_istore (L' := [(0, .ref p_0), (1, .int v_1), (2, .int v_2), (3, .int v_3), (4, .ref p8), (5, .int r16)]) [1, 2, 3, 4, 5, 0] dX8_tick_120 (by decide) rfl ?_
            refine x_iload_n 2 dX8_tick_122 rfl rfl ?_
            refine x_iload 5 dX8_tick_123 rfl ?_
            refine x_isub dX8_tick_125 ?_
            refine x_istore_n (L' := [(0, .ref p_0), (1, .int v_1), (2, .int (v_2 - r16)), (3, .int v_3), (4, .ref p8), (5, .int r16)]) [1, 2, 0, 3, 4, 5] dX8_tick_126 rfl (by decide) rfl ?_
            refine x_aload 4 dX8_tick_127 rfl ?_
            refine x_iconst (v := 5) dX8_tick_129 rfl ?_
            refine x_dup2 dX8_tick_130 rfl rfl ?_
            obtain ⟨c20, h⟩ := x_ckk h
            refine x_iald dX8_tick_131 c10 (xb_in c20) xj_5 ?_
            refine x_iload 5 dX8_tick_132 rfl ?_
            refine x_isub dX8_tick_134 ?_
            obtain ⟨c21, h⟩ := x_ckk h
            refine x_iast dX8_tick_135 c10 (xb_in c21) xj_5 ?_
            obtain ⟨N22, eN22, h⟩ := x_lt h
            refine x_nmM eN22 ?_
            refine x_aload 4 dX8_tick_136 rfl ?_
            refine x_bipush (v := 7) dX8_tick_138 rfl ?_
            refine x_aload_n 0 dX8_tick_140 rfl rfl ?_
            refine x_geti dX8_tick_141 vc_X8 xin8 fb_X8_0 fl_X8_28 xr_X8_0 c1 ?_
            obtain ⟨c23, h⟩ := x_ckk h
            refine x_iast dX8_tick_144 c10 (xb_in c23) xj_7 ?_
            obtain ⟨N24, eN24, h⟩ := x_lt h
            refine x_nmM eN24 ?_
            refine x_aload 4 dX8_tick_145 rfl ?_
            refine x_iconst (v := 5) dX8_tick_147 rfl ?_
            obtain ⟨c25, h⟩ := x_ckk h
            refine x_iald dX8_tick_148 c10 (xb_in c25) xj_5 ?_
            rcases x_if h with ⟨c26, h⟩ | ⟨c26, h⟩
            · refine x_if_le_t (tgt := 155) dX8_tick_149 (by decide) c26 ?_
              refine x_aload_n 0 dX8_tick_155 rfl rfl ?_
              obtain ⟨c28, h⟩ := x_ckk h
              obtain ⟨p27, lp27, h⟩ := x_lt h
              have ep27 : gr Y p_0 4 = some p27 := by rw [lp27]; exact c28
              refine x_getr dX8_tick_156 vc_X8 xin8 fb_X8_4 fl_X8_18 xr_X8_4 c1 ep27 ?_
              refine x_aload 4 dX8_tick_159 rfl ?_
              refine x_iconst (v := 0) dX8_tick_161 rfl ?_
              obtain ⟨c29, h⟩ := x_ckk h
              refine x_iald dX8_tick_162 c10 (xb_in c29) xj_0 ?_
              obtain ⟨c30, h⟩ := x_ckk h
              obtain ⟨c31, h⟩ := x_ckk h
              obtain ⟨c33, h⟩ := x_ckk h
              obtain ⟨p32, lp32, h⟩ := x_lt h
              have ep32 : gr Y p27 (gi N24 p8 0).toNatClampNeg = some p32 := by rw [lp32]; exact c33
              refine x_aald (j := 4) dX8_tick_163 (by decide) c30 (xb_in c31) ep32 ?_
              refine x_iconst (v := 2) dX8_tick_164 rfl ?_
              obtain ⟨c34, h⟩ := x_ckk h
              obtain ⟨c35, h⟩ := x_ckk h
              refine x_iald dX8_tick_165 c34 (xb_in c35) xj_2 ?_
              refine x_aload_n 0 dX8_tick_166 rfl rfl ?_
              obtain ⟨c37, h⟩ := x_ckk h
              obtain ⟨p36, lp36, h⟩ := x_lt h
              have ep36 : gr Y p_0 2 = some p36 := by rw [lp36]; exact c37
              refine x_getr dX8_tick_167 vc_X8 xin8 fb_X8_2 fl_X8_7 xr_X8_2 c1 ep36 ?_
              refine x_iconst (v := 4) dX8_tick_170 rfl ?_
              obtain ⟨c38, h⟩ := x_ckk h
              obtain ⟨c39, h⟩ := x_ckk h
              refine x_iald dX8_tick_171 c38 (xb_in c39) xj_4 ?_
              refine x_aload 4 dX8_tick_172 rfl ?_
              refine x_iconst (v := 2) dX8_tick_174 rfl ?_
              obtain ⟨c40, h⟩ := x_ckk h
              refine x_iald dX8_tick_175 c10 (xb_in c40) xj_2 ?_
              refine x_imul dX8_tick_176 ?_
              obtain ⟨r41, N42, e43, h⟩ := x_bd2 h
              refine x_J9_min_7cf53 dX8_tick_177 ml_X8_52 e43 (Nat.le_of_ble_eq_true rfl) (Nat.le_of_ble_eq_true rfl) (Nat.le_of_ble_eq_true rfl) c19 ?_
              refine x_istore (L' := [(0, .ref p_0), (1, .int v_1), (2, .int (v_2 - r16)), (3, .int v_3), (4, .ref p8), (6, .int r41)]) [1, 2, 3, 4, 5, 0] dX8_tick_180 (by decide) rfl ?_
              refine x_aload_n 0 dX8_tick_182 rfl rfl ?_
              refine x_getr dX8_tick_183 vc_X8 xin8 fb_X8_4 fl_X8_18 xr_X8_4 c1 ep27 ?_
              refine x_aload 4 dX8_tick_186 rfl ?_
              refine x_iconst (v := 0) dX8_tick_188 rfl ?_
              obtain ⟨c44, h⟩ := x_ckk h
              refine x_iald dX8_tick_189 c10 (xb_in c44) xj_0 ?_
              obtain ⟨c45, h⟩ := x_ckk h
              obtain ⟨c47, h⟩ := x_ckk h
              obtain ⟨p46, lp46, h⟩ := x_lt h
              have ep46 : gr Y p27 (gi N42 p8 0).toNatClampNeg = some p46 := by rw [lp46]; exact c47
              refine x_aald (j := 4) dX8_tick_190 (by decide) c30 (xb_in c45) ep46 ?_
              refine x_iconst (v := 2) dX8_tick_191 rfl ?_
              refine x_dup2 dX8_tick_192 rfl rfl ?_
              obtain ⟨c48, h⟩ := x_ckk h
              obtain ⟨c49, h⟩ := x_ckk h
              refine x_iald dX8_tick_193 c48 (xb_in c49) xj_2 ?_
              refine x_iload 5 dX8_tick_194 rfl ?_
              refine x_isub dX8_tick_196 ?_
              obtain ⟨c50, h⟩ := x_ckk h
              refine x_iast dX8_tick_197 c48 (xb_in c50) xj_2 ?_
              obtain ⟨N51, eN51, h⟩ := x_lt h
              refine x_nmM eN51 ?_
              refine x_aload_n 0 dX8_tick_198 rfl rfl ?_
              obtain ⟨c53, h⟩ := x_ckk h
              obtain ⟨p52, lp52, h⟩ := x_lt h
              have ep52 : gr Y p_0 3 = some p52 := by rw [lp52]; exact c53
              refine x_getr dX8_tick_199 vc_X8 xin8 fb_X8_3 fl_X8_14 xr_X8_3 c1 ep52 ?_
              refine x_iload_n 1 dX8_tick_202 rfl rfl ?_
              obtain ⟨c54, h⟩ := x_ckk h
              obtain ⟨c55, h⟩ := x_ckk h
              obtain ⟨c57, h⟩ := x_ckk h
              obtain ⟨p56, lp56, h⟩ := x_lt h
              have ep56 : gr Y p52 v_1.toNatClampNeg = some p56 := by rw [lp56]; exact c57
              refine x_aald (j := 4) dX8_tick_203 (by decide) c54 (xb_in c55) ep56 ?_
              refine x_iconst (v := 0) dX8_tick_204 rfl ?_
              refine x_dup2 dX8_tick_205 rfl rfl ?_
              obtain ⟨c58, h⟩ := x_ckk h
              obtain ⟨c59, h⟩ := x_ckk h
              refine x_iald dX8_tick_206 c58 (xb_in c59) xj_0 ?_
              refine x_iload 5 dX8_tick_207 rfl ?_
              refine x_iadd dX8_tick_209 ?_
              obtain ⟨c60, h⟩ := x_ckk h
              refine x_iast dX8_tick_210 c58 (xb_in c60) xj_0 ?_
              obtain ⟨N61, eN61, h⟩ := x_lt h
              refine x_nmM eN61 ?_
              refine x_aload_n 0 dX8_tick_211 rfl rfl ?_
              refine x_getr dX8_tick_212 vc_X8 xin8 fb_X8_3 fl_X8_14 xr_X8_3 c1 ep52 ?_
              refine x_iload_n 1 dX8_tick_215 rfl rfl ?_
              obtain ⟨c62, h⟩ := x_ckk h
              refine x_aald (j := 4) dX8_tick_216 (by decide) c54 (xb_in c62) ep56 ?_
              refine x_iconst (v := 5) dX8_tick_217 rfl ?_
              refine x_dup2 dX8_tick_218 rfl rfl ?_
              obtain ⟨c63, h⟩ := x_ckk h
              refine x_iald dX8_tick_219 c58 (xb_in c63) xj_5 ?_
              refine x_iload 5 dX8_tick_220 rfl ?_
              refine x_iadd dX8_tick_222 ?_
              obtain ⟨c64, h⟩ := x_ckk h
              refine x_iast dX8_tick_223 c58 (xb_in c64) xj_5 ?_
              obtain ⟨N65, eN65, h⟩ := x_lt h
              refine x_nmM eN65 ?_
              refine x_aload 4 dX8_tick_224 rfl ?_
              refine x_iconst (v := 3) dX8_tick_226 rfl ?_
              refine x_iconst (v := 2) dX8_tick_227 rfl ?_
              obtain ⟨c66, h⟩ := x_ckk h
              refine x_iast dX8_tick_228 c10 (xb_in c66) xj_3 ?_
              obtain ⟨N67, eN67, h⟩ := x_lt h
              refine x_nmM eN67 ?_
              refine x_aload 4 dX8_tick_229 rfl ?_
              refine x_iconst (v := 4) dX8_tick_231 rfl ?_
              refine x_iconst (v := (-1)) dX8_tick_232 rfl ?_
              obtain ⟨c68, h⟩ := x_ckk h
              refine x_iast dX8_tick_233 c10 (xb_in c68) xj_4 ?_
              obtain ⟨N69, eN69, h⟩ := x_lt h
              refine x_nmM eN69 ?_
              refine x_aload 4 dX8_tick_234 rfl ?_
              refine x_bipush (v := 6) dX8_tick_236 rfl ?_
              refine x_aload_n 0 dX8_tick_238 rfl rfl ?_
              refine x_geti dX8_tick_239 vc_X8 xin8 fb_X8_0 fl_X8_28 xr_X8_0 c1 ?_
              obtain ⟨c70, h⟩ := x_ckk h
              refine x_iast dX8_tick_242 c10 (xb_in c70) xj_6 ?_
              obtain ⟨N71, eN71, h⟩ := x_lt h
              refine x_nmM eN71 ?_
              refine x_iinc (L' := [(0, .ref p_0), (1, .int v_1), (2, .int (v_2 - r16)), (3, .int (v_3 + 1))]) 3 [1, 2, 3, 0] dX8_tick_243 rfl rfl (by decide) rfl ?_
              refine x_goto (tgt := 72) dX8_tick_246 (by decide) ?_
              exact ih Y q p_0 v_1 (v_2 - r16) (v_3 + 1) k n N71 h
            · refine x_if_le_f (tgt := 155) dX8_tick_149 (by decide) c26 ?_
              refine x_goto (tgt := 243) dX8_tick_152 (by decide) ?_
              refine x_iinc (L' := [(0, .ref p_0), (1, .int v_1), (2, .int (v_2 - r16)), (3, .int (v_3 + 1))]) 3 [1, 2, 3, 0] dX8_tick_243 rfl rfl (by decide) rfl ?_
              refine x_goto (tgt := 72) dX8_tick_246 (by decide) ?_
              exact ih Y q p_0 v_1 (v_2 - r16) (v_3 + 1) k n N24 h
          · refine x_icmp_eq_f (tgt := 112) dX8_tick_106 (by decide) c14 ?_
            refine x_goto (tgt := 243) dX8_tick_109 (by decide) ?_
            refine x_iinc (L' := [(0, .ref p_0), (1, .int v_1), (2, .int v_2), (3, .int (v_3 + 1))]) 3 [1, 2, 3, 0] dX8_tick_243 rfl rfl (by decide) rfl ?_
            refine x_goto (tgt := 72) dX8_tick_246 (by decide) ?_
            exact ih Y q p_0 v_1 v_2 (v_3 + 1) k n N h
        · refine x_icmp_ne_t (tgt := 243) dX8_tick_98 (by decide) c12 ?_
          refine x_iinc (L' := [(0, .ref p_0), (1, .int v_1), (2, .int v_2), (3, .int (v_3 + 1))]) 3 [1, 2, 3, 0] dX8_tick_243 rfl rfl (by decide) rfl ?_
          refine x_goto (tgt := 72) dX8_tick_246 (by decide) ?_
          exact ih Y q p_0 v_1 v_2 (v_3 + 1) k n N h
set_option maxHeartbeats 4000000 in
set_option maxRecDepth 100000 in
theorem T_X8_tick_52 {G : XG} {tb : List ExceptionTableEntry} {Yz : XY} {qz : Nat} {Nz : XN} : ∀ (D9 : Nat) (Y : XY) (q : Nat) (p_0 : Nat) (v_1 : Int32) (k : Nat) (n : Nat) (N : XN), f_X8_tick_52 D9 Y q p_0 v_1 k n N = some (Yz, qz, Nz) → ExZ G yX8_tick cX8_tick 9 none tb (xR 6 224 832) (xZn G (xR 6 224 832) none Yz Nz) k n 52 [(0, .ref p_0), (1, .int v_1)] [] Y N := by
  intro D9
  induction D9 with
  | zero => intro Y q p_0 v_1 k n N h; exact nomatch (show none = some _ from h)
  | succ D9 ih =>
    intro Y q p_0 v_1 k n N h
    rw [f_X8_tick_52] at h
    refine x_iload_n 1 dX8_tick_52 rfl rfl ?_
    refine x_aload_n 0 dX8_tick_53 rfl rfl ?_
    obtain ⟨c1, h⟩ := x_ckk h
    obtain ⟨c3, h⟩ := x_ckk h
    obtain ⟨p2, lp2, h⟩ := x_lt h
    have ep2 : gr Y p_0 3 = some p2 := by rw [lp2]; exact c3
    refine x_getr dX8_tick_54 vc_X8 xin8 fb_X8_3 fl_X8_14 xr_X8_3 c1 ep2 ?_
    obtain ⟨c4, h⟩ := x_ckk h
    refine x_rlen (j := 4) dX8_tick_57 (by decide) c4 rfl ?_
    rcases x_if h with ⟨c5, h⟩ | ⟨c5, h⟩
    · refine x_icmp_ge_t (tgt := 255) dX8_tick_58 (by decide) c5 ?_
      refine x_aload_n 0 dX8_tick_255 rfl rfl ?_
      obtain ⟨c7, h⟩ := x_ckk h
      obtain ⟨p6, lp6, h⟩ := x_lt h
      have ep6 : gr Y p_0 6 = some p6 := by rw [lp6]; exact c7
      refine x_getr dX8_tick_256 vc_X8 xin8 fb_X8_6 fl_X8_24 xr_X8_6 c1 ep6 ?_
      refine x_astore_n (L' := [(0, .ref p_0), (1, .ref p6)]) [1, 0] dX8_tick_259 rfl (by decide) rfl ?_
      refine x_aload_n 1 dX8_tick_260 rfl rfl ?_
      obtain ⟨c8, h⟩ := x_ckk h
      refine x_rlen (j := 4) dX8_tick_261 (by decide) c8 rfl ?_
      refine x_istore_n (L' := [(0, .ref p_0), (1, .ref p6), (2, .int (Int32.ofNat (kn Y p6)))]) [1, 2, 0] dX8_tick_262 rfl (by decide) rfl ?_
      refine x_iconst (v := 0) dX8_tick_263 rfl ?_
      refine x_istore_n (L' := [(0, .ref p_0), (1, .ref p6), (2, .int (Int32.ofNat (kn Y p6))), (3, .int 0)]) [1, 2, 3, 0] dX8_tick_264 rfl (by decide) rfl ?_
      exact T_X8_tick_265 (G := G) FU Y q p_0 p6 (Int32.ofNat (kn Y p6)) 0 k n N h
    · refine x_icmp_ge_f (tgt := 255) dX8_tick_58 (by decide) c5 ?_
      refine x_aload_n 0 dX8_tick_61 rfl rfl ?_
      refine x_getr dX8_tick_62 vc_X8 xin8 fb_X8_3 fl_X8_14 xr_X8_3 c1 ep2 ?_
      refine x_iload_n 1 dX8_tick_65 rfl rfl ?_
      obtain ⟨c9, h⟩ := x_ckk h
      obtain ⟨c11, h⟩ := x_ckk h
      obtain ⟨p10, lp10, h⟩ := x_lt h
      have ep10 : gr Y p2 v_1.toNatClampNeg = some p10 := by rw [lp10]; exact c11
      refine x_aald (j := 4) dX8_tick_66 (by decide) c4 (xb_in c9) ep10 ?_
      refine x_iconst (v := 1) dX8_tick_67 rfl ?_
      obtain ⟨c12, h⟩ := x_ckk h
      obtain ⟨c13, h⟩ := x_ckk h
      refine x_iald dX8_tick_68 c12 (xb_in c13) xj_1 ?_
      refine x_istore_n (L' := [(0, .ref p_0), (1, .int v_1), (2, .int (gi N p10 1))]) [1, 2, 0] dX8_tick_69 rfl (by decide) rfl ?_
      refine x_iconst (v := 0) dX8_tick_70 rfl ?_
      refine x_istore_n (L' := [(0, .ref p_0), (1, .int v_1), (2, .int (gi N p10 1)), (3, .int 0)]) [1, 2, 3, 0] dX8_tick_71 rfl (by decide) rfl ?_
      exact T_X8_tick_72 (G := G) ih FU Y q p_0 v_1 (gi N p10 1) 0 k n N h
set_option maxHeartbeats 4000000 in
set_option maxRecDepth 100000 in
theorem T_X8_tick_10 {G : XG} {tb : List ExceptionTableEntry} {Yz : XY} {qz : Nat} {Nz : XN} : ∀ (D9 : Nat) (Y : XY) (q : Nat) (p_0 : Nat) (p_1 : Nat) (v_2 : Int32) (v_3 : Int32) (k : Nat) (n : Nat) (N : XN), f_X8_tick_10 D9 Y q p_0 p_1 v_2 v_3 k n N = some (Yz, qz, Nz) → ExZ G yX8_tick cX8_tick 9 none tb (xR 6 224 832) (xZn G (xR 6 224 832) none Yz Nz) k n 10 [(0, .ref p_0), (1, .ref p_1), (2, .int v_2), (3, .int v_3)] [] Y N := by
  intro D9
  induction D9 with
  | zero => intro Y q p_0 p_1 v_2 v_3 k n N h; exact nomatch (show none = some _ from h)
  | succ D9 ih =>
    intro Y q p_0 p_1 v_2 v_3 k n N h
    rw [f_X8_tick_10] at h
    refine x_iload_n 3 dX8_tick_10 rfl rfl ?_
    refine x_iload_n 2 dX8_tick_11 rfl rfl ?_
    rcases x_if h with ⟨c1, h⟩ | ⟨c1, h⟩
    · refine x_icmp_ge_t (tgt := 50) dX8_tick_12 (by decide) c1 ?_
      refine x_iconst (v := 0) dX8_tick_50 rfl ?_
      refine x_istore_n (L' := [(0, .ref p_0), (1, .int 0)]) [1, 0] dX8_tick_51 rfl (by decide) rfl ?_
      exact T_X8_tick_52 (G := G) FU Y q p_0 0 k n N h
    · refine x_icmp_ge_f (tgt := 50) dX8_tick_12 (by decide) c1 ?_
      refine x_aload_n 1 dX8_tick_15 rfl rfl ?_
      refine x_iload_n 3 dX8_tick_16 rfl rfl ?_
      obtain ⟨c2, h⟩ := x_ckk h
      obtain ⟨c3, h⟩ := x_ckk h
      obtain ⟨c5, h⟩ := x_ckk h
      obtain ⟨p4, lp4, h⟩ := x_lt h
      have ep4 : gr Y p_1 v_3.toNatClampNeg = some p4 := by rw [lp4]; exact c5
      refine x_aald (j := 4) dX8_tick_17 (by decide) c2 (xb_in c3) ep4 ?_
      refine x_astore (L' := [(0, .ref p_0), (1, .ref p_1), (2, .int v_2), (3, .int v_3), (4, .ref p4)]) [1, 2, 3, 4, 0] dX8_tick_18 (by decide) rfl ?_
      refine x_aload 4 dX8_tick_20 rfl ?_
      refine x_iconst (v := 3) dX8_tick_22 rfl ?_
      obtain ⟨c6, h⟩ := x_ckk h
      obtain ⟨c7, h⟩ := x_ckk h
      refine x_iald dX8_tick_23 c6 (xb_in c7) xj_3 ?_
      rcases x_if h with ⟨c8, h⟩ | ⟨c8, h⟩
      · refine x_if_ne_f (tgt := 44) dX8_tick_24 (by decide) c8 ?_
        refine x_aload 4 dX8_tick_27 rfl ?_
        refine x_iconst (v := 1) dX8_tick_29 rfl ?_
        obtain ⟨c9, h⟩ := x_ckk h
        refine x_iald dX8_tick_30 c6 (xb_in c9) xj_1 ?_
        refine x_aload_n 0 dX8_tick_31 rfl rfl ?_
        obtain ⟨c10, h⟩ := x_ckk h
        refine x_geti dX8_tick_32 vc_X8 xin8 fb_X8_0 fl_X8_28 xr_X8_0 c10 ?_
        rcases x_if h with ⟨c11, h⟩ | ⟨c11, h⟩
        · refine x_icmp_ne_f (tgt := 44) dX8_tick_35 (by decide) c11 ?_
          refine x_aload_n 0 dX8_tick_38 rfl rfl ?_
          refine x_aload 4 dX8_tick_39 rfl ?_
          obtain ⟨c12, h⟩ := x_ckk h
          obtain ⟨N14, e13, h⟩ := x_bd1 h
          refine x_nV (b := p_0) (As := [.ref p4]) (ci := 8) (R' := xR 3 0 0) (zz := yX8_raises) dX8_tick_41 ml_X8_70 wi_X8_raises wv_X8_raises wn_X8 wc_X8_raises hp_X8_raises ⟨Nat.le_of_ble_eq_true rfl, Nat.le_of_ble_eq_true rfl⟩ rfl (Nat.le_of_ble_eq_true rfl) c12 vc_X8 c10 (T_X8_raises (G := G) e13) ?_
          refine x_iinc (L' := [(0, .ref p_0), (1, .ref p_1), (2, .int v_2), (3, .int (v_3 + 1))]) 3 [1, 2, 3, 0] dX8_tick_44 rfl rfl (by decide) rfl ?_
          refine x_goto (tgt := 10) dX8_tick_47 (by decide) ?_
          exact ih Y q p_0 p_1 v_2 (v_3 + 1) k n N14 h
        · refine x_icmp_ne_t (tgt := 44) dX8_tick_35 (by decide) c11 ?_
          refine x_iinc (L' := [(0, .ref p_0), (1, .ref p_1), (2, .int v_2), (3, .int (v_3 + 1))]) 3 [1, 2, 3, 0] dX8_tick_44 rfl rfl (by decide) rfl ?_
          refine x_goto (tgt := 10) dX8_tick_47 (by decide) ?_
          exact ih Y q p_0 p_1 v_2 (v_3 + 1) k n N h
      · refine x_if_ne_t (tgt := 44) dX8_tick_24 (by decide) c8 ?_
        refine x_iinc (L' := [(0, .ref p_0), (1, .ref p_1), (2, .int v_2), (3, .int (v_3 + 1))]) 3 [1, 2, 3, 0] dX8_tick_44 rfl rfl (by decide) rfl ?_
        refine x_goto (tgt := 10) dX8_tick_47 (by decide) ?_
        exact ih Y q p_0 p_1 v_2 (v_3 + 1) k n N h
set_option maxHeartbeats 4000000 in
set_option maxRecDepth 100000 in
theorem T_X8_tick {G : XG} {Y : XY} {q : Nat} {a0 : Nat} {N : XN} {Yz : XY} {qz : Nat} {Nz : XN} (h : f_X8_tick Y q a0 N = some (Yz, qz, Nz)) : Cn G yX8_tick cX8_tick 9 none (xR 6 224 832) [.ref a0] none Y N Yz Nz := by
  refine x_entryN (by decide) (Nat.le_of_ble_eq_true rfl) rfl fun tb => ?_
  rw [f_X8_tick] at h
  refine x_aload_n 0 dX8_tick_0 rfl rfl ?_
  obtain ⟨c1, h⟩ := x_ckk h
  obtain ⟨c3, h⟩ := x_ckk h
  obtain ⟨p2, lp2, h⟩ := x_lt h
  have ep2 : gr Y a0 6 = some p2 := by rw [lp2]; exact c3
  refine x_getr dX8_tick_1 vc_X8 xin8 fb_X8_6 fl_X8_24 xr_X8_6 c1 ep2 ?_
  refine x_astore_n (L' := [(0, .ref a0), (1, .ref p2)]) [1, 0] dX8_tick_4 rfl (by decide) rfl ?_
  refine x_aload_n 1 dX8_tick_5 rfl rfl ?_
  obtain ⟨c4, h⟩ := x_ckk h
  refine x_rlen (j := 4) dX8_tick_6 (by decide) c4 rfl ?_
  refine x_istore_n (L' := [(0, .ref a0), (1, .ref p2), (2, .int (Int32.ofNat (kn Y p2)))]) [1, 2, 0] dX8_tick_7 rfl (by decide) rfl ?_
  refine x_iconst (v := 0) dX8_tick_8 rfl ?_
  refine x_istore_n (L' := [(0, .ref a0), (1, .ref p2), (2, .int (Int32.ofNat (kn Y p2))), (3, .int 0)]) [1, 2, 3, 0] dX8_tick_9 rfl (by decide) rfl ?_
  exact T_X8_tick_10 (G := G) FU Y q a0 p2 (Int32.ofNat (kn Y p2)) 0 0 0 N h
