noncomputable def f_X8_tick_528  (K453 : XY → Nat → Nat → Int32 → Nat → Nat → XN → Option (XY × Nat × XN)) (K487 : XY → Nat → Nat → Int32 → Nat → Int32 → Nat → Nat → XN → Option (XY × Nat × XN)) (Y : XY) (q : Nat) (p_0 : Nat) (v_1 : Int32) (p_2 : Nat) (v_3 : Int32) (s0 : Int32) (s1 : Int32) (s2 : Int32) (o3 : Nat) (k : Nat) (n : Nat) (N : XN) : Option (XY × Nat × XN) :=
  ck (kc Y o3 = 18) <|
  ck (k + 3 ≤ 224 ∧ n + 12 ≤ 720) <|
  bd4 (f_X8_pays Y q o3 s2 (s1 + s0) N) fun r3 Y5 q6 N7 =>
  ck (kc Y5 p_0 = 18) <|
  bd (gr Y5 p_0 3) fun p9 =>
  ck (kc Y5 p_2 = 1) <|
  ck (xb v_3 (kn Y5 p_2) = true) <|
  ck (kc Y5 p9 = 8) <|
  ck (xb (gi N7 p_2 v_3.toNatClampNeg) (kn Y5 p9) = true) <|
  bd (gr Y5 p9 (gi N7 p_2 v_3.toNatClampNeg).toNatClampNeg) fun p14 =>
  ck (kc Y5 p14 = 1) <|
  ck (xb 4 (kn Y5 p14) = true) <|
  ck (xb 4 (kn Y5 p14) = true) <|
  lt (si N7 p14 ((4 : Int32).toNatClampNeg) ((gi N7 p14 (4 : Int32).toNatClampNeg) + r3)) fun N18 =>
  lt (si N18 p_0 1 ((gi N18 p_0 1) + r3)) fun N19 =>
  K487 Y5 q6 p_0 v_1 p_2 (v_3 + 1) (k + 3) (n + 12) N19
noncomputable def f_X8_tick_487  (K453 : XY → Nat → Nat → Int32 → Nat → Nat → XN → Option (XY × Nat × XN)) : Nat → XY → Nat → Nat → Int32 → Nat → Int32 → Nat → Nat → XN → Option (XY × Nat × XN)
  | 0, _, _, _, _, _, _, _, _, _ => none
  | D9 + 1, Y, q, p_0, v_1, p_2, v_3, k, n, N =>
    ck (kc Y p_2 = 1) <|
    if (Int32.ofNat (kn Y p_2)) ≤ v_3 then
      K453 Y q p_0 (v_1 + 1) k n N
    else
      ck (xb v_3 (kn Y p_2) = true) <|
      ck (kc Y p_0 = 18) <|
      bd (gr Y p_0 4) fun p5 =>
      ck (kc Y p5 = 8) <|
      ck (xb v_1 (kn Y p5) = true) <|
      bd (gr Y p5 v_1.toNatClampNeg) fun p8 =>
      ck (kc Y p8 = 1) <|
      ck (xb 0 (kn Y p8) = true) <|
      ck (¬ (Int32.ofNat (kn Y p_2)) = 0) <|
      ck (xb v_1 (kn Y p5) = true) <|
      ck (xb 0 (kn Y p8) = true) <|
      ck (¬ (Int32.ofNat (kn Y p_2)) = 0) <|
      if ((gi N p8 (0 : Int32).toNatClampNeg) - (gi N p8 (0 : Int32).toNatClampNeg) / (Int32.ofNat (kn Y p_2)) * (Int32.ofNat (kn Y p_2))) ≤ v_3 then
        f_X8_tick_528 K453 (f_X8_tick_487 K453 D9) Y q p_0 v_1 p_2 v_3 0 ((gi N p8 (0 : Int32).toNatClampNeg) / (Int32.ofNat (kn Y p_2))) (gi N p_2 v_3.toNatClampNeg) p_0 k n N
      else
        f_X8_tick_528 K453 (f_X8_tick_487 K453 D9) Y q p_0 v_1 p_2 v_3 1 ((gi N p8 (0 : Int32).toNatClampNeg) / (Int32.ofNat (kn Y p_2))) (gi N p_2 v_3.toNatClampNeg) p_0 k n N
noncomputable def f_X8_tick_453  : Nat → XY → Nat → Nat → Int32 → Nat → Nat → XN → Option (XY × Nat × XN)
  | 0, _, _, _, _, _, _, _ => none
  | D9 + 1, Y, q, p_0, v_1, k, n, N =>
    ck (kc Y p_0 = 18) <|
    bd (gr Y p_0 4) fun p2 =>
    ck (kc Y p2 = 8) <|
    if (Int32.ofNat (kn Y p2)) ≤ v_1 then
      lt (si N p_0 0 ((gi N p_0 0) + 1)) fun N5 =>
      ck (k ≤ 224 ∧ n ≤ 720) <|
      some (Y, q, N5)
    else
      bd (gr Y p_0 2) fun p7 =>
      ck (kc Y p7 = 1) <|
      ck (xb 3 (kn Y p7) = true) <|
      ck (¬ (gi N p7 (3 : Int32).toNatClampNeg) = 0) <|
      if (((gi N p_0 0) + 1) - ((gi N p_0 0) + 1) / (gi N p7 (3 : Int32).toNatClampNeg) * (gi N p7 (3 : Int32).toNatClampNeg)) = 0 then
        bd (gr Y p_0 5) fun p12 =>
        ck (kc Y p12 = 8) <|
        ck (xb v_1 (kn Y p12) = true) <|
        bd (gr Y p12 v_1.toNatClampNeg) fun p15 =>
        f_X8_tick_487 (f_X8_tick_453 D9) FU Y q p_0 v_1 p15 0 k n N
      else
        lt (si N p_0 0 ((gi N p_0 0) + 1)) fun N16 =>
        ck (k ≤ 224 ∧ n ≤ 720) <|
        some (Y, q, N16)
noncomputable def f_X8_tick_383  (K265 : XY → Nat → Nat → Nat → Int32 → Int32 → Nat → Nat → XN → Option (XY × Nat × XN)) (Y : XY) (q : Nat) (p_0 : Nat) (p_1 : Nat) (v_2 : Int32) (v_3 : Int32) (p_4 : Nat) (v_5 : Int32) (z0 : Int64) (k : Nat) (n : Nat) (N : XN) : Option (XY × Nat × XN) :=
  ck (k ≤ 224 ∧ n ≤ 720) <|
  bd2 (f_J9_min_f86c9 Y 9999 z0 N) fun r2 N4 =>
  bd2 (f_J9_max_f86c9 Y 0 r2 N4) fun r5 N7 =>
  ck (kc Y p_0 = 18) <|
  ck (k + 3 ≤ 224 ∧ n + 12 ≤ 720) <|
  bd4 (f_X8_pays Y q p_0 v_5 (Int64.toInt32 r5) N7) fun r10 Y12 q13 N14 =>
  ck (kc Y12 p_0 = 18) <|
  bd (gr Y12 p_0 3) fun p16 =>
  ck (kc Y12 p16 = 8) <|
  ck (xb v_5 (kn Y12 p16) = true) <|
  bd (gr Y12 p16 v_5.toNatClampNeg) fun p19 =>
  ck (kc Y12 p19 = 1) <|
  ck (xb 3 (kn Y12 p19) = true) <|
  ck (xb 3 (kn Y12 p19) = true) <|
  lt (si N14 p19 ((3 : Int32).toNatClampNeg) ((gi N14 p19 (3 : Int32).toNatClampNeg) + r10)) fun N23 =>
  bd (gr Y12 p_0 4) fun p24 =>
  ck (kc Y12 p_4 = 1) <|
  ck (xb 0 (kn Y12 p_4) = true) <|
  ck (kc Y12 p24 = 8) <|
  ck (xb (gi N23 p_4 (0 : Int32).toNatClampNeg) (kn Y12 p24) = true) <|
  bd (gr Y12 p24 (gi N23 p_4 (0 : Int32).toNatClampNeg).toNatClampNeg) fun p29 =>
  ck (kc Y12 p29 = 1) <|
  ck (xb 2 (kn Y12 p29) = true) <|
  ck (xb 2 (kn Y12 p29) = true) <|
  lt (si N23 p29 ((2 : Int32).toNatClampNeg) ((gi N23 p29 (2 : Int32).toNatClampNeg) + r10)) fun N33 =>
  ck (xb 7 (kn Y12 p_4) = true) <|
  lt (si N33 p_4 ((7 : Int32).toNatClampNeg) (gi N33 p_0 0)) fun N35 =>
  K265 Y12 q13 p_0 p_1 v_2 (v_3 + 1) (k + 3) (n + 12) N35
noncomputable def f_X8_tick_265  : Nat → XY → Nat → Nat → Nat → Int32 → Int32 → Nat → Nat → XN → Option (XY × Nat × XN)
  | 0, _, _, _, _, _, _, _, _, _ => none
  | D9 + 1, Y, q, p_0, p_1, v_2, v_3, k, n, N =>
    if v_2 ≤ v_3 then
      f_X8_tick_453 FU Y q p_0 0 k n N
    else
      ck (kc Y p_1 = 8) <|
      ck (xb v_3 (kn Y p_1) = true) <|
      bd (gr Y p_1 v_3.toNatClampNeg) fun p4 =>
      ck (kc Y p4 = 1) <|
      ck (xb 3 (kn Y p4) = true) <|
      if (gi N p4 (3 : Int32).toNatClampNeg) = 1 then
        ck (xb 4 (kn Y p4) = true) <|
        if (gi N p4 (4 : Int32).toNatClampNeg) < 0 then
          f_X8_tick_265 D9 Y q p_0 p_1 v_2 (v_3 + 1) k n N
        else
          ck (kc Y p_0 = 18) <|
          ck (xb 7 (kn Y p4) = true) <|
          bd (gr Y p_0 2) fun p12 =>
          ck (kc Y p12 = 1) <|
          ck (xb 0 (kn Y p12) = true) <|
          if (gi N p12 (0 : Int32).toNatClampNeg) ≤ ((gi N p_0 0) - (gi N p4 (7 : Int32).toNatClampNeg)) then
            ck (xb 4 (kn Y p4) = true) <|
            lt (gi N p4 (4 : Int32).toNatClampNeg) fun v17 =>
            nl (gr Y p_0 7) (
              ck (xb 5 (kn Y p4) = true) <|
              f_X8_tick_383 (f_X8_tick_265 D9) Y q p_0 p_1 v_2 v_3 p4 v17 (Int32.toInt64 (gi N p4 (5 : Int32).toNatClampNeg)) k n N
              ) fun p18 =>
              ck (kc Y q = 9 ∧ kc Y (q + 1) = 0) <|
              ck (k + 1 ≤ 224 ∧ n + 4 ≤ 720) <|
              lt (yK Y q 3 4) fun Y23 =>
              lt (n0 N q) fun N24 =>
              ck (xb 0 (kn Y23 p4) = true) <|
              ck (xb 0 (kn Y23 q) = true) <|
              lt (sl N24 q ((0 : Int32).toNatClampNeg) (Int32.toInt64 (gi N24 p4 (0 : Int32).toNatClampNeg))) fun N29 =>
              ck (xb 5 (kn Y23 p4) = true) <|
              ck (xb 1 (kn Y23 q) = true) <|
              lt (sl N29 q ((1 : Int32).toNatClampNeg) (Int32.toInt64 (gi N29 p4 (5 : Int32).toNatClampNeg))) fun N32 =>
              bd2 (f_X8_held Y23 p_0 v17 N32) fun r34 N36 =>
              ck (xb 2 (kn Y23 q) = true) <|
              lt (sl N36 q ((2 : Int32).toNatClampNeg) (Int32.toInt64 r34)) fun N38 =>
              ck (xb 7 (kn Y23 p4) = true) <|
              ck (xb 3 (kn Y23 q) = true) <|
              lt (sl N38 q ((3 : Int32).toNatClampNeg) (Int32.toInt64 ((gi N38 p_0 0) - (gi N38 p4 (7 : Int32).toNatClampNeg)))) fun N41 =>
              ck (kc Y23 p18 = 19) <|
              bd2 (f_X9_value 3 Y23 p18 q N41) fun r43 N45 =>
              f_X8_tick_383 (f_X8_tick_265 D9) Y23 (q + 1) p_0 p_1 v_2 v_3 p4 v17 r43 (k + 1) (n + 4) N45
          else
            f_X8_tick_265 D9 Y q p_0 p_1 v_2 (v_3 + 1) k n N
      else
        f_X8_tick_265 D9 Y q p_0 p_1 v_2 (v_3 + 1) k n N
noncomputable def f_X8_tick_72  (K52 : XY → Nat → Nat → Int32 → Nat → Nat → XN → Option (XY × Nat × XN)) : Nat → XY → Nat → Nat → Int32 → Int32 → Int32 → Nat → Nat → XN → Option (XY × Nat × XN)
  | 0, _, _, _, _, _, _, _, _, _ => none
  | D9 + 1, Y, q, p_0, v_1, v_2, v_3, k, n, N =>
    ck (kc Y p_0 = 18) <|
    bd (gr Y p_0 6) fun p2 =>
    ck (kc Y p2 = 8) <|
    if (Int32.ofNat (kn Y p2)) ≤ v_3 then
      K52 Y q p_0 (v_1 + 1) k n N
    else
      if v_2 ≤ 0 then
        K52 Y q p_0 (v_1 + 1) k n N
      else
        ck (xb v_3 (kn Y p2) = true) <|
        bd (gr Y p2 v_3.toNatClampNeg) fun p7 =>
        ck (kc Y p7 = 1) <|
        ck (xb 3 (kn Y p7) = true) <|
        if (gi N p7 (3 : Int32).toNatClampNeg) = 1 then
          ck (xb 4 (kn Y p7) = true) <|
          if (gi N p7 (4 : Int32).toNatClampNeg) = v_1 then
            ck (xb 5 (kn Y p7) = true) <|
            ck (k ≤ 224 ∧ n ≤ 720) <|
            bd2 (f_J9_min_7cf53 Y v_2 (gi N p7 (5 : Int32).toNatClampNeg) N) fun r15 N17 =>
            ck (xb 5 (kn Y p7) = true) <|
            ck (xb 5 (kn Y p7) = true) <|
            lt (si N17 p7 ((5 : Int32).toNatClampNeg) ((gi N17 p7 (5 : Int32).toNatClampNeg) - r15)) fun N20 =>
            ck (xb 7 (kn Y p7) = true) <|
            lt (si N20 p7 ((7 : Int32).toNatClampNeg) (gi N20 p_0 0)) fun N22 =>
            ck (xb 5 (kn Y p7) = true) <|
            if (gi N22 p7 (5 : Int32).toNatClampNeg) ≤ 0 then
              bd (gr Y p_0 4) fun p25 =>
              ck (xb 0 (kn Y p7) = true) <|
              ck (kc Y p25 = 8) <|
              ck (xb (gi N22 p7 (0 : Int32).toNatClampNeg) (kn Y p25) = true) <|
              bd (gr Y p25 (gi N22 p7 (0 : Int32).toNatClampNeg).toNatClampNeg) fun p29 =>
              ck (kc Y p29 = 1) <|
              ck (xb 2 (kn Y p29) = true) <|
              bd (gr Y p_0 2) fun p32 =>
              ck (kc Y p32 = 1) <|
              ck (xb 4 (kn Y p32) = true) <|
              ck (xb 2 (kn Y p7) = true) <|
              bd2 (f_J9_min_7cf53 Y (gi N22 p29 (2 : Int32).toNatClampNeg) ((gi N22 p32 (4 : Int32).toNatClampNeg) * (gi N22 p7 (2 : Int32).toNatClampNeg)) N22) fun r36 N38 =>
              ck (xb 0 (kn Y p7) = true) <|
              ck (xb (gi N38 p7 (0 : Int32).toNatClampNeg) (kn Y p25) = true) <|
              bd (gr Y p25 (gi N38 p7 (0 : Int32).toNatClampNeg).toNatClampNeg) fun p41 =>
              ck (kc Y p41 = 1) <|
              ck (xb 2 (kn Y p41) = true) <|
              ck (xb 2 (kn Y p41) = true) <|
              lt (si N38 p41 ((2 : Int32).toNatClampNeg) ((gi N38 p41 (2 : Int32).toNatClampNeg) - r36)) fun N45 =>
              bd (gr Y p_0 3) fun p46 =>
              ck (kc Y p46 = 8) <|
              ck (xb v_1 (kn Y p46) = true) <|
              bd (gr Y p46 v_1.toNatClampNeg) fun p49 =>
              ck (kc Y p49 = 1) <|
              ck (xb 0 (kn Y p49) = true) <|
              ck (xb 0 (kn Y p49) = true) <|
              lt (si N45 p49 ((0 : Int32).toNatClampNeg) ((gi N45 p49 (0 : Int32).toNatClampNeg) + r36)) fun N53 =>
              ck (xb v_1 (kn Y p46) = true) <|
              ck (xb 5 (kn Y p49) = true) <|
              ck (xb 5 (kn Y p49) = true) <|
              lt (si N53 p49 ((5 : Int32).toNatClampNeg) ((gi N53 p49 (5 : Int32).toNatClampNeg) + r36)) fun N57 =>
              ck (xb 3 (kn Y p7) = true) <|
              lt (si N57 p7 ((3 : Int32).toNatClampNeg) 2) fun N59 =>
              ck (xb 4 (kn Y p7) = true) <|
              lt (si N59 p7 ((4 : Int32).toNatClampNeg) (-1)) fun N61 =>
              ck (xb 6 (kn Y p7) = true) <|
              lt (si N61 p7 ((6 : Int32).toNatClampNeg) (gi N61 p_0 0)) fun N63 =>
              f_X8_tick_72 K52 D9 Y q p_0 v_1 (v_2 - r15) (v_3 + 1) k n N63
            else
              f_X8_tick_72 K52 D9 Y q p_0 v_1 (v_2 - r15) (v_3 + 1) k n N22
          else
            f_X8_tick_72 K52 D9 Y q p_0 v_1 v_2 (v_3 + 1) k n N
        else
          f_X8_tick_72 K52 D9 Y q p_0 v_1 v_2 (v_3 + 1) k n N
noncomputable def f_X8_tick_52  : Nat → XY → Nat → Nat → Int32 → Nat → Nat → XN → Option (XY × Nat × XN)
  | 0, _, _, _, _, _, _, _ => none
  | D9 + 1, Y, q, p_0, v_1, k, n, N =>
    ck (kc Y p_0 = 18) <|
    bd (gr Y p_0 3) fun p2 =>
    ck (kc Y p2 = 8) <|
    if (Int32.ofNat (kn Y p2)) ≤ v_1 then
      bd (gr Y p_0 6) fun p5 =>
      ck (kc Y p5 = 8) <|
      f_X8_tick_265 FU Y q p_0 p5 (Int32.ofNat (kn Y p5)) 0 k n N
    else
      ck (xb v_1 (kn Y p2) = true) <|
      bd (gr Y p2 v_1.toNatClampNeg) fun p8 =>
      ck (kc Y p8 = 1) <|
      ck (xb 1 (kn Y p8) = true) <|
      lt (gi N p8 (1 : Int32).toNatClampNeg) fun v11 =>
      f_X8_tick_72 (f_X8_tick_52 D9) FU Y q p_0 v_1 v11 0 k n N
noncomputable def f_X8_tick_10  : Nat → XY → Nat → Nat → Nat → Int32 → Int32 → Nat → Nat → XN → Option (XY × Nat × XN)
  | 0, _, _, _, _, _, _, _, _, _ => none
  | D9 + 1, Y, q, p_0, p_1, v_2, v_3, k, n, N =>
    if v_2 ≤ v_3 then
      f_X8_tick_52 FU Y q p_0 0 k n N
    else
      ck (kc Y p_1 = 8) <|
      ck (xb v_3 (kn Y p_1) = true) <|
      bd (gr Y p_1 v_3.toNatClampNeg) fun p4 =>
      ck (kc Y p4 = 1) <|
      ck (xb 3 (kn Y p4) = true) <|
      if (gi N p4 (3 : Int32).toNatClampNeg) = 0 then
        ck (xb 1 (kn Y p4) = true) <|
        ck (kc Y p_0 = 18) <|
        if (gi N p4 (1 : Int32).toNatClampNeg) = (gi N p_0 0) then
          ck (k ≤ 224 ∧ n ≤ 720) <|
          bd (f_X8_raises Y p_0 p4 N) fun N13 =>
          f_X8_tick_10 D9 Y q p_0 p_1 v_2 (v_3 + 1) k n N13
        else
          f_X8_tick_10 D9 Y q p_0 p_1 v_2 (v_3 + 1) k n N
      else
        f_X8_tick_10 D9 Y q p_0 p_1 v_2 (v_3 + 1) k n N
noncomputable def f_X8_tick (Y : XY) (q : Nat) (a0 : Nat) (N : XN) : Option (XY × Nat × XN) :=
  ck (kc Y a0 = 18) <|
  bd (gr Y a0 6) fun p2 =>
  ck (kc Y p2 = 8) <|
  f_X8_tick_10 FU Y q a0 p2 (Int32.ofNat (kn Y p2)) 0 0 0 N
set_option maxHeartbeats 4000000 in
set_option maxRecDepth 100000 in
theorem T_X8_tick_528 {G : XG} {tb : List ExceptionTableEntry} {Yz : XY} {qz : Nat} {Nz : XN} {K453 : XY → Nat → Nat → Int32 → Nat → Nat → XN → Option (XY × Nat × XN)} (hK453 : ∀ (Y : XY) (q : Nat) (p_0 : Nat) (v_1 : Int32) (k : Nat) (n : Nat) (N : XN), K453 Y q p_0 v_1 k n N = some (Yz, qz, Nz) → ExZ G yX8_tick cX8_tick 9 none tb (xR 6 224 720) (xZn G (xR 6 224 720) none Yz Nz) k n 453 [(0, .ref p_0), (1, .int v_1)] [] Y N) {K487 : XY → Nat → Nat → Int32 → Nat → Int32 → Nat → Nat → XN → Option (XY × Nat × XN)} (hK487 : ∀ (Y : XY) (q : Nat) (p_0 : Nat) (v_1 : Int32) (p_2 : Nat) (v_3 : Int32) (k : Nat) (n : Nat) (N : XN), K487 Y q p_0 v_1 p_2 v_3 k n N = some (Yz, qz, Nz) → ExZ G yX8_tick cX8_tick 9 none tb (xR 6 224 720) (xZn G (xR 6 224 720) none Yz Nz) k n 487 [(0, .ref p_0), (1, .int v_1), (2, .ref p_2), (3, .int v_3)] [] Y N) (Y : XY) (q : Nat) (p_0 : Nat) (v_1 : Int32) (p_2 : Nat) (v_3 : Int32) (s0 : Int32) (s1 : Int32) (s2 : Int32) (o3 : Nat) (k : Nat) (n : Nat) (N : XN) (h : f_X8_tick_528 K453 K487 Y q p_0 v_1 p_2 v_3 s0 s1 s2 o3 k n N = some (Yz, qz, Nz)) : ExZ G yX8_tick cX8_tick 9 none tb (xR 6 224 720) (xZn G (xR 6 224 720) none Yz Nz) k n 528 [(0, .ref p_0), (1, .int v_1), (2, .ref p_2), (3, .int v_3)] [.int s0, .int s1, .int s2, .ref o3] Y N := by
  rw [f_X8_tick_528] at h
  refine x_iadd dX8_tick_528 ?_
  obtain ⟨c1, h⟩ := x_ckk h
  obtain ⟨c2, h⟩ := x_ckk h
  obtain ⟨r3, Y5, q6, N7, e4, h⟩ := x_bd4 h
  refine x_nV (b := o3) (As := [.int s2, .int (s1 + s0)]) (ci := 8) (R' := xR 3 3 12) (zz := yX8_pays) dX8_tick_529 ml_X8_87 wi_X8_pays wv_X8_pays wn_X8 wc_X8_pays hp_X8_pays ⟨Nat.le_of_ble_eq_true rfl, Nat.le_of_ble_eq_true rfl⟩ rfl (Nat.le_of_ble_eq_true rfl) c2 vc_X8 c1 (T_X8_pays (G := G) e4) ?_
  refine x_istore (L' := [(0, .ref p_0), (1, .int v_1), (2, .ref p_2), (3, .int v_3), (4, .int r3)]) [1, 2, 3, 4, 0] dX8_tick_532 (by decide) rfl ?_
  refine x_aload_n 0 dX8_tick_534 rfl rfl ?_
  obtain ⟨c8, h⟩ := x_ckk h
  obtain ⟨p9, ep9, h⟩ := x_bd1 h
  refine x_getr dX8_tick_535 vc_X8 xin8 fb_X8_3 fl_X8_14 xr_X8_3 c8 ep9 ?_
  refine x_aload_n 2 dX8_tick_538 rfl rfl ?_
  refine x_iload_n 3 dX8_tick_539 rfl rfl ?_
  obtain ⟨c10, h⟩ := x_ckk h
  obtain ⟨c11, h⟩ := x_ckk h
  refine x_iald dX8_tick_540 c10 (xb_in c11) rfl ?_
  obtain ⟨c12, h⟩ := x_ckk h
  obtain ⟨c13, h⟩ := x_ckk h
  obtain ⟨p14, ep14, h⟩ := x_bd1 h
  refine x_aald (j := 4) dX8_tick_541 (by decide) c12 (xb_in c13) ep14 ?_
  refine x_iconst (v := 4) dX8_tick_542 rfl ?_
  refine x_dup2 dX8_tick_543 rfl rfl ?_
  obtain ⟨c15, h⟩ := x_ckk h
  obtain ⟨c16, h⟩ := x_ckk h
  refine x_iald dX8_tick_544 c15 (xb_in c16) rfl ?_
  refine x_iload 4 dX8_tick_545 rfl ?_
  refine x_iadd dX8_tick_547 ?_
  obtain ⟨c17, h⟩ := x_ckk h
  refine x_iast dX8_tick_548 c15 (xb_in c17) rfl ?_
  obtain ⟨N18, eN18, h⟩ := x_lt h
  refine x_nmM eN18 ?_
  refine x_aload_n 0 dX8_tick_549 rfl rfl ?_
  refine x_dup dX8_tick_550 rfl ?_
  refine x_geti dX8_tick_551 vc_X8 xin8 fb_X8_1 fl_X8_32 xr_X8_1 c8 ?_
  refine x_iload 4 dX8_tick_554 rfl ?_
  refine x_iadd dX8_tick_556 ?_
  refine x_puti dX8_tick_557 vc_X8 xin8 tyX8_ok nmX8 fb_X8_1 fl_X8_32 ff_X8_1 xr_X8_1 (nf_X8_1 _) (ft_X8_1 _) c8 ?_
  obtain ⟨N19, eN19, h⟩ := x_lt h
  refine x_nmM eN19 ?_
  refine x_iinc (L' := [(0, .ref p_0), (1, .int v_1), (2, .ref p_2), (3, .int (v_3 + 1))]) 3 [1, 2, 3, 0] dX8_tick_560 rfl rfl (by decide) rfl ?_
  refine x_goto (tgt := 487) dX8_tick_563 (by decide) ?_
  exact hK487 Y5 q6 p_0 v_1 p_2 (v_3 + 1) (k + 3) (n + 12) N19 h
set_option maxHeartbeats 4000000 in
set_option maxRecDepth 100000 in
theorem T_X8_tick_487 {G : XG} {tb : List ExceptionTableEntry} {Yz : XY} {qz : Nat} {Nz : XN} {K453 : XY → Nat → Nat → Int32 → Nat → Nat → XN → Option (XY × Nat × XN)} (hK453 : ∀ (Y : XY) (q : Nat) (p_0 : Nat) (v_1 : Int32) (k : Nat) (n : Nat) (N : XN), K453 Y q p_0 v_1 k n N = some (Yz, qz, Nz) → ExZ G yX8_tick cX8_tick 9 none tb (xR 6 224 720) (xZn G (xR 6 224 720) none Yz Nz) k n 453 [(0, .ref p_0), (1, .int v_1)] [] Y N) : ∀ (D9 : Nat) (Y : XY) (q : Nat) (p_0 : Nat) (v_1 : Int32) (p_2 : Nat) (v_3 : Int32) (k : Nat) (n : Nat) (N : XN), f_X8_tick_487 K453 D9 Y q p_0 v_1 p_2 v_3 k n N = some (Yz, qz, Nz) → ExZ G yX8_tick cX8_tick 9 none tb (xR 6 224 720) (xZn G (xR 6 224 720) none Yz Nz) k n 487 [(0, .ref p_0), (1, .int v_1), (2, .ref p_2), (3, .int v_3)] [] Y N := by
  intro D9
  induction D9 with
  | zero => intro Y q p_0 v_1 p_2 v_3 k n N h; exact nomatch (show none = some _ from h)
  | succ D9 ih =>
    intro Y q p_0 v_1 p_2 v_3 k n N h
    rw [f_X8_tick_487] at h
    refine x_iload_n 3 dX8_tick_487 rfl rfl ?_
    refine x_aload_n 2 dX8_tick_488 rfl rfl ?_
    obtain ⟨c1, h⟩ := x_ckk h
    refine x_ilen dX8_tick_489 c1 rfl ?_
    rcases x_if h with ⟨c2, h⟩ | ⟨c2, h⟩
    · refine x_icmp_ge_t (tgt := 566) dX8_tick_490 (by decide) c2 ?_
      refine x_iinc (L' := [(0, .ref p_0), (1, .int (v_1 + 1))]) 1 [1, 0] dX8_tick_566 rfl rfl (by decide) rfl ?_
      refine x_goto (tgt := 453) dX8_tick_569 (by decide) ?_
      exact hK453 Y q p_0 (v_1 + 1) k n N h
    · refine x_icmp_ge_f (tgt := 566) dX8_tick_490 (by decide) c2 ?_
      refine x_aload_n 0 dX8_tick_493 rfl rfl ?_
      refine x_aload_n 2 dX8_tick_494 rfl rfl ?_
      refine x_iload_n 3 dX8_tick_495 rfl rfl ?_
      obtain ⟨c3, h⟩ := x_ckk h
      refine x_iald dX8_tick_496 c1 (xb_in c3) rfl ?_
      refine x_aload_n 0 dX8_tick_497 rfl rfl ?_
      obtain ⟨c4, h⟩ := x_ckk h
      obtain ⟨p5, ep5, h⟩ := x_bd1 h
      refine x_getr dX8_tick_498 vc_X8 xin8 fb_X8_4 fl_X8_18 xr_X8_4 c4 ep5 ?_
      refine x_iload_n 1 dX8_tick_501 rfl rfl ?_
      obtain ⟨c6, h⟩ := x_ckk h
      obtain ⟨c7, h⟩ := x_ckk h
      obtain ⟨p8, ep8, h⟩ := x_bd1 h
      refine x_aald (j := 4) dX8_tick_502 (by decide) c6 (xb_in c7) ep8 ?_
      refine x_iconst (v := 0) dX8_tick_503 rfl ?_
      obtain ⟨c9, h⟩ := x_ckk h
      obtain ⟨c10, h⟩ := x_ckk h
      refine x_iald dX8_tick_504 c9 (xb_in c10) rfl ?_
      refine x_aload_n 2 dX8_tick_505 rfl rfl ?_
      refine x_ilen dX8_tick_506 c1 rfl ?_
      obtain ⟨c11, h⟩ := x_ckk h
      refine x_idiv dX8_tick_507 c11 ?_
      refine x_iload_n 3 dX8_tick_508 rfl rfl ?_
      refine x_aload_n 0 dX8_tick_509 rfl rfl ?_
      refine x_getr dX8_tick_510 vc_X8 xin8 fb_X8_4 fl_X8_18 xr_X8_4 c4 ep5 ?_
      refine x_iload_n 1 dX8_tick_513 rfl rfl ?_
      obtain ⟨c12, h⟩ := x_ckk h
      refine x_aald (j := 4) dX8_tick_514 (by decide) c6 (xb_in c12) ep8 ?_
      refine x_iconst (v := 0) dX8_tick_515 rfl ?_
      obtain ⟨c13, h⟩ := x_ckk h
      refine x_iald dX8_tick_516 c9 (xb_in c13) rfl ?_
      refine x_aload_n 2 dX8_tick_517 rfl rfl ?_
      refine x_ilen dX8_tick_518 c1 rfl ?_
      obtain ⟨c14, h⟩ := x_ckk h
      refine x_irem dX8_tick_519 c14 ?_
      rcases x_if h with ⟨c15, h⟩ | ⟨c15, h⟩
      · refine x_icmp_ge_t (tgt := 527) dX8_tick_520 (by decide) c15 ?_
        refine x_iconst (v := 0) dX8_tick_527 rfl ?_
        exact T_X8_tick_528 (G := G) hK453 ih Y q p_0 v_1 p_2 v_3 0 ((gi N p8 (0 : Int32).toNatClampNeg) / (Int32.ofNat (kn Y p_2))) (gi N p_2 v_3.toNatClampNeg) p_0 k n N h
      · refine x_icmp_ge_f (tgt := 527) dX8_tick_520 (by decide) c15 ?_
        refine x_iconst (v := 1) dX8_tick_523 rfl ?_
        refine x_goto (tgt := 528) dX8_tick_524 (by decide) ?_
        exact T_X8_tick_528 (G := G) hK453 ih Y q p_0 v_1 p_2 v_3 1 ((gi N p8 (0 : Int32).toNatClampNeg) / (Int32.ofNat (kn Y p_2))) (gi N p_2 v_3.toNatClampNeg) p_0 k n N h
set_option maxHeartbeats 4000000 in
set_option maxRecDepth 100000 in
theorem T_X8_tick_453 {G : XG} {tb : List ExceptionTableEntry} {Yz : XY} {qz : Nat} {Nz : XN} : ∀ (D9 : Nat) (Y : XY) (q : Nat) (p_0 : Nat) (v_1 : Int32) (k : Nat) (n : Nat) (N : XN), f_X8_tick_453 D9 Y q p_0 v_1 k n N = some (Yz, qz, Nz) → ExZ G yX8_tick cX8_tick 9 none tb (xR 6 224 720) (xZn G (xR 6 224 720) none Yz Nz) k n 453 [(0, .ref p_0), (1, .int v_1)] [] Y N := by
  intro D9
  induction D9 with
  | zero => intro Y q p_0 v_1 k n N h; exact nomatch (show none = some _ from h)
  | succ D9 ih =>
    intro Y q p_0 v_1 k n N h
    rw [f_X8_tick_453] at h
    refine x_iload_n 1 dX8_tick_453 rfl rfl ?_
    refine x_aload_n 0 dX8_tick_454 rfl rfl ?_
    obtain ⟨c1, h⟩ := x_ckk h
    obtain ⟨p2, ep2, h⟩ := x_bd1 h
    refine x_getr dX8_tick_455 vc_X8 xin8 fb_X8_4 fl_X8_18 xr_X8_4 c1 ep2 ?_
    obtain ⟨c3, h⟩ := x_ckk h
    refine x_rlen (j := 4) dX8_tick_458 (by decide) c3 rfl ?_
    rcases x_if h with ⟨c4, h⟩ | ⟨c4, h⟩
    · refine x_icmp_ge_t (tgt := 572) dX8_tick_459 (by decide) c4 ?_
      refine x_aload_n 0 dX8_tick_572 rfl rfl ?_
      refine x_dup dX8_tick_573 rfl ?_
      refine x_geti dX8_tick_574 vc_X8 xin8 fb_X8_0 fl_X8_28 xr_X8_0 c1 ?_
      refine x_iconst (v := 1) dX8_tick_577 rfl ?_
      refine x_iadd dX8_tick_578 ?_
      refine x_puti dX8_tick_579 vc_X8 xin8 tyX8_ok nmX8 fb_X8_0 fl_X8_28 ff_X8_0 xr_X8_0 (nf_X8_0 _) (ft_X8_0 _) c1 ?_
      obtain ⟨N5, eN5, h⟩ := x_lt h
      refine x_nmM eN5 ?_
      obtain ⟨c6, h⟩ := x_ckk h
      refine x_wide (k' := 224) (n' := 720) c6 ?_
      obtain ⟨rfl, h8⟩ := Prod.mk.inj (x_so h)
      obtain ⟨rfl, rfl⟩ := Prod.mk.inj h8
      exact x_nvret dX8_tick_582 rfl rfl rfl
    · refine x_icmp_ge_f (tgt := 572) dX8_tick_459 (by decide) c4 ?_
      refine x_aload_n 0 dX8_tick_462 rfl rfl ?_
      refine x_geti dX8_tick_463 vc_X8 xin8 fb_X8_0 fl_X8_28 xr_X8_0 c1 ?_
      refine x_iconst (v := 1) dX8_tick_466 rfl ?_
      refine x_iadd dX8_tick_467 ?_
      refine x_aload_n 0 dX8_tick_468 rfl rfl ?_
      obtain ⟨p7, ep7, h⟩ := x_bd1 h
      refine x_getr dX8_tick_469 vc_X8 xin8 fb_X8_2 fl_X8_7 xr_X8_2 c1 ep7 ?_
      refine x_iconst (v := 3) dX8_tick_472 rfl ?_
      obtain ⟨c8, h⟩ := x_ckk h
      obtain ⟨c9, h⟩ := x_ckk h
      refine x_iald dX8_tick_473 c8 (xb_in c9) rfl ?_
      obtain ⟨c10, h⟩ := x_ckk h
      refine x_irem dX8_tick_474 c10 ?_
      rcases x_if h with ⟨c11, h⟩ | ⟨c11, h⟩
      · refine x_if_ne_f (tgt := 572) dX8_tick_475 (by decide) c11 ?_
        refine x_aload_n 0 dX8_tick_478 rfl rfl ?_
        obtain ⟨p12, ep12, h⟩ := x_bd1 h
        refine x_getr dX8_tick_479 vc_X8 xin8 fb_X8_5 fl_X8_21 xr_X8_5 c1 ep12 ?_
        refine x_iload_n 1 dX8_tick_482 rfl rfl ?_
        obtain ⟨c13, h⟩ := x_ckk h
        obtain ⟨c14, h⟩ := x_ckk h
        obtain ⟨p15, ep15, h⟩ := x_bd1 h
        refine x_aald (j := 4) dX8_tick_483 (by decide) c13 (xb_in c14) ep15 ?_
        refine x_astore_n (L' := [(0, .ref p_0), (1, .int v_1), (2, .ref p15)]) [1, 2, 0] dX8_tick_484 rfl (by decide) rfl ?_
        refine x_iconst (v := 0) dX8_tick_485 rfl ?_
        refine x_istore_n (L' := [(0, .ref p_0), (1, .int v_1), (2, .ref p15), (3, .int 0)]) [1, 2, 3, 0] dX8_tick_486 rfl (by decide) rfl ?_
        exact T_X8_tick_487 (G := G) ih FU Y q p_0 v_1 p15 0 k n N h
      · refine x_if_ne_t (tgt := 572) dX8_tick_475 (by decide) c11 ?_
        refine x_aload_n 0 dX8_tick_572 rfl rfl ?_
        refine x_dup dX8_tick_573 rfl ?_
        refine x_geti dX8_tick_574 vc_X8 xin8 fb_X8_0 fl_X8_28 xr_X8_0 c1 ?_
        refine x_iconst (v := 1) dX8_tick_577 rfl ?_
        refine x_iadd dX8_tick_578 ?_
        refine x_puti dX8_tick_579 vc_X8 xin8 tyX8_ok nmX8 fb_X8_0 fl_X8_28 ff_X8_0 xr_X8_0 (nf_X8_0 _) (ft_X8_0 _) c1 ?_
        obtain ⟨N16, eN16, h⟩ := x_lt h
        refine x_nmM eN16 ?_
        obtain ⟨c17, h⟩ := x_ckk h
        refine x_wide (k' := 224) (n' := 720) c17 ?_
        obtain ⟨rfl, h8⟩ := Prod.mk.inj (x_so h)
        obtain ⟨rfl, rfl⟩ := Prod.mk.inj h8
        exact x_nvret dX8_tick_582 rfl rfl rfl
set_option maxHeartbeats 4000000 in
set_option maxRecDepth 100000 in
theorem T_X8_tick_383 {G : XG} {tb : List ExceptionTableEntry} {Yz : XY} {qz : Nat} {Nz : XN} {K265 : XY → Nat → Nat → Nat → Int32 → Int32 → Nat → Nat → XN → Option (XY × Nat × XN)} (hK265 : ∀ (Y : XY) (q : Nat) (p_0 : Nat) (p_1 : Nat) (v_2 : Int32) (v_3 : Int32) (k : Nat) (n : Nat) (N : XN), K265 Y q p_0 p_1 v_2 v_3 k n N = some (Yz, qz, Nz) → ExZ G yX8_tick cX8_tick 9 none tb (xR 6 224 720) (xZn G (xR 6 224 720) none Yz Nz) k n 265 [(0, .ref p_0), (1, .ref p_1), (2, .int v_2), (3, .int v_3)] [] Y N) (Y : XY) (q : Nat) (p_0 : Nat) (p_1 : Nat) (v_2 : Int32) (v_3 : Int32) (p_4 : Nat) (v_5 : Int32) (z0 : Int64) (k : Nat) (n : Nat) (N : XN) (h : f_X8_tick_383 K265 Y q p_0 p_1 v_2 v_3 p_4 v_5 z0 k n N = some (Yz, qz, Nz)) : ExZ G yX8_tick cX8_tick 9 none tb (xR 6 224 720) (xZn G (xR 6 224 720) none Yz Nz) k n 383 [(0, .ref p_0), (1, .ref p_1), (2, .int v_2), (3, .int v_3), (4, .ref p_4), (5, .int v_5)] [.long z0] Y N := by
  rw [f_X8_tick_383] at h
  refine x_lstore (L' := [(0, .ref p_0), (1, .ref p_1), (2, .int v_2), (3, .int v_3), (4, .ref p_4), (5, .int v_5), (6, .long z0)]) [1, 2, 3, 4, 5, 6, 0] dX8_tick_383 (by decide) rfl ?_
  refine x_aload_n 0 dX8_tick_385 rfl rfl ?_
  refine x_iload 5 dX8_tick_386 rfl ?_
  refine x_lconst (v := 0) dX8_tick_388 rfl ?_
  refine x_ldc2 (v := 9999) dX8_tick_389 kl_X8_79 ?_
  refine x_lload 6 dX8_tick_392 rfl ?_
  obtain ⟨c1, h⟩ := x_ckk h
  obtain ⟨r2, N4, e3, h⟩ := x_bd2 h
  refine x_nS (As := [.long 9999, .long z0]) (R' := xR 1 0 0) (zz := yJ9_min_f86c9) dX8_tick_394 ml_X8_81 wt_J9_min_f86c9 wn_J9 wc_J9_min_f86c9 hp_J9_min_f86c9 ⟨Nat.le_of_ble_eq_true rfl, Nat.le_of_ble_eq_true rfl⟩ rfl (Nat.le_of_ble_eq_true rfl) c1 (T_J9_min_f86c9 (G := G) e3) ?_
  obtain ⟨r5, N7, e6, h⟩ := x_bd2 h
  refine x_nS (As := [.long 0, .long r2]) (R' := xR 1 0 0) (zz := yJ9_max_f86c9) dX8_tick_397 ml_X8_84 wt_J9_max_f86c9 wn_J9 wc_J9_max_f86c9 hp_J9_max_f86c9 ⟨Nat.le_of_ble_eq_true rfl, Nat.le_of_ble_eq_true rfl⟩ rfl (Nat.le_of_ble_eq_true rfl) c1 (T_J9_max_f86c9 (G := G) e6) ?_
  refine x_l2i dX8_tick_400 ?_
  obtain ⟨c8, h⟩ := x_ckk h
  obtain ⟨c9, h⟩ := x_ckk h
  obtain ⟨r10, Y12, q13, N14, e11, h⟩ := x_bd4 h
  refine x_nV (b := p_0) (As := [.int v_5, .int (Int64.toInt32 r5)]) (ci := 8) (R' := xR 3 3 12) (zz := yX8_pays) dX8_tick_401 ml_X8_87 wi_X8_pays wv_X8_pays wn_X8 wc_X8_pays hp_X8_pays ⟨Nat.le_of_ble_eq_true rfl, Nat.le_of_ble_eq_true rfl⟩ rfl (Nat.le_of_ble_eq_true rfl) c9 vc_X8 c8 (T_X8_pays (G := G) e11) ?_
  refine x_istore (L' := [(0, .ref p_0), (1, .ref p_1), (2, .int v_2), (3, .int v_3), (4, .ref p_4), (5, .int v_5), (8, .int r10)]) [1, 2, 3, 4, 5, 6, 0] dX8_tick_404 (by decide) rfl ?_
  refine x_aload_n 0 dX8_tick_406 rfl rfl ?_
  obtain ⟨c15, h⟩ := x_ckk h
  obtain ⟨p16, ep16, h⟩ := x_bd1 h
  refine x_getr dX8_tick_407 vc_X8 xin8 fb_X8_3 fl_X8_14 xr_X8_3 c15 ep16 ?_
  refine x_iload 5 dX8_tick_410 rfl ?_
  obtain ⟨c17, h⟩ := x_ckk h
  obtain ⟨c18, h⟩ := x_ckk h
  obtain ⟨p19, ep19, h⟩ := x_bd1 h
  refine x_aald (j := 4) dX8_tick_412 (by decide) c17 (xb_in c18) ep19 ?_
  refine x_iconst (v := 3) dX8_tick_413 rfl ?_
  refine x_dup2 dX8_tick_414 rfl rfl ?_
  obtain ⟨c20, h⟩ := x_ckk h
  obtain ⟨c21, h⟩ := x_ckk h
  refine x_iald dX8_tick_415 c20 (xb_in c21) rfl ?_
  refine x_iload 6 dX8_tick_416 rfl ?_
  refine x_iadd dX8_tick_418 ?_
  obtain ⟨c22, h⟩ := x_ckk h
  refine x_iast dX8_tick_419 c20 (xb_in c22) rfl ?_
  obtain ⟨N23, eN23, h⟩ := x_lt h
  refine x_nmM eN23 ?_
  refine x_aload_n 0 dX8_tick_420 rfl rfl ?_
  obtain ⟨p24, ep24, h⟩ := x_bd1 h
  refine x_getr dX8_tick_421 vc_X8 xin8 fb_X8_4 fl_X8_18 xr_X8_4 c15 ep24 ?_
  refine x_aload 4 dX8_tick_424 rfl ?_
  refine x_iconst (v := 0) dX8_tick_426 rfl ?_
  obtain ⟨c25, h⟩ := x_ckk h
  obtain ⟨c26, h⟩ := x_ckk h
  refine x_iald dX8_tick_427 c25 (xb_in c26) rfl ?_
  obtain ⟨c27, h⟩ := x_ckk h
  obtain ⟨c28, h⟩ := x_ckk h
  obtain ⟨p29, ep29, h⟩ := x_bd1 h
  refine x_aald (j := 4) dX8_tick_428 (by decide) c27 (xb_in c28) ep29 ?_
  refine x_iconst (v := 2) dX8_tick_429 rfl ?_
  refine x_dup2 dX8_tick_430 rfl rfl ?_
  obtain ⟨c30, h⟩ := x_ckk h
  obtain ⟨c31, h⟩ := x_ckk h
  refine x_iald dX8_tick_431 c30 (xb_in c31) rfl ?_
  refine x_iload 6 dX8_tick_432 rfl ?_
  refine x_iadd dX8_tick_434 ?_
  obtain ⟨c32, h⟩ := x_ckk h
  refine x_iast dX8_tick_435 c30 (xb_in c32) rfl ?_
  obtain ⟨N33, eN33, h⟩ := x_lt h
  refine x_nmM eN33 ?_
  refine x_aload 4 dX8_tick_436 rfl ?_
  refine x_bipush (v := 7) dX8_tick_438 rfl ?_
  refine x_aload_n 0 dX8_tick_440 rfl rfl ?_
  refine x_geti dX8_tick_441 vc_X8 xin8 fb_X8_0 fl_X8_28 xr_X8_0 c15 ?_
  obtain ⟨c34, h⟩ := x_ckk h
  refine x_iast dX8_tick_444 c25 (xb_in c34) rfl ?_
  obtain ⟨N35, eN35, h⟩ := x_lt h
  refine x_nmM eN35 ?_
  refine x_iinc (L' := [(0, .ref p_0), (1, .ref p_1), (2, .int v_2), (3, .int (v_3 + 1))]) 3 [1, 2, 3, 0] dX8_tick_445 rfl rfl (by decide) rfl ?_
  refine x_goto (tgt := 265) dX8_tick_448 (by decide) ?_
  exact hK265 Y12 q13 p_0 p_1 v_2 (v_3 + 1) (k + 3) (n + 12) N35 h
set_option maxHeartbeats 4000000 in
set_option maxRecDepth 100000 in
theorem T_X8_tick_265 {G : XG} {tb : List ExceptionTableEntry} {Yz : XY} {qz : Nat} {Nz : XN} : ∀ (D9 : Nat) (Y : XY) (q : Nat) (p_0 : Nat) (p_1 : Nat) (v_2 : Int32) (v_3 : Int32) (k : Nat) (n : Nat) (N : XN), f_X8_tick_265 D9 Y q p_0 p_1 v_2 v_3 k n N = some (Yz, qz, Nz) → ExZ G yX8_tick cX8_tick 9 none tb (xR 6 224 720) (xZn G (xR 6 224 720) none Yz Nz) k n 265 [(0, .ref p_0), (1, .ref p_1), (2, .int v_2), (3, .int v_3)] [] Y N := by
  intro D9
  induction D9 with
  | zero => intro Y q p_0 p_1 v_2 v_3 k n N h; exact nomatch (show none = some _ from h)
  | succ D9 ih =>
    intro Y q p_0 p_1 v_2 v_3 k n N h
    rw [f_X8_tick_265] at h
    refine x_iload_n 3 dX8_tick_265 rfl rfl ?_
    refine x_iload_n 2 dX8_tick_266 rfl rfl ?_
    rcases x_if h with ⟨c1, h⟩ | ⟨c1, h⟩
    · refine x_icmp_ge_t (tgt := 451) dX8_tick_267 (by decide) c1 ?_
      refine x_iconst (v := 0) dX8_tick_451 rfl ?_
      refine x_istore_n (L' := [(0, .ref p_0), (1, .int 0)]) [1, 0] dX8_tick_452 rfl (by decide) rfl ?_
      exact T_X8_tick_453 (G := G) FU Y q p_0 0 k n N h
    · refine x_icmp_ge_f (tgt := 451) dX8_tick_267 (by decide) c1 ?_
      refine x_aload_n 1 dX8_tick_270 rfl rfl ?_
      refine x_iload_n 3 dX8_tick_271 rfl rfl ?_
      obtain ⟨c2, h⟩ := x_ckk h
      obtain ⟨c3, h⟩ := x_ckk h
      obtain ⟨p4, ep4, h⟩ := x_bd1 h
      refine x_aald (j := 4) dX8_tick_272 (by decide) c2 (xb_in c3) ep4 ?_
      refine x_astore (L' := [(0, .ref p_0), (1, .ref p_1), (2, .int v_2), (3, .int v_3), (4, .ref p4)]) [1, 2, 3, 4, 0] dX8_tick_273 (by decide) rfl ?_
      refine x_aload 4 dX8_tick_275 rfl ?_
      refine x_iconst (v := 3) dX8_tick_277 rfl ?_
      obtain ⟨c5, h⟩ := x_ckk h
      obtain ⟨c6, h⟩ := x_ckk h
      refine x_iald dX8_tick_278 c5 (xb_in c6) rfl ?_
      refine x_iconst (v := 1) dX8_tick_279 rfl ?_
      rcases x_if h with ⟨c7, h⟩ | ⟨c7, h⟩
      · refine x_icmp_ne_f (tgt := 445) dX8_tick_280 (by decide) c7 ?_
        refine x_aload 4 dX8_tick_283 rfl ?_
        refine x_iconst (v := 4) dX8_tick_285 rfl ?_
        obtain ⟨c8, h⟩ := x_ckk h
        refine x_iald dX8_tick_286 c5 (xb_in c8) rfl ?_
        rcases x_if h with ⟨c9, h⟩ | ⟨c9, h⟩
        · refine x_if_lt_t (tgt := 445) dX8_tick_287 (by decide) c9 ?_
          refine x_iinc (L' := [(0, .ref p_0), (1, .ref p_1), (2, .int v_2), (3, .int (v_3 + 1))]) 3 [1, 2, 3, 0] dX8_tick_445 rfl rfl (by decide) rfl ?_
          refine x_goto (tgt := 265) dX8_tick_448 (by decide) ?_
          exact ih Y q p_0 p_1 v_2 (v_3 + 1) k n N h
        · refine x_if_lt_f (tgt := 445) dX8_tick_287 (by decide) c9 ?_
          refine x_aload_n 0 dX8_tick_290 rfl rfl ?_
          obtain ⟨c10, h⟩ := x_ckk h
          refine x_geti dX8_tick_291 vc_X8 xin8 fb_X8_0 fl_X8_28 xr_X8_0 c10 ?_
          refine x_aload 4 dX8_tick_294 rfl ?_
          refine x_bipush (v := 7) dX8_tick_296 rfl ?_
          obtain ⟨c11, h⟩ := x_ckk h
          refine x_iald dX8_tick_298 c5 (xb_in c11) rfl ?_
          refine x_isub dX8_tick_299 ?_
          refine x_aload_n 0 dX8_tick_300 rfl rfl ?_
          obtain ⟨p12, ep12, h⟩ := x_bd1 h
          refine x_getr dX8_tick_301 vc_X8 xin8 fb_X8_2 fl_X8_7 xr_X8_2 c10 ep12 ?_
          refine x_iconst (v := 0) dX8_tick_304 rfl ?_
          obtain ⟨c13, h⟩ := x_ckk h
          obtain ⟨c14, h⟩ := x_ckk h
          refine x_iald dX8_tick_305 c13 (xb_in c14) rfl ?_
          rcases x_if h with ⟨c15, h⟩ | ⟨c15, h⟩
          · refine x_icmp_ge_t (tgt := 312) dX8_tick_306 (by decide) c15 ?_
            refine x_aload 4 dX8_tick_312 rfl ?_
            refine x_iconst (v := 4) dX8_tick_314 rfl ?_
            obtain ⟨c16, h⟩ := x_ckk h
            refine x_iald dX8_tick_315 c5 (xb_in c16) rfl ?_
            obtain ⟨v17, ev17, h⟩ := x_lt h
            refine x_nmi ev17 ?_
            refine x_istore (L' := [(0, .ref p_0), (1, .ref p_1), (2, .int v_2), (3, .int v_3), (4, .ref p4), (5, .int v17)]) [1, 2, 3, 4, 5, 0] dX8_tick_316 (by decide) rfl ?_
            refine x_aload_n 0 dX8_tick_318 rfl rfl ?_
            refine x_getq dX8_tick_319 vc_X8 xin8 fb_X8_7 fl_X8_41 xr_X8_7 c10 ?_
            rcases x_nl h with ⟨e19, h⟩ | ⟨p18, e19, h⟩
            · refine x_ifnn_f dX8_tick_322 e19 ?_
              refine x_aload 4 dX8_tick_325 rfl ?_
              refine x_iconst (v := 5) dX8_tick_327 rfl ?_
              obtain ⟨c20, h⟩ := x_ckk h
              refine x_iald dX8_tick_328 c5 (xb_in c20) rfl ?_
              refine x_i2l dX8_tick_329 ?_
              refine x_goto (tgt := 383) dX8_tick_330 (by decide) ?_
              exact T_X8_tick_383 (G := G) ih Y q p_0 p_1 v_2 v_3 p4 v17 (Int32.toInt64 (gi N p4 (5 : Int32).toNatClampNeg)) k n N h
            · refine x_ifnn_t (tgt := 333) dX8_tick_322 (by decide) e19 ?_
              refine x_aload_n 0 dX8_tick_333 rfl rfl ?_
              refine x_getr dX8_tick_334 vc_X8 xin8 fb_X8_7 fl_X8_41 xr_X8_7 c10 e19 ?_
              refine x_iconst (v := 4) dX8_tick_337 rfl ?_
              obtain ⟨c21, h⟩ := x_ckk h
              obtain ⟨c22, h⟩ := x_ckk h
              refine x_newP (q := q) (M := 4) (kd := 3) dX8_tick_338 rfl ac9_long (by decide) rfl (by decide) (Or.inr (Or.inr ⟨rfl, rfl, rfl⟩)) c21.1 c22 ?_
              obtain ⟨Y23, eY23, h⟩ := x_lt h
              refine x_nmY eY23 ?_
              obtain ⟨N24, eN24, h⟩ := x_lt h
              refine x_nmM eN24 ?_
              have k25 : kc Y23 q = 3 := by rw [eY23]; exact kcq rfl
              refine x_dup dX8_tick_340 rfl ?_
              refine x_iconst (v := 0) dX8_tick_341 rfl ?_
              refine x_aload 4 dX8_tick_342 rfl ?_
              refine x_iconst (v := 0) dX8_tick_344 rfl ?_
              have k26 : kc Y23 p4 = 1 := by rw [eY23]; exact kc_yK c21.1 c21.2 (by decide) (by decide) c5
              obtain ⟨c27, h⟩ := x_ckk h
              refine x_iald dX8_tick_345 k26 (xb_in c27) rfl ?_
              refine x_i2l dX8_tick_346 ?_
              obtain ⟨c28, h⟩ := x_ckk h
              refine x_last dX8_tick_347 k25 (xb_in c28) rfl ?_
              obtain ⟨N29, eN29, h⟩ := x_lt h
              refine x_nmM eN29 ?_
              refine x_dup dX8_tick_348 rfl ?_
              refine x_iconst (v := 1) dX8_tick_349 rfl ?_
              refine x_aload 4 dX8_tick_350 rfl ?_
              refine x_iconst (v := 5) dX8_tick_352 rfl ?_
              obtain ⟨c30, h⟩ := x_ckk h
              refine x_iald dX8_tick_353 k26 (xb_in c30) rfl ?_
              refine x_i2l dX8_tick_354 ?_
              obtain ⟨c31, h⟩ := x_ckk h
              refine x_last dX8_tick_355 k25 (xb_in c31) rfl ?_
              obtain ⟨N32, eN32, h⟩ := x_lt h
              refine x_nmM eN32 ?_
              refine x_dup dX8_tick_356 rfl ?_
              refine x_iconst (v := 2) dX8_tick_357 rfl ?_
              refine x_aload_n 0 dX8_tick_358 rfl rfl ?_
              refine x_iload 5 dX8_tick_359 rfl ?_
              have k33 : kc Y23 p_0 = 18 := by rw [eY23]; exact kc_yK c21.1 c21.2 (by decide) (by decide) c10
              obtain ⟨r34, N36, e35, h⟩ := x_bd2 h
              refine x_nV (b := p_0) (As := [.int v17]) (ci := 8) (R' := xR 1 0 0) (zz := yX8_held) dX8_tick_361 ml_X8_45 wi_X8_held wv_X8_held wn_X8 wc_X8_held hp_X8_held ⟨Nat.le_of_ble_eq_true rfl, Nat.le_of_ble_eq_true rfl⟩ rfl (Nat.le_of_ble_eq_true rfl) c22 vc_X8 k33 (T_X8_held (G := G) e35) ?_
              refine x_i2l dX8_tick_364 ?_
              obtain ⟨c37, h⟩ := x_ckk h
              refine x_last dX8_tick_365 k25 (xb_in c37) rfl ?_
              obtain ⟨N38, eN38, h⟩ := x_lt h
              refine x_nmM eN38 ?_
              refine x_dup dX8_tick_366 rfl ?_
              refine x_iconst (v := 3) dX8_tick_367 rfl ?_
              refine x_aload_n 0 dX8_tick_368 rfl rfl ?_
              refine x_geti dX8_tick_369 vc_X8 xin8 fb_X8_0 fl_X8_28 xr_X8_0 k33 ?_
              refine x_aload 4 dX8_tick_372 rfl ?_
              refine x_bipush (v := 7) dX8_tick_374 rfl ?_
              obtain ⟨c39, h⟩ := x_ckk h
              refine x_iald dX8_tick_376 k26 (xb_in c39) rfl ?_
              refine x_isub dX8_tick_377 ?_
              refine x_i2l dX8_tick_378 ?_
              obtain ⟨c40, h⟩ := x_ckk h
              refine x_last dX8_tick_379 k25 (xb_in c40) rfl ?_
              obtain ⟨N41, eN41, h⟩ := x_lt h
              refine x_nmM eN41 ?_
              obtain ⟨c42, h⟩ := x_ckk h
              obtain ⟨r43, N45, e44, h⟩ := x_bd2 h
              refine x_nV (b := p18) (As := [.ref q]) (ci := 9) (R' := xR 5 0 0) (zz := yX9_value) dX8_tick_380 ml_X8_73 wi_X9_value wv_X9_value wn_X9 wc_X9_value hp_X9_value ⟨Nat.le_of_ble_eq_true rfl, Nat.le_of_ble_eq_true rfl⟩ rfl (Nat.le_of_ble_eq_true rfl) c22 vc_X9 c42 (T_X9_value_at (G := G) e44) ?_
              exact T_X8_tick_383 (G := G) ih Y23 (q + 1) p_0 p_1 v_2 v_3 p4 v17 r43 (k + 1) (n + 4) N45 h
          · refine x_icmp_ge_f (tgt := 312) dX8_tick_306 (by decide) c15 ?_
            refine x_goto (tgt := 445) dX8_tick_309 (by decide) ?_
            refine x_iinc (L' := [(0, .ref p_0), (1, .ref p_1), (2, .int v_2), (3, .int (v_3 + 1))]) 3 [1, 2, 3, 0] dX8_tick_445 rfl rfl (by decide) rfl ?_
            refine x_goto (tgt := 265) dX8_tick_448 (by decide) ?_
            exact ih Y q p_0 p_1 v_2 (v_3 + 1) k n N h
      · refine x_icmp_ne_t (tgt := 445) dX8_tick_280 (by decide) c7 ?_
        refine x_iinc (L' := [(0, .ref p_0), (1, .ref p_1), (2, .int v_2), (3, .int (v_3 + 1))]) 3 [1, 2, 3, 0] dX8_tick_445 rfl rfl (by decide) rfl ?_
        refine x_goto (tgt := 265) dX8_tick_448 (by decide) ?_
        exact ih Y q p_0 p_1 v_2 (v_3 + 1) k n N h
set_option maxHeartbeats 4000000 in
set_option maxRecDepth 100000 in
theorem T_X8_tick_72 {G : XG} {tb : List ExceptionTableEntry} {Yz : XY} {qz : Nat} {Nz : XN} {K52 : XY → Nat → Nat → Int32 → Nat → Nat → XN → Option (XY × Nat × XN)} (hK52 : ∀ (Y : XY) (q : Nat) (p_0 : Nat) (v_1 : Int32) (k : Nat) (n : Nat) (N : XN), K52 Y q p_0 v_1 k n N = some (Yz, qz, Nz) → ExZ G yX8_tick cX8_tick 9 none tb (xR 6 224 720) (xZn G (xR 6 224 720) none Yz Nz) k n 52 [(0, .ref p_0), (1, .int v_1)] [] Y N) : ∀ (D9 : Nat) (Y : XY) (q : Nat) (p_0 : Nat) (v_1 : Int32) (v_2 : Int32) (v_3 : Int32) (k : Nat) (n : Nat) (N : XN), f_X8_tick_72 K52 D9 Y q p_0 v_1 v_2 v_3 k n N = some (Yz, qz, Nz) → ExZ G yX8_tick cX8_tick 9 none tb (xR 6 224 720) (xZn G (xR 6 224 720) none Yz Nz) k n 72 [(0, .ref p_0), (1, .int v_1), (2, .int v_2), (3, .int v_3)] [] Y N := by
  intro D9
  induction D9 with
  | zero => intro Y q p_0 v_1 v_2 v_3 k n N h; exact nomatch (show none = some _ from h)
  | succ D9 ih =>
    intro Y q p_0 v_1 v_2 v_3 k n N h
    rw [f_X8_tick_72] at h
    refine x_iload_n 3 dX8_tick_72 rfl rfl ?_
    refine x_aload_n 0 dX8_tick_73 rfl rfl ?_
    obtain ⟨c1, h⟩ := x_ckk h
    obtain ⟨p2, ep2, h⟩ := x_bd1 h
    refine x_getr dX8_tick_74 vc_X8 xin8 fb_X8_6 fl_X8_24 xr_X8_6 c1 ep2 ?_
    obtain ⟨c3, h⟩ := x_ckk h
    refine x_rlen (j := 4) dX8_tick_77 (by decide) c3 rfl ?_
    rcases x_if h with ⟨c4, h⟩ | ⟨c4, h⟩
    · refine x_icmp_ge_t (tgt := 249) dX8_tick_78 (by decide) c4 ?_
      refine x_iinc (L' := [(0, .ref p_0), (1, .int (v_1 + 1))]) 1 [1, 0] dX8_tick_249 rfl rfl (by decide) rfl ?_
      refine x_goto (tgt := 52) dX8_tick_252 (by decide) ?_
      exact hK52 Y q p_0 (v_1 + 1) k n N h
    · refine x_icmp_ge_f (tgt := 249) dX8_tick_78 (by decide) c4 ?_
      refine x_iload_n 2 dX8_tick_81 rfl rfl ?_
      rcases x_if h with ⟨c5, h⟩ | ⟨c5, h⟩
      · refine x_if_le_t (tgt := 249) dX8_tick_82 (by decide) c5 ?_
        refine x_iinc (L' := [(0, .ref p_0), (1, .int (v_1 + 1))]) 1 [1, 0] dX8_tick_249 rfl rfl (by decide) rfl ?_
        refine x_goto (tgt := 52) dX8_tick_252 (by decide) ?_
        exact hK52 Y q p_0 (v_1 + 1) k n N h
      · refine x_if_le_f (tgt := 249) dX8_tick_82 (by decide) c5 ?_
        refine x_aload_n 0 dX8_tick_85 rfl rfl ?_
        refine x_getr dX8_tick_86 vc_X8 xin8 fb_X8_6 fl_X8_24 xr_X8_6 c1 ep2 ?_
        refine x_iload_n 3 dX8_tick_89 rfl rfl ?_
        obtain ⟨c6, h⟩ := x_ckk h
        obtain ⟨p7, ep7, h⟩ := x_bd1 h
        refine x_aald (j := 4) dX8_tick_90 (by decide) c3 (xb_in c6) ep7 ?_
        refine x_astore (L' := [(0, .ref p_0), (1, .int v_1), (2, .int v_2), (3, .int v_3), (4, .ref p7)]) [1, 2, 3, 4, 0] dX8_tick_91 (by decide) rfl ?_
        refine x_aload 4 dX8_tick_93 rfl ?_
        refine x_iconst (v := 3) dX8_tick_95 rfl ?_
        obtain ⟨c8, h⟩ := x_ckk h
        obtain ⟨c9, h⟩ := x_ckk h
        refine x_iald dX8_tick_96 c8 (xb_in c9) rfl ?_
        refine x_iconst (v := 1) dX8_tick_97 rfl ?_
        rcases x_if h with ⟨c10, h⟩ | ⟨c10, h⟩
        · refine x_icmp_ne_f (tgt := 243) dX8_tick_98 (by decide) c10 ?_
          refine x_aload 4 dX8_tick_101 rfl ?_
          refine x_iconst (v := 4) dX8_tick_103 rfl ?_
          obtain ⟨c11, h⟩ := x_ckk h
          refine x_iald dX8_tick_104 c8 (xb_in c11) rfl ?_
          refine x_iload_n 1 dX8_tick_105 rfl rfl ?_
          rcases x_if h with ⟨c12, h⟩ | ⟨c12, h⟩
          · refine x_icmp_eq_t (tgt := 112) dX8_tick_106 (by decide) c12 ?_
            refine x_iload_n 2 dX8_tick_112 rfl rfl ?_
            refine x_aload 4 dX8_tick_113 rfl ?_
            refine x_iconst (v := 5) dX8_tick_115 rfl ?_
            obtain ⟨c13, h⟩ := x_ckk h
            refine x_iald dX8_tick_116 c8 (xb_in c13) rfl ?_
            obtain ⟨c14, h⟩ := x_ckk h
            obtain ⟨r15, N17, e16, h⟩ := x_bd2 h
            refine x_nS (As := [.int v_2, .int (gi N p7 (5 : Int32).toNatClampNeg)]) (R' := xR 1 0 0) (zz := yJ9_min_7cf53) dX8_tick_117 ml_X8_52 wt_J9_min_7cf53 wn_J9 wc_J9_min_7cf53 hp_J9_min_7cf53 ⟨Nat.le_of_ble_eq_true rfl, Nat.le_of_ble_eq_true rfl⟩ rfl (Nat.le_of_ble_eq_true rfl) c14 (T_J9_min_7cf53 (G := G) e16) ?_
            refine x_istore (L' := [(0, .ref p_0), (1, .int v_1), (2, .int v_2), (3, .int v_3), (4, .ref p7), (5, .int r15)]) [1, 2, 3, 4, 5, 0] dX8_tick_120 (by decide) rfl ?_
            refine x_iload_n 2 dX8_tick_122 rfl rfl ?_
            refine x_iload 5 dX8_tick_123 rfl ?_
            refine x_isub dX8_tick_125 ?_
            refine x_istore_n (L' := [(0, .ref p_0), (1, .int v_1), (2, .int (v_2 - r15)), (3, .int v_3), (4, .ref p7), (5, .int r15)]) [1, 2, 0, 3, 4, 5] dX8_tick_126 rfl (by decide) rfl ?_
            refine x_aload 4 dX8_tick_127 rfl ?_
            refine x_iconst (v := 5) dX8_tick_129 rfl ?_
            refine x_dup2 dX8_tick_130 rfl rfl ?_
            obtain ⟨c18, h⟩ := x_ckk h
            refine x_iald dX8_tick_131 c8 (xb_in c18) rfl ?_
            refine x_iload 5 dX8_tick_132 rfl ?_
            refine x_isub dX8_tick_134 ?_
            obtain ⟨c19, h⟩ := x_ckk h
            refine x_iast dX8_tick_135 c8 (xb_in c19) rfl ?_
            obtain ⟨N20, eN20, h⟩ := x_lt h
            refine x_nmM eN20 ?_
            refine x_aload 4 dX8_tick_136 rfl ?_
            refine x_bipush (v := 7) dX8_tick_138 rfl ?_
            refine x_aload_n 0 dX8_tick_140 rfl rfl ?_
            refine x_geti dX8_tick_141 vc_X8 xin8 fb_X8_0 fl_X8_28 xr_X8_0 c1 ?_
            obtain ⟨c21, h⟩ := x_ckk h
            refine x_iast dX8_tick_144 c8 (xb_in c21) rfl ?_
            obtain ⟨N22, eN22, h⟩ := x_lt h
            refine x_nmM eN22 ?_
            refine x_aload 4 dX8_tick_145 rfl ?_
            refine x_iconst (v := 5) dX8_tick_147 rfl ?_
            obtain ⟨c23, h⟩ := x_ckk h
            refine x_iald dX8_tick_148 c8 (xb_in c23) rfl ?_
            rcases x_if h with ⟨c24, h⟩ | ⟨c24, h⟩
            · refine x_if_le_t (tgt := 155) dX8_tick_149 (by decide) c24 ?_
              refine x_aload_n 0 dX8_tick_155 rfl rfl ?_
              obtain ⟨p25, ep25, h⟩ := x_bd1 h
              refine x_getr dX8_tick_156 vc_X8 xin8 fb_X8_4 fl_X8_18 xr_X8_4 c1 ep25 ?_
              refine x_aload 4 dX8_tick_159 rfl ?_
              refine x_iconst (v := 0) dX8_tick_161 rfl ?_
              obtain ⟨c26, h⟩ := x_ckk h
              refine x_iald dX8_tick_162 c8 (xb_in c26) rfl ?_
              obtain ⟨c27, h⟩ := x_ckk h
              obtain ⟨c28, h⟩ := x_ckk h
              obtain ⟨p29, ep29, h⟩ := x_bd1 h
              refine x_aald (j := 4) dX8_tick_163 (by decide) c27 (xb_in c28) ep29 ?_
              refine x_iconst (v := 2) dX8_tick_164 rfl ?_
              obtain ⟨c30, h⟩ := x_ckk h
              obtain ⟨c31, h⟩ := x_ckk h
              refine x_iald dX8_tick_165 c30 (xb_in c31) rfl ?_
              refine x_aload_n 0 dX8_tick_166 rfl rfl ?_
              obtain ⟨p32, ep32, h⟩ := x_bd1 h
              refine x_getr dX8_tick_167 vc_X8 xin8 fb_X8_2 fl_X8_7 xr_X8_2 c1 ep32 ?_
              refine x_iconst (v := 4) dX8_tick_170 rfl ?_
              obtain ⟨c33, h⟩ := x_ckk h
              obtain ⟨c34, h⟩ := x_ckk h
              refine x_iald dX8_tick_171 c33 (xb_in c34) rfl ?_
              refine x_aload 4 dX8_tick_172 rfl ?_
              refine x_iconst (v := 2) dX8_tick_174 rfl ?_
              obtain ⟨c35, h⟩ := x_ckk h
              refine x_iald dX8_tick_175 c8 (xb_in c35) rfl ?_
              refine x_imul dX8_tick_176 ?_
              obtain ⟨r36, N38, e37, h⟩ := x_bd2 h
              refine x_nS (As := [.int (gi N22 p29 (2 : Int32).toNatClampNeg), .int ((gi N22 p32 (4 : Int32).toNatClampNeg) * (gi N22 p7 (2 : Int32).toNatClampNeg))]) (R' := xR 1 0 0) (zz := yJ9_min_7cf53) dX8_tick_177 ml_X8_52 wt_J9_min_7cf53 wn_J9 wc_J9_min_7cf53 hp_J9_min_7cf53 ⟨Nat.le_of_ble_eq_true rfl, Nat.le_of_ble_eq_true rfl⟩ rfl (Nat.le_of_ble_eq_true rfl) c14 (T_J9_min_7cf53 (G := G) e37) ?_
              refine x_istore (L' := [(0, .ref p_0), (1, .int v_1), (2, .int (v_2 - r15)), (3, .int v_3), (4, .ref p7), (6, .int r36)]) [1, 2, 3, 4, 5, 0] dX8_tick_180 (by decide) rfl ?_
              refine x_aload_n 0 dX8_tick_182 rfl rfl ?_
              refine x_getr dX8_tick_183 vc_X8 xin8 fb_X8_4 fl_X8_18 xr_X8_4 c1 ep25 ?_
              refine x_aload 4 dX8_tick_186 rfl ?_
              refine x_iconst (v := 0) dX8_tick_188 rfl ?_
              obtain ⟨c39, h⟩ := x_ckk h
              refine x_iald dX8_tick_189 c8 (xb_in c39) rfl ?_
              obtain ⟨c40, h⟩ := x_ckk h
              obtain ⟨p41, ep41, h⟩ := x_bd1 h
              refine x_aald (j := 4) dX8_tick_190 (by decide) c27 (xb_in c40) ep41 ?_
              refine x_iconst (v := 2) dX8_tick_191 rfl ?_
              refine x_dup2 dX8_tick_192 rfl rfl ?_
              obtain ⟨c42, h⟩ := x_ckk h
              obtain ⟨c43, h⟩ := x_ckk h
              refine x_iald dX8_tick_193 c42 (xb_in c43) rfl ?_
              refine x_iload 5 dX8_tick_194 rfl ?_
              refine x_isub dX8_tick_196 ?_
              obtain ⟨c44, h⟩ := x_ckk h
              refine x_iast dX8_tick_197 c42 (xb_in c44) rfl ?_
              obtain ⟨N45, eN45, h⟩ := x_lt h
              refine x_nmM eN45 ?_
              refine x_aload_n 0 dX8_tick_198 rfl rfl ?_
              obtain ⟨p46, ep46, h⟩ := x_bd1 h
              refine x_getr dX8_tick_199 vc_X8 xin8 fb_X8_3 fl_X8_14 xr_X8_3 c1 ep46 ?_
              refine x_iload_n 1 dX8_tick_202 rfl rfl ?_
              obtain ⟨c47, h⟩ := x_ckk h
              obtain ⟨c48, h⟩ := x_ckk h
              obtain ⟨p49, ep49, h⟩ := x_bd1 h
              refine x_aald (j := 4) dX8_tick_203 (by decide) c47 (xb_in c48) ep49 ?_
              refine x_iconst (v := 0) dX8_tick_204 rfl ?_
              refine x_dup2 dX8_tick_205 rfl rfl ?_
              obtain ⟨c50, h⟩ := x_ckk h
              obtain ⟨c51, h⟩ := x_ckk h
              refine x_iald dX8_tick_206 c50 (xb_in c51) rfl ?_
              refine x_iload 5 dX8_tick_207 rfl ?_
              refine x_iadd dX8_tick_209 ?_
              obtain ⟨c52, h⟩ := x_ckk h
              refine x_iast dX8_tick_210 c50 (xb_in c52) rfl ?_
              obtain ⟨N53, eN53, h⟩ := x_lt h
              refine x_nmM eN53 ?_
              refine x_aload_n 0 dX8_tick_211 rfl rfl ?_
              refine x_getr dX8_tick_212 vc_X8 xin8 fb_X8_3 fl_X8_14 xr_X8_3 c1 ep46 ?_
              refine x_iload_n 1 dX8_tick_215 rfl rfl ?_
              obtain ⟨c54, h⟩ := x_ckk h
              refine x_aald (j := 4) dX8_tick_216 (by decide) c47 (xb_in c54) ep49 ?_
              refine x_iconst (v := 5) dX8_tick_217 rfl ?_
              refine x_dup2 dX8_tick_218 rfl rfl ?_
              obtain ⟨c55, h⟩ := x_ckk h
              refine x_iald dX8_tick_219 c50 (xb_in c55) rfl ?_
              refine x_iload 5 dX8_tick_220 rfl ?_
              refine x_iadd dX8_tick_222 ?_
              obtain ⟨c56, h⟩ := x_ckk h
              refine x_iast dX8_tick_223 c50 (xb_in c56) rfl ?_
              obtain ⟨N57, eN57, h⟩ := x_lt h
              refine x_nmM eN57 ?_
              refine x_aload 4 dX8_tick_224 rfl ?_
              refine x_iconst (v := 3) dX8_tick_226 rfl ?_
              refine x_iconst (v := 2) dX8_tick_227 rfl ?_
              obtain ⟨c58, h⟩ := x_ckk h
              refine x_iast dX8_tick_228 c8 (xb_in c58) rfl ?_
              obtain ⟨N59, eN59, h⟩ := x_lt h
              refine x_nmM eN59 ?_
              refine x_aload 4 dX8_tick_229 rfl ?_
              refine x_iconst (v := 4) dX8_tick_231 rfl ?_
              refine x_iconst (v := (-1)) dX8_tick_232 rfl ?_
              obtain ⟨c60, h⟩ := x_ckk h
              refine x_iast dX8_tick_233 c8 (xb_in c60) rfl ?_
              obtain ⟨N61, eN61, h⟩ := x_lt h
              refine x_nmM eN61 ?_
              refine x_aload 4 dX8_tick_234 rfl ?_
              refine x_bipush (v := 6) dX8_tick_236 rfl ?_
              refine x_aload_n 0 dX8_tick_238 rfl rfl ?_
              refine x_geti dX8_tick_239 vc_X8 xin8 fb_X8_0 fl_X8_28 xr_X8_0 c1 ?_
              obtain ⟨c62, h⟩ := x_ckk h
              refine x_iast dX8_tick_242 c8 (xb_in c62) rfl ?_
              obtain ⟨N63, eN63, h⟩ := x_lt h
              refine x_nmM eN63 ?_
              refine x_iinc (L' := [(0, .ref p_0), (1, .int v_1), (2, .int (v_2 - r15)), (3, .int (v_3 + 1))]) 3 [1, 2, 3, 0] dX8_tick_243 rfl rfl (by decide) rfl ?_
              refine x_goto (tgt := 72) dX8_tick_246 (by decide) ?_
              exact ih Y q p_0 v_1 (v_2 - r15) (v_3 + 1) k n N63 h
            · refine x_if_le_f (tgt := 155) dX8_tick_149 (by decide) c24 ?_
              refine x_goto (tgt := 243) dX8_tick_152 (by decide) ?_
              refine x_iinc (L' := [(0, .ref p_0), (1, .int v_1), (2, .int (v_2 - r15)), (3, .int (v_3 + 1))]) 3 [1, 2, 3, 0] dX8_tick_243 rfl rfl (by decide) rfl ?_
              refine x_goto (tgt := 72) dX8_tick_246 (by decide) ?_
              exact ih Y q p_0 v_1 (v_2 - r15) (v_3 + 1) k n N22 h
          · refine x_icmp_eq_f (tgt := 112) dX8_tick_106 (by decide) c12 ?_
            refine x_goto (tgt := 243) dX8_tick_109 (by decide) ?_
            refine x_iinc (L' := [(0, .ref p_0), (1, .int v_1), (2, .int v_2), (3, .int (v_3 + 1))]) 3 [1, 2, 3, 0] dX8_tick_243 rfl rfl (by decide) rfl ?_
            refine x_goto (tgt := 72) dX8_tick_246 (by decide) ?_
            exact ih Y q p_0 v_1 v_2 (v_3 + 1) k n N h
        · refine x_icmp_ne_t (tgt := 243) dX8_tick_98 (by decide) c10 ?_
          refine x_iinc (L' := [(0, .ref p_0), (1, .int v_1), (2, .int v_2), (3, .int (v_3 + 1))]) 3 [1, 2, 3, 0] dX8_tick_243 rfl rfl (by decide) rfl ?_
          refine x_goto (tgt := 72) dX8_tick_246 (by decide) ?_
          exact ih Y q p_0 v_1 v_2 (v_3 + 1) k n N h
set_option maxHeartbeats 4000000 in
set_option maxRecDepth 100000 in
theorem T_X8_tick_52 {G : XG} {tb : List ExceptionTableEntry} {Yz : XY} {qz : Nat} {Nz : XN} : ∀ (D9 : Nat) (Y : XY) (q : Nat) (p_0 : Nat) (v_1 : Int32) (k : Nat) (n : Nat) (N : XN), f_X8_tick_52 D9 Y q p_0 v_1 k n N = some (Yz, qz, Nz) → ExZ G yX8_tick cX8_tick 9 none tb (xR 6 224 720) (xZn G (xR 6 224 720) none Yz Nz) k n 52 [(0, .ref p_0), (1, .int v_1)] [] Y N := by
  intro D9
  induction D9 with
  | zero => intro Y q p_0 v_1 k n N h; exact nomatch (show none = some _ from h)
  | succ D9 ih =>
    intro Y q p_0 v_1 k n N h
    rw [f_X8_tick_52] at h
    refine x_iload_n 1 dX8_tick_52 rfl rfl ?_
    refine x_aload_n 0 dX8_tick_53 rfl rfl ?_
    obtain ⟨c1, h⟩ := x_ckk h
    obtain ⟨p2, ep2, h⟩ := x_bd1 h
    refine x_getr dX8_tick_54 vc_X8 xin8 fb_X8_3 fl_X8_14 xr_X8_3 c1 ep2 ?_
    obtain ⟨c3, h⟩ := x_ckk h
    refine x_rlen (j := 4) dX8_tick_57 (by decide) c3 rfl ?_
    rcases x_if h with ⟨c4, h⟩ | ⟨c4, h⟩
    · refine x_icmp_ge_t (tgt := 255) dX8_tick_58 (by decide) c4 ?_
      refine x_aload_n 0 dX8_tick_255 rfl rfl ?_
      obtain ⟨p5, ep5, h⟩ := x_bd1 h
      refine x_getr dX8_tick_256 vc_X8 xin8 fb_X8_6 fl_X8_24 xr_X8_6 c1 ep5 ?_
      refine x_astore_n (L' := [(0, .ref p_0), (1, .ref p5)]) [1, 0] dX8_tick_259 rfl (by decide) rfl ?_
      refine x_aload_n 1 dX8_tick_260 rfl rfl ?_
      obtain ⟨c6, h⟩ := x_ckk h
      refine x_rlen (j := 4) dX8_tick_261 (by decide) c6 rfl ?_
      refine x_istore_n (L' := [(0, .ref p_0), (1, .ref p5), (2, .int (Int32.ofNat (kn Y p5)))]) [1, 2, 0] dX8_tick_262 rfl (by decide) rfl ?_
      refine x_iconst (v := 0) dX8_tick_263 rfl ?_
      refine x_istore_n (L' := [(0, .ref p_0), (1, .ref p5), (2, .int (Int32.ofNat (kn Y p5))), (3, .int 0)]) [1, 2, 3, 0] dX8_tick_264 rfl (by decide) rfl ?_
      exact T_X8_tick_265 (G := G) FU Y q p_0 p5 (Int32.ofNat (kn Y p5)) 0 k n N h
    · refine x_icmp_ge_f (tgt := 255) dX8_tick_58 (by decide) c4 ?_
      refine x_aload_n 0 dX8_tick_61 rfl rfl ?_
      refine x_getr dX8_tick_62 vc_X8 xin8 fb_X8_3 fl_X8_14 xr_X8_3 c1 ep2 ?_
      refine x_iload_n 1 dX8_tick_65 rfl rfl ?_
      obtain ⟨c7, h⟩ := x_ckk h
      obtain ⟨p8, ep8, h⟩ := x_bd1 h
      refine x_aald (j := 4) dX8_tick_66 (by decide) c3 (xb_in c7) ep8 ?_
      refine x_iconst (v := 1) dX8_tick_67 rfl ?_
      obtain ⟨c9, h⟩ := x_ckk h
      obtain ⟨c10, h⟩ := x_ckk h
      refine x_iald dX8_tick_68 c9 (xb_in c10) rfl ?_
      obtain ⟨v11, ev11, h⟩ := x_lt h
      refine x_nmi ev11 ?_
      refine x_istore_n (L' := [(0, .ref p_0), (1, .int v_1), (2, .int v11)]) [1, 2, 0] dX8_tick_69 rfl (by decide) rfl ?_
      refine x_iconst (v := 0) dX8_tick_70 rfl ?_
      refine x_istore_n (L' := [(0, .ref p_0), (1, .int v_1), (2, .int v11), (3, .int 0)]) [1, 2, 3, 0] dX8_tick_71 rfl (by decide) rfl ?_
      exact T_X8_tick_72 (G := G) ih FU Y q p_0 v_1 v11 0 k n N h
set_option maxHeartbeats 4000000 in
set_option maxRecDepth 100000 in
theorem T_X8_tick_10 {G : XG} {tb : List ExceptionTableEntry} {Yz : XY} {qz : Nat} {Nz : XN} : ∀ (D9 : Nat) (Y : XY) (q : Nat) (p_0 : Nat) (p_1 : Nat) (v_2 : Int32) (v_3 : Int32) (k : Nat) (n : Nat) (N : XN), f_X8_tick_10 D9 Y q p_0 p_1 v_2 v_3 k n N = some (Yz, qz, Nz) → ExZ G yX8_tick cX8_tick 9 none tb (xR 6 224 720) (xZn G (xR 6 224 720) none Yz Nz) k n 10 [(0, .ref p_0), (1, .ref p_1), (2, .int v_2), (3, .int v_3)] [] Y N := by
  intro D9
  induction D9 with
  | zero => intro Y q p_0 p_1 v_2 v_3 k n N h; exact nomatch (show none = some _ from h)
  | succ D9 ih =>
    intro Y q p_0 p_1 v_2 v_3 k n N h
    rw [f_X8_tick_10] at h
    refine x_iload_n 3 dX8_tick_10 rfl rfl ?_
    refine x_iload_n 2 dX8_tick_11 rfl rfl ?_
    rcases x_if h with ⟨c1, h⟩ | ⟨c1, h⟩
    · refine x_icmp_ge_t (tgt := 50) dX8_tick_12 (by decide) c1 ?_
      refine x_iconst (v := 0) dX8_tick_50 rfl ?_
      refine x_istore_n (L' := [(0, .ref p_0), (1, .int 0)]) [1, 0] dX8_tick_51 rfl (by decide) rfl ?_
      exact T_X8_tick_52 (G := G) FU Y q p_0 0 k n N h
    · refine x_icmp_ge_f (tgt := 50) dX8_tick_12 (by decide) c1 ?_
      refine x_aload_n 1 dX8_tick_15 rfl rfl ?_
      refine x_iload_n 3 dX8_tick_16 rfl rfl ?_
      obtain ⟨c2, h⟩ := x_ckk h
      obtain ⟨c3, h⟩ := x_ckk h
      obtain ⟨p4, ep4, h⟩ := x_bd1 h
      refine x_aald (j := 4) dX8_tick_17 (by decide) c2 (xb_in c3) ep4 ?_
      refine x_astore (L' := [(0, .ref p_0), (1, .ref p_1), (2, .int v_2), (3, .int v_3), (4, .ref p4)]) [1, 2, 3, 4, 0] dX8_tick_18 (by decide) rfl ?_
      refine x_aload 4 dX8_tick_20 rfl ?_
      refine x_iconst (v := 3) dX8_tick_22 rfl ?_
      obtain ⟨c5, h⟩ := x_ckk h
      obtain ⟨c6, h⟩ := x_ckk h
      refine x_iald dX8_tick_23 c5 (xb_in c6) rfl ?_
      rcases x_if h with ⟨c7, h⟩ | ⟨c7, h⟩
      · refine x_if_ne_f (tgt := 44) dX8_tick_24 (by decide) c7 ?_
        refine x_aload 4 dX8_tick_27 rfl ?_
        refine x_iconst (v := 1) dX8_tick_29 rfl ?_
        obtain ⟨c8, h⟩ := x_ckk h
        refine x_iald dX8_tick_30 c5 (xb_in c8) rfl ?_
        refine x_aload_n 0 dX8_tick_31 rfl rfl ?_
        obtain ⟨c9, h⟩ := x_ckk h
        refine x_geti dX8_tick_32 vc_X8 xin8 fb_X8_0 fl_X8_28 xr_X8_0 c9 ?_
        rcases x_if h with ⟨c10, h⟩ | ⟨c10, h⟩
        · refine x_icmp_ne_f (tgt := 44) dX8_tick_35 (by decide) c10 ?_
          refine x_aload_n 0 dX8_tick_38 rfl rfl ?_
          refine x_aload 4 dX8_tick_39 rfl ?_
          obtain ⟨c11, h⟩ := x_ckk h
          obtain ⟨N13, e12, h⟩ := x_bd1 h
          refine x_nV (b := p_0) (As := [.ref p4]) (ci := 8) (R' := xR 3 0 0) (zz := yX8_raises) dX8_tick_41 ml_X8_70 wi_X8_raises wv_X8_raises wn_X8 wc_X8_raises hp_X8_raises ⟨Nat.le_of_ble_eq_true rfl, Nat.le_of_ble_eq_true rfl⟩ rfl (Nat.le_of_ble_eq_true rfl) c11 vc_X8 c9 (T_X8_raises (G := G) e12) ?_
          refine x_iinc (L' := [(0, .ref p_0), (1, .ref p_1), (2, .int v_2), (3, .int (v_3 + 1))]) 3 [1, 2, 3, 0] dX8_tick_44 rfl rfl (by decide) rfl ?_
          refine x_goto (tgt := 10) dX8_tick_47 (by decide) ?_
          exact ih Y q p_0 p_1 v_2 (v_3 + 1) k n N13 h
        · refine x_icmp_ne_t (tgt := 44) dX8_tick_35 (by decide) c10 ?_
          refine x_iinc (L' := [(0, .ref p_0), (1, .ref p_1), (2, .int v_2), (3, .int (v_3 + 1))]) 3 [1, 2, 3, 0] dX8_tick_44 rfl rfl (by decide) rfl ?_
          refine x_goto (tgt := 10) dX8_tick_47 (by decide) ?_
          exact ih Y q p_0 p_1 v_2 (v_3 + 1) k n N h
      · refine x_if_ne_t (tgt := 44) dX8_tick_24 (by decide) c7 ?_
        refine x_iinc (L' := [(0, .ref p_0), (1, .ref p_1), (2, .int v_2), (3, .int (v_3 + 1))]) 3 [1, 2, 3, 0] dX8_tick_44 rfl rfl (by decide) rfl ?_
        refine x_goto (tgt := 10) dX8_tick_47 (by decide) ?_
        exact ih Y q p_0 p_1 v_2 (v_3 + 1) k n N h
set_option maxHeartbeats 4000000 in
set_option maxRecDepth 100000 in
theorem T_X8_tick {G : XG} {Y : XY} {q : Nat} {a0 : Nat} {N : XN} {Yz : XY} {qz : Nat} {Nz : XN} (h : f_X8_tick Y q a0 N = some (Yz, qz, Nz)) : Cn G yX8_tick cX8_tick 9 none (xR 6 224 720) [.ref a0] none Y N Yz Nz := by
  refine x_entryN (by decide) (Nat.le_of_ble_eq_true rfl) rfl fun tb => ?_
  rw [f_X8_tick] at h
  refine x_aload_n 0 dX8_tick_0 rfl rfl ?_
  obtain ⟨c1, h⟩ := x_ckk h
  obtain ⟨p2, ep2, h⟩ := x_bd1 h
  refine x_getr dX8_tick_1 vc_X8 xin8 fb_X8_6 fl_X8_24 xr_X8_6 c1 ep2 ?_
  refine x_astore_n (L' := [(0, .ref a0), (1, .ref p2)]) [1, 0] dX8_tick_4 rfl (by decide) rfl ?_
  refine x_aload_n 1 dX8_tick_5 rfl rfl ?_
  obtain ⟨c3, h⟩ := x_ckk h
  refine x_rlen (j := 4) dX8_tick_6 (by decide) c3 rfl ?_
  refine x_istore_n (L' := [(0, .ref a0), (1, .ref p2), (2, .int (Int32.ofNat (kn Y p2)))]) [1, 2, 0] dX8_tick_7 rfl (by decide) rfl ?_
  refine x_iconst (v := 0) dX8_tick_8 rfl ?_
  refine x_istore_n (L' := [(0, .ref a0), (1, .ref p2), (2, .int (Int32.ofNat (kn Y p2))), (3, .int 0)]) [1, 2, 3, 0] dX8_tick_9 rfl (by decide) rfl ?_
  exact T_X8_tick_10 (G := G) FU Y q a0 p2 (Int32.ofNat (kn Y p2)) 0 0 0 N h
