theorem nl_L_115 : ((RL, 115, yX8_init) : String × Nat × MethodName) ∈ xNl := by decide
noncomputable def f_L_law_1014 (G : XG)  (K4 : XY → Nat → Int32 → Nat → Nat → XN → Prop) (Y : XY) (q : Nat) (v_2 : Int32) (p_3 : Nat) (k : Nat) (n : Nat) (N : XN) : Prop :=
  ckP (kc Y p_3 = 17) <|
  ck9P Y <|
  ckP (k + 1 ≤ 600086 ∧ n + 6 ≤ 7301442) <|
  bd2P (f_L_loadx Y p_3 1 N) fun r2 N3 =>
  ckP (r2 = (-2000000098)) <|
  ck9P Y <|
  ckP (k + 1 + 1 ≤ 600086 ∧ n + 6 + 6 ≤ 7301442) <|
  bd2P (f_L_calm Y p_3 (-1) N3) fun r8 N9 =>
  ckP (r8 = (-2000000097)) <|
  ck9P Y <|
  ckP (k + 1 + 1 + 1 ≤ 600086 ∧ n + 6 + 6 + 6 ≤ 7301442) <|
  bd2P (f_L_endsAt Y p_3 60 N9) fun r14 N15 =>
  ckP (r14 = (-2000000097)) <|
  ck9P Y <|
  ckP (k + 1 + 1 + 1 + 1 ≤ 600086 ∧ n + 6 + 6 + 6 + 6 ≤ 7301442) <|
  bd2P (f_L_bankruptIn Y p_3 6 N15) fun r20 N21 =>
  ckP (r20 = (-2000000097)) <|
  ck9P Y <|
  ckP (k + 1 + 1 + 1 + 1 + 1 ≤ 600086 ∧ n + 6 + 6 + 6 + 6 + 6 ≤ 7301442) <|
  bd2P (f_L_advise Y p_3 (-1) N21) fun r26 N27 =>
  ckP (r26 = (-2000000097)) <|
  ck9P Y <|
  ckP (k + 1 + 1 + 1 + 1 + 1 + 1 ≤ 600086 ∧ n + 6 + 6 + 6 + 6 + 6 + 6 ≤ 7301442) <|
  bd2P (f_L_fund Y p_3 (-1) 0 N27) fun r32 N33 =>
  ckP (r32 = (-2000000097)) <|
  K4 Y q (v_2 + 1) (k + 1 + 1 + 1 + 1 + 1 + 1) (n + 6 + 6 + 6 + 6 + 6 + 6) N33
noncomputable def f_L_law_965 (G : XG)  (K4 : XY → Nat → Int32 → Nat → Nat → XN → Prop) : Nat → XY → Nat → Int32 → Nat → Nat → Int32 → Int32 → Nat → Nat → XN → Prop
  | 0, _, _, _, _, _, _, _, _, _, _ => False
  | D9 + 1, Y, q, v_2, p_3, p_7, v_8, v_9, k, n, N =>
    if (8 : Int32) ≤ v_9 then
      f_L_law_1014 G K4 Y q v_2 p_3 k n N
    else
      if v_8 ≤ v_9 then
        f_L_law_1014 G K4 Y q v_2 p_3 k n N
      else
        ckP (kc Y p_3 = 17) <|
        ckWP Y <|
        ckP (k ≤ 600086 ∧ n ≤ 7301442) <|
        bd2P (f_X7_undo Y p_3 N) fun r4 N5 =>
        ckP (¬ (r4 < 0)) <|
        ckP (kc Y p_7 = 43) <|
        ckP (xb v_9 (kn Y p_7) = true) <|
        ckP (gr Y p_7 v_9.toNatClampNeg = some (gp Y p_7 v_9.toNatClampNeg)) <|
        lt (gp Y p_7 v_9.toNatClampNeg) fun p12 =>
        ckWP Y <|
        ckP (k + 560 ≤ 600086 ∧ n + 3360 ≤ 7301442) <|
        bd4P (f_L_agrees Y q p_3 p12 N5) fun r16 Y18 q19 N20 =>
        ckP (¬ (r16 = 0)) <|
        f_L_law_965 G K4 D9 Y18 q19 v_2 p_3 p_7 v_8 (v_9 + 1) (k + 560) (n + 3360) N20
noncomputable def f_L_law_937 (G : XG)  (K4 : XY → Nat → Int32 → Nat → Nat → XN → Prop) (K190 : XY → Nat → Int32 → Nat → Nat → Nat → Nat → Int32 → Int32 → Nat → Nat → XN → Prop) (Y : XY) (q : Nat) (v_2 : Int32) (p_3 : Nat) (p_5 : Nat) (p_6 : Nat) (p_7 : Nat) (v_8 : Int32) (v_9 : Int32) (k : Nat) (n : Nat) (N : XN) : Prop :=
  ckWP Y <|
  ckP (k + 560 ≤ 600086 ∧ n + 3360 ≤ 7301442) <|
  bd4P (f_L_agrees Y q p_3 p_6 N) fun r3 Y5 q6 N7 =>
  ckP (¬ (r3 = 0)) <|
  K190 Y5 q6 v_2 p_3 p_5 p_6 p_7 v_8 (v_9 + 1) (k + 560) (n + 3360) N7
noncomputable def f_L_law_905 (G : XG)  (K4 : XY → Nat → Int32 → Nat → Nat → XN → Prop) (K190 : XY → Nat → Int32 → Nat → Nat → Nat → Nat → Int32 → Int32 → Nat → Nat → XN → Prop) : Nat → XY → Nat → Int32 → Nat → Nat → Nat → Nat → Int32 → Int32 → Nat → Int32 → Nat → Nat → XN → Prop
  | 0, _, _, _, _, _, _, _, _, _, _, _, _, _, _ => False
  | D9 + 1, Y, q, v_2, p_3, p_5, p_6, p_7, v_8, v_9, p_10, v_19, k, n, N =>
    if v_19 ≤ 0 then
      ckP (kc Y p_7 = 43) <|
      ckP (xb 0 (kn Y p_7) = true) <|
      ckP (kc Y p_10 = 18) <|
      lt (sr Y p_7 0 (some p_10)) fun Y5 =>
      f_L_law_937 G K4 K190 Y5 q v_2 p_3 p_5 p_6 p_7 (v_8 + 1) v_9 k n N
    else
      ckP (kc Y p_7 = 43) <|
      ckP (xb (v_19 - 1) (kn Y p_7) = true) <|
      ckP (xb v_19 (kn Y p_7) = true) <|
      ckP (∀ b, gr Y p_7 (v_19 - 1).toNatClampNeg = some b → kc Y b = 18) <|
      lt (sr Y p_7 v_19.toNatClampNeg (gr Y p_7 (v_19 - 1).toNatClampNeg)) fun Y10 =>
      f_L_law_905 G K4 K190 D9 Y10 q v_2 p_3 p_5 p_6 p_7 v_8 v_9 p_10 (v_19 + (-1)) k n N
noncomputable def f_L_law_896 (G : XG)  (K4 : XY → Nat → Int32 → Nat → Nat → XN → Prop) (K190 : XY → Nat → Int32 → Nat → Nat → Nat → Nat → Int32 → Int32 → Nat → Nat → XN → Prop) (Y : XY) (q : Nat) (v_2 : Int32) (p_3 : Nat) (p_5 : Nat) (p_6 : Nat) (p_7 : Nat) (v_8 : Int32) (v_9 : Int32) (p_10 : Nat) (v_11 : Int32) (k : Nat) (n : Nat) (N : XN) : Prop :=
  if v_11 = 0 then
    f_L_law_937 G K4 K190 Y q v_2 p_3 p_5 p_6 p_7 v_8 v_9 k n N
  else
    f_L_law_905 G K4 K190 FU Y q v_2 p_3 p_5 p_6 p_7 v_8 v_9 p_10 8 k n N
noncomputable def f_L_law_844 (G : XG)  (K4 : XY → Nat → Int32 → Nat → Nat → XN → Prop) (K190 : XY → Nat → Int32 → Nat → Nat → Nat → Nat → Int32 → Int32 → Nat → Nat → XN → Prop) : Nat → XY → Nat → Int32 → Nat → Nat → Nat → Nat → Int32 → Int32 → Nat → Int32 → Int32 → Int32 → Int32 → Nat → Nat → XN → Prop
  | 0, _, _, _, _, _, _, _, _, _, _, _, _, _, _, _, _, _ => False
  | D9 + 1, Y, q, v_2, p_3, p_5, p_6, p_7, v_8, v_9, p_10, v_11, v_23, v_24, v_25, k, n, N =>
    if v_23 ≤ v_25 then
      lt (y9 Y) fun Y2 =>
      ckP (kc Y2 p_3 = 17) <|
      ck9P Y2 <|
      ckP (k + 1 ≤ 600086 ∧ n + 6 ≤ 7301442) <|
      bd2P (f_L_pass Y2 p_3 v_23 N) fun r4 N5 =>
      if v_11 = 0 then
        ckP (r4 = (-2000000098)) <|
        f_L_law_896 G K4 K190 Y2 q v_2 p_3 p_5 p_6 p_7 v_8 v_9 p_10 v_11 (k + 1) (n + 6) N5
      else
        ckP (kc Y2 p_6 = 18) <|
        bd2P (f_X8_count Y2 p_6 2 N5) fun r12 N14 =>
        ckP (r4 = (r12 - v_24)) <|
        f_L_law_896 G K4 K190 Y2 q v_2 p_3 p_5 p_6 p_7 v_8 v_9 p_10 v_11 (k + 1) (n + 6) N14
    else
      ckP (kc Y p_6 = 18) <|
      ckP (k + 224 ≤ 600086 ∧ n + 832 ≤ 7301442) <|
      bd3P (f_X8_tick Y q p_6 N) fun Y19 q20 N21 =>
      f_L_law_844 G K4 K190 D9 Y19 q20 v_2 p_3 p_5 p_6 p_7 v_8 v_9 p_10 v_11 v_23 v_24 (v_25 + 1) (k + 224) (n + 832) N21
noncomputable def f_L_law_816 (G : XG)  (K4 : XY → Nat → Int32 → Nat → Nat → XN → Prop) (K190 : XY → Nat → Int32 → Nat → Nat → Nat → Nat → Int32 → Int32 → Nat → Nat → XN → Prop) (Y : XY) (q : Nat) (v_2 : Int32) (p_3 : Nat) (p_5 : Nat) (p_6 : Nat) (p_7 : Nat) (v_8 : Int32) (v_9 : Int32) (p_10 : Nat) (s0 : Int32) (o1 : Nat) (k : Nat) (n : Nat) (N : XN) : Prop :=
  ckP (kc Y o1 = 20) <|
  ckP (k ≤ 600086 ∧ n ≤ 7301442) <|
  bd2P (f_X10_below Y o1 s0 N) fun r3 N5 =>
  if r3 ≤ 0 then
    ckP (kc Y p_6 = 18) <|
    bd2P (f_X8_count Y p_6 2 N5) fun r8 N10 =>
    f_L_law_844 G K4 K190 FU Y q v_2 p_3 p_5 p_6 p_7 v_8 v_9 p_10 0 r3 r8 0 k n N10
  else
    ckP (kc Y p_6 = 18) <|
    bd2P (f_X8_count Y p_6 2 N5) fun r12 N14 =>
    f_L_law_844 G K4 K190 FU Y q v_2 p_3 p_5 p_6 p_7 v_8 v_9 p_10 1 r3 r12 0 k n N14
noncomputable def f_L_law_777 (G : XG)  (K4 : XY → Nat → Int32 → Nat → Nat → XN → Prop) (K190 : XY → Nat → Int32 → Nat → Nat → Nat → Nat → Int32 → Int32 → Nat → Nat → XN → Prop) (Y : XY) (q : Nat) (v_2 : Int32) (p_3 : Nat) (p_5 : Nat) (p_6 : Nat) (p_7 : Nat) (v_8 : Int32) (v_9 : Int32) (p_10 : Nat) (v_11 : Int32) (v_12 : Int32) (v_16 : Int32) (v_21 : Int32) (k : Nat) (n : Nat) (N : XN) : Prop :=
  lt (y9 Y) fun Y1 =>
  ckP (kc Y1 p_3 = 17) <|
  ck9P Y1 <|
  ckP (k + 1 ≤ 600086 ∧ n + 6 ≤ 7301442) <|
  bd2P (f_L_raise Y1 p_3 v_16 v_21 N) fun r3 N4 =>
  ckP (r3 = v_12) <|
  f_L_law_896 G K4 K190 Y1 q v_2 p_3 p_5 p_6 p_7 v_8 v_9 p_10 v_11 (k + 1) (n + 6) N4
noncomputable def f_L_law_696 (G : XG)  (K4 : XY → Nat → Int32 → Nat → Nat → XN → Prop) (K190 : XY → Nat → Int32 → Nat → Nat → Nat → Nat → Int32 → Int32 → Nat → Nat → XN → Prop) (Y : XY) (q : Nat) (v_2 : Int32) (p_3 : Nat) (p_5 : Nat) (p_6 : Nat) (p_7 : Nat) (v_8 : Int32) (v_9 : Int32) (p_10 : Nat) (v_11 : Int32) (v_12 : Int32) (v_16 : Int32) (v_21 : Int32) (k : Nat) (n : Nat) (N : XN) : Prop :=
  if v_11 = 0 then
    f_L_law_777 G K4 K190 Y q v_2 p_3 p_5 p_6 p_7 v_8 v_9 p_10 v_11 v_12 v_16 v_21 k n N
  else
    ckP (kc Y p_6 = 18) <|
    ckP (gr Y p_6 6 = some (gp Y p_6 6)) <|
    lt (gp Y p_6 6) fun p3 =>
    ckP (kc Y q = 9 ∧ kc Y (q + 1) = 0) <|
    ckP (k + 1 ≤ 600086 ∧ n + 8 ≤ 7301442) <|
    lt (yK Y q 1 8) fun Y7 =>
    lt (n0 N q) fun N8 =>
    ckP (xb 0 (kn Y7 q) = true) <|
    lt (si N8 q 0 v_16) fun N11 =>
    ckP (xb 1 (kn Y7 q) = true) <|
    lt (si N11 q 1 (gi N11 p_6 0)) fun N14 =>
    ckP (xb 2 (kn Y7 q) = true) <|
    lt (si N14 q 2 v_21) fun N16 =>
    ckP (xb 3 (kn Y7 q) = true) <|
    lt (si N16 q 3 0) fun N18 =>
    ckP (xb 4 (kn Y7 q) = true) <|
    lt (si N18 q 4 (-1)) fun N20 =>
    ckP (xb 5 (kn Y7 q) = true) <|
    lt (si N20 q 5 0) fun N22 =>
    ckP (xb 6 (kn Y7 q) = true) <|
    lt (si N22 q 6 (-1)) fun N24 =>
    ckP (xb 7 (kn Y7 q) = true) <|
    lt (si N24 q 7 0) fun N26 =>
    ckP (k + 1 + 1 ≤ 600086 ∧ n + 8 + 64 ≤ 7301442) <|
    bd4P (f_L_with Y7 (q + 1) p3 q N26) fun r28 Y30 q31 N32 =>
    ckP (kc Y30 p_6 = 18) <|
    lt (sr Y30 p_6 6 (some r28)) fun Y34 =>
    ckP (gr Y34 p_6 6 = some (gp Y34 p_6 6)) <|
    lt (gp Y34 p_6 6) fun p36 =>
    ckP (kc Y34 p36 = 8) <|
    ckP (xb ((Int32.ofNat (kn Y34 p36)) - 1) (kn Y34 p36) = true) <|
    ckP (gr Y34 p36 ((Int32.ofNat (kn Y34 p36)) - 1).toNatClampNeg = some (gp Y34 p36 ((Int32.ofNat (kn Y34 p36)) - 1).toNatClampNeg)) <|
    lt (gp Y34 p36 ((Int32.ofNat (kn Y34 p36)) - 1).toNatClampNeg) fun p40 =>
    bdP (f_X8_raises Y34 p_6 p40 N32) fun N43 =>
    f_L_law_777 G K4 K190 Y34 q31 v_2 p_3 p_5 p_6 p_7 v_8 v_9 p_10 v_11 v_12 v_16 v_21 (k + 1 + 1) (n + 8 + 64) N43
noncomputable def f_L_law_659 (G : XG)  (K4 : XY → Nat → Int32 → Nat → Nat → XN → Prop) (K190 : XY → Nat → Int32 → Nat → Nat → Nat → Nat → Int32 → Int32 → Nat → Nat → XN → Prop) (Y : XY) (q : Nat) (v_2 : Int32) (p_3 : Nat) (p_5 : Nat) (p_6 : Nat) (p_7 : Nat) (v_8 : Int32) (v_9 : Int32) (p_10 : Nat) (v_12 : Int32) (v_14 : Int32) (v_16 : Int32) (v_21 : Int32) (v_22 : Int32) (s0 : Int32) (k : Nat) (n : Nat) (N : XN) : Prop :=
  if v_14 ≤ v_16 then
    f_L_law_696 G K4 K190 Y q v_2 p_3 p_5 p_6 p_7 v_8 v_9 p_10 s0 v_12 v_16 v_21 k n N
  else
    if v_22 = 0 then
      f_L_law_696 G K4 K190 Y q v_2 p_3 p_5 p_6 p_7 v_8 v_9 p_10 s0 (-2000000098) v_16 v_21 k n N
    else
      if s0 = 0 then
        f_L_law_696 G K4 K190 Y q v_2 p_3 p_5 p_6 p_7 v_8 v_9 p_10 s0 (-2000000099) v_16 v_21 k n N
      else
        ckP (kc Y p_6 = 18) <|
        ckP (gr Y p_6 6 = some (gp Y p_6 6)) <|
        lt (gp Y p_6 6) fun p5 =>
        ckP (kc Y p5 = 8) <|
        f_L_law_696 G K4 K190 Y q v_2 p_3 p_5 p_6 p_7 v_8 v_9 p_10 s0 (Int32.ofNat (kn Y p5)) v_16 v_21 k n N
noncomputable def f_L_law_629 (G : XG)  (K4 : XY → Nat → Int32 → Nat → Nat → XN → Prop) (K190 : XY → Nat → Int32 → Nat → Nat → Nat → Nat → Int32 → Int32 → Nat → Nat → XN → Prop) (Y : XY) (q : Nat) (v_2 : Int32) (p_3 : Nat) (p_5 : Nat) (p_6 : Nat) (p_7 : Nat) (v_8 : Int32) (v_9 : Int32) (p_10 : Nat) (v_12 : Int32) (v_14 : Int32) (v_16 : Int32) (v_21 : Int32) (s0 : Int32) (k : Nat) (n : Nat) (N : XN) : Prop :=
  if v_14 ≤ v_16 then
    f_L_law_659 G K4 K190 Y q v_2 p_3 p_5 p_6 p_7 v_8 v_9 p_10 v_12 v_14 v_16 v_21 s0 0 k n N
  else
    if s0 = 0 then
      f_L_law_659 G K4 K190 Y q v_2 p_3 p_5 p_6 p_7 v_8 v_9 p_10 v_12 v_14 v_16 v_21 s0 0 k n N
    else
      ckP (kc Y p_6 = 18) <|
      ckP (gr Y p_6 6 = some (gp Y p_6 6)) <|
      lt (gp Y p_6 6) fun p4 =>
      ckP (kc Y p4 = 8) <|
      if (60 : Int32) ≤ (Int32.ofNat (kn Y p4)) then
        f_L_law_659 G K4 K190 Y q v_2 p_3 p_5 p_6 p_7 v_8 v_9 p_10 v_12 v_14 v_16 v_21 s0 0 k n N
      else
        f_L_law_659 G K4 K190 Y q v_2 p_3 p_5 p_6 p_7 v_8 v_9 p_10 v_12 v_14 v_16 v_21 s0 1 k n N
noncomputable def f_L_law_607 (G : XG)  (K4 : XY → Nat → Int32 → Nat → Nat → XN → Prop) (K190 : XY → Nat → Int32 → Nat → Nat → Nat → Nat → Int32 → Int32 → Nat → Nat → XN → Prop) (Y : XY) (q : Nat) (v_2 : Int32) (p_3 : Nat) (p_5 : Nat) (p_6 : Nat) (p_7 : Nat) (v_8 : Int32) (v_9 : Int32) (p_10 : Nat) (v_12 : Int32) (v_14 : Int32) (v_16 : Int32) (s0 : Int32) (o1 : Nat) (k : Nat) (n : Nat) (N : XN) : Prop :=
  ckP (kc Y o1 = 20) <|
  ckP (k ≤ 600086 ∧ n ≤ 7301442) <|
  bd2P (f_X10_below Y o1 s0 N) fun r3 N5 =>
  if r3 ≤ 0 then
    f_L_law_629 G K4 K190 Y q v_2 p_3 p_5 p_6 p_7 v_8 v_9 p_10 v_12 v_14 v_16 r3 0 k n N5
  else
    if (100 : Int32) ≤ r3 then
      f_L_law_629 G K4 K190 Y q v_2 p_3 p_5 p_6 p_7 v_8 v_9 p_10 v_12 v_14 v_16 r3 0 k n N5
    else
      f_L_law_629 G K4 K190 Y q v_2 p_3 p_5 p_6 p_7 v_8 v_9 p_10 v_12 v_14 v_16 r3 1 k n N5
noncomputable def f_L_law_588 (G : XG)  (K4 : XY → Nat → Int32 → Nat → Nat → XN → Prop) (K190 : XY → Nat → Int32 → Nat → Nat → Nat → Nat → Int32 → Int32 → Nat → Nat → XN → Prop) (Y : XY) (q : Nat) (v_2 : Int32) (p_3 : Nat) (p_5 : Nat) (p_6 : Nat) (p_7 : Nat) (v_8 : Int32) (v_9 : Int32) (p_10 : Nat) (v_12 : Int32) (v_14 : Int32) (v_16 : Int32) (k : Nat) (n : Nat) (N : XN) : Prop :=
  ckP (kc Y p_5 = 20) <|
  ckP (k ≤ 600086 ∧ n ≤ 7301442) <|
  bd2P (f_X10_below Y p_5 6 N) fun r3 N5 =>
  if r3 = 0 then
    f_L_law_607 G K4 K190 Y q v_2 p_3 p_5 p_6 p_7 v_8 v_9 p_10 v_12 v_14 v_16 120 p_5 k n N5
  else
    f_L_law_607 G K4 K190 Y q v_2 p_3 p_5 p_6 p_7 v_8 v_9 p_10 v_12 v_14 v_16 25 p_5 k n N5
noncomputable def f_L_law_566 (G : XG)  (K4 : XY → Nat → Int32 → Nat → Nat → XN → Prop) (K190 : XY → Nat → Int32 → Nat → Nat → Nat → Nat → Int32 → Int32 → Nat → Nat → XN → Prop) (Y : XY) (q : Nat) (v_2 : Int32) (p_3 : Nat) (p_5 : Nat) (p_6 : Nat) (p_7 : Nat) (v_8 : Int32) (v_9 : Int32) (p_10 : Nat) (v_11 : Int32) (v_12 : Int32) (v_15 : Int32) (v_16 : Int32) (k : Nat) (n : Nat) (N : XN) : Prop :=
  lt (y9 Y) fun Y1 =>
  ckP (kc Y1 p_3 = 17) <|
  ck9P Y1 <|
  ckP (k + 1 ≤ 600086 ∧ n + 6 ≤ 7301442) <|
  bd2P (f_L_release Y1 p_3 v_15 v_16 N) fun r3 N4 =>
  ckP (r3 = v_12) <|
  f_L_law_896 G K4 K190 Y1 q v_2 p_3 p_5 p_6 p_7 v_8 v_9 p_10 v_11 (k + 1) (n + 6) N4
noncomputable def f_L_law_524 (G : XG)  (K4 : XY → Nat → Int32 → Nat → Nat → XN → Prop) (K190 : XY → Nat → Int32 → Nat → Nat → Nat → Nat → Int32 → Int32 → Nat → Nat → XN → Prop) (Y : XY) (q : Nat) (v_2 : Int32) (p_3 : Nat) (p_5 : Nat) (p_6 : Nat) (p_7 : Nat) (v_8 : Int32) (v_9 : Int32) (p_10 : Nat) (v_11 : Int32) (v_12 : Int32) (v_15 : Int32) (v_16 : Int32) (k : Nat) (n : Nat) (N : XN) : Prop :=
  lt (y9 Y) fun Y1 =>
  ckP (kc Y1 p_3 = 17) <|
  ck9P Y1 <|
  ckP (k + 1 ≤ 600086 ∧ n + 6 ≤ 7301442) <|
  bd2P (f_L_lease Y1 p_3 v_15 v_16 N) fun r3 N4 =>
  ckP (r3 = v_12) <|
  f_L_law_896 G K4 K190 Y1 q v_2 p_3 p_5 p_6 p_7 v_8 v_9 p_10 v_11 (k + 1) (n + 6) N4
noncomputable def f_L_law_504 (G : XG)  (K4 : XY → Nat → Int32 → Nat → Nat → XN → Prop) (K190 : XY → Nat → Int32 → Nat → Nat → Nat → Nat → Int32 → Int32 → Nat → Nat → XN → Prop) (Y : XY) (q : Nat) (v_2 : Int32) (p_3 : Nat) (p_5 : Nat) (p_6 : Nat) (p_7 : Nat) (v_8 : Int32) (v_9 : Int32) (p_10 : Nat) (v_12 : Int32) (v_15 : Int32) (v_16 : Int32) (v_18 : Int32) (k : Nat) (n : Nat) (N : XN) : Prop :=
  if v_18 = 0 then
    f_L_law_524 G K4 K190 Y q v_2 p_3 p_5 p_6 p_7 v_8 v_9 p_10 v_18 v_12 v_15 v_16 k n N
  else
    ckP (kc Y p_6 = 18) <|
    ckP (k + 1 ≤ 600086 ∧ n + 4 ≤ 7301442) <|
    bd4P (f_X8_lease Y q p_6 v_15 v_16 N) fun r4 Y6 q7 N8 =>
    f_L_law_524 G K4 K190 Y6 q7 v_2 p_3 p_5 p_6 p_7 v_8 v_9 p_10 v_18 r4 v_15 v_16 (k + 1) (n + 4) N8
noncomputable def f_L_law_482 (G : XG)  (K4 : XY → Nat → Int32 → Nat → Nat → XN → Prop) (K190 : XY → Nat → Int32 → Nat → Nat → Nat → Nat → Int32 → Int32 → Nat → Nat → XN → Prop) (Y : XY) (q : Nat) (v_2 : Int32) (p_3 : Nat) (p_5 : Nat) (p_6 : Nat) (p_7 : Nat) (v_8 : Int32) (v_9 : Int32) (p_10 : Nat) (v_11 : Int32) (v_12 : Int32) (v_15 : Int32) (v_19 : Int32) (k : Nat) (n : Nat) (N : XN) : Prop :=
  lt (y9 Y) fun Y1 =>
  ckP (kc Y1 p_3 = 17) <|
  ck9P Y1 <|
  ckP (k + 1 ≤ 600086 ∧ n + 6 ≤ 7301442) <|
  bd2P (f_L_fund Y1 p_3 v_15 v_19 N) fun r3 N4 =>
  ckP (r3 = v_12) <|
  f_L_law_896 G K4 K190 Y1 q v_2 p_3 p_5 p_6 p_7 v_8 v_9 p_10 v_11 (k + 1) (n + 6) N4
noncomputable def f_L_law_439 (G : XG)  (K4 : XY → Nat → Int32 → Nat → Nat → XN → Prop) (K190 : XY → Nat → Int32 → Nat → Nat → Nat → Nat → Int32 → Int32 → Nat → Nat → XN → Prop) (Y : XY) (q : Nat) (v_2 : Int32) (p_3 : Nat) (p_5 : Nat) (p_6 : Nat) (p_7 : Nat) (v_8 : Int32) (v_9 : Int32) (p_10 : Nat) (v_11 : Int32) (v_12 : Int32) (v_15 : Int32) (v_19 : Int32) (k : Nat) (n : Nat) (N : XN) : Prop :=
  if v_11 = 0 then
    f_L_law_482 G K4 K190 Y q v_2 p_3 p_5 p_6 p_7 v_8 v_9 p_10 v_11 v_12 v_15 v_19 k n N
  else
    ckP (kc Y p_6 = 18) <|
    ckP (gr Y p_6 3 = some (gp Y p_6 3)) <|
    lt (gp Y p_6 3) fun p3 =>
    ckP (kc Y p3 = 8) <|
    ckP (xb v_15 (kn Y p3) = true) <|
    ckP (gr Y p3 v_15.toNatClampNeg = some (gp Y p3 v_15.toNatClampNeg)) <|
    lt (gp Y p3 v_15.toNatClampNeg) fun p7 =>
    ckP (kc Y p7 = 1) <|
    ckP (xb 0 (kn Y p7) = true) <|
    ckP (xb 0 (kn Y p7) = true) <|
    lt (si N p7 0 ((gi N p7 0) + v_19)) fun N12 =>
    ckP (xb v_15 (kn Y p3) = true) <|
    ckP (xb 2 (kn Y p7) = true) <|
    lt (si N12 p7 2 0) fun N15 =>
    ckP (xb v_15 (kn Y p3) = true) <|
    ckP (xb 0 (kn Y p7) = true) <|
    f_L_law_482 G K4 K190 Y q v_2 p_3 p_5 p_6 p_7 v_8 v_9 p_10 v_11 (gi N15 p7 0) v_15 v_19 k n N15
noncomputable def f_L_law_428 (G : XG)  (K4 : XY → Nat → Int32 → Nat → Nat → XN → Prop) (K190 : XY → Nat → Int32 → Nat → Nat → Nat → Nat → Int32 → Int32 → Nat → Nat → XN → Prop) (Y : XY) (q : Nat) (v_2 : Int32) (p_3 : Nat) (p_5 : Nat) (p_6 : Nat) (p_7 : Nat) (v_8 : Int32) (v_9 : Int32) (p_10 : Nat) (v_12 : Int32) (v_15 : Int32) (v_17 : Int32) (v_19 : Int32) (s0 : Int32) (k : Nat) (n : Nat) (N : XN) : Prop :=
  if v_17 = 0 then
    f_L_law_439 G K4 K190 Y q v_2 p_3 p_5 p_6 p_7 v_8 v_9 p_10 s0 v_12 v_15 v_19 k n N
  else
    f_L_law_439 G K4 K190 Y q v_2 p_3 p_5 p_6 p_7 v_8 v_9 p_10 s0 (-2000000098) v_15 v_19 k n N
noncomputable def f_L_law_411 (G : XG)  (K4 : XY → Nat → Int32 → Nat → Nat → XN → Prop) (K190 : XY → Nat → Int32 → Nat → Nat → Nat → Nat → Int32 → Int32 → Nat → Nat → XN → Prop) (Y : XY) (q : Nat) (v_2 : Int32) (p_3 : Nat) (p_5 : Nat) (p_6 : Nat) (p_7 : Nat) (v_8 : Int32) (v_9 : Int32) (p_10 : Nat) (v_12 : Int32) (v_15 : Int32) (v_17 : Int32) (v_19 : Int32) (s0 : Int32) (k : Nat) (n : Nat) (N : XN) : Prop :=
  if v_17 = 0 then
    f_L_law_428 G K4 K190 Y q v_2 p_3 p_5 p_6 p_7 v_8 v_9 p_10 v_12 v_15 v_17 v_19 0 k n N
  else
    if s0 = 0 then
      f_L_law_428 G K4 K190 Y q v_2 p_3 p_5 p_6 p_7 v_8 v_9 p_10 v_12 v_15 v_17 v_19 0 k n N
    else
      f_L_law_428 G K4 K190 Y q v_2 p_3 p_5 p_6 p_7 v_8 v_9 p_10 v_12 v_15 v_17 v_19 1 k n N
noncomputable def f_L_law_388 (G : XG)  (K4 : XY → Nat → Int32 → Nat → Nat → XN → Prop) (K190 : XY → Nat → Int32 → Nat → Nat → Nat → Nat → Int32 → Int32 → Nat → Nat → XN → Prop) (Y : XY) (q : Nat) (v_2 : Int32) (p_3 : Nat) (p_5 : Nat) (p_6 : Nat) (p_7 : Nat) (v_8 : Int32) (v_9 : Int32) (p_10 : Nat) (v_12 : Int32) (v_15 : Int32) (v_17 : Int32) (s0 : Int32) (o1 : Nat) (k : Nat) (n : Nat) (N : XN) : Prop :=
  ckP (kc Y o1 = 20) <|
  ckP (k ≤ 600086 ∧ n ≤ 7301442) <|
  bd2P (f_X10_below Y o1 s0 N) fun r3 N5 =>
  if r3 ≤ 0 then
    f_L_law_411 G K4 K190 Y q v_2 p_3 p_5 p_6 p_7 v_8 v_9 p_10 v_12 v_15 v_17 r3 0 k n N5
  else
    if (10000 : Int32) ≤ r3 then
      f_L_law_411 G K4 K190 Y q v_2 p_3 p_5 p_6 p_7 v_8 v_9 p_10 v_12 v_15 v_17 r3 0 k n N5
    else
      f_L_law_411 G K4 K190 Y q v_2 p_3 p_5 p_6 p_7 v_8 v_9 p_10 v_12 v_15 v_17 r3 1 k n N5
noncomputable def f_L_law_322 (G : XG)  (K4 : XY → Nat → Int32 → Nat → Nat → XN → Prop) (K190 : XY → Nat → Int32 → Nat → Nat → Nat → Nat → Int32 → Int32 → Nat → Nat → XN → Prop) (Y : XY) (q : Nat) (v_2 : Int32) (p_3 : Nat) (p_5 : Nat) (p_6 : Nat) (p_7 : Nat) (v_8 : Int32) (v_9 : Int32) (p_10 : Nat) (v_12 : Int32) (v_14 : Int32) (v_15 : Int32) (v_16 : Int32) (v_17 : Int32) (s0 : Int32) (k : Nat) (n : Nat) (N : XN) : Prop :=
  ckP (kc Y p_5 = 20) <|
  ckP (k ≤ 600086 ∧ n ≤ 7301442) <|
  bd2P (f_X10_below Y p_5 10 N) fun r3 N5 =>
  if r3 = 0 then
    bd2P (f_X10_below Y p_5 6 N5) fun r6 N8 =>
    if r6 = 0 then
      f_L_law_388 G K4 K190 Y q v_2 p_3 p_5 p_6 p_7 v_8 v_9 p_10 v_12 v_15 v_17 11000 p_5 k n N8
    else
      f_L_law_388 G K4 K190 Y q v_2 p_3 p_5 p_6 p_7 v_8 v_9 p_10 v_12 v_15 v_17 30 p_5 k n N8
  else
  if r3 = 1 then
    f_L_law_504 G K4 K190 Y q v_2 p_3 p_5 p_6 p_7 v_8 v_9 p_10 v_12 v_15 v_16 s0 k n N5
  else
  if r3 = 2 then
    f_L_law_504 G K4 K190 Y q v_2 p_3 p_5 p_6 p_7 v_8 v_9 p_10 v_12 v_15 v_16 s0 k n N5
  else
  if r3 = 3 then
    if s0 = 0 then
      f_L_law_566 G K4 K190 Y q v_2 p_3 p_5 p_6 p_7 v_8 v_9 p_10 s0 v_12 v_15 v_16 k n N5
    else
      ckP (kc Y p_6 = 18) <|
      ckP (k + 1 ≤ 600086 ∧ n + 4 ≤ 7301442) <|
      bd4P (f_X8_release Y q p_6 v_15 v_16 N5) fun r16 Y18 q19 N20 =>
      f_L_law_566 G K4 K190 Y18 q19 v_2 p_3 p_5 p_6 p_7 v_8 v_9 p_10 s0 r16 v_15 v_16 (k + 1) (n + 4) N20
  else
  if r3 = 4 then
    f_L_law_588 G K4 K190 Y q v_2 p_3 p_5 p_6 p_7 v_8 v_9 p_10 v_12 v_14 v_16 k n N5
  else
  if r3 = 5 then
    f_L_law_588 G K4 K190 Y q v_2 p_3 p_5 p_6 p_7 v_8 v_9 p_10 v_12 v_14 v_16 k n N5
  else
  ckP (r3.toInt < 0 ∨ 5 < r3.toInt) <|
  bd2P (f_X10_below Y p_5 5 N5) fun r24 N26 =>
  if r24 = 0 then
    f_L_law_816 G K4 K190 Y q v_2 p_3 p_5 p_6 p_7 v_8 v_9 p_10 25 p_5 k n N26
  else
    f_L_law_816 G K4 K190 Y q v_2 p_3 p_5 p_6 p_7 v_8 v_9 p_10 5 p_5 k n N26
noncomputable def f_L_law_303 (G : XG)  (K4 : XY → Nat → Int32 → Nat → Nat → XN → Prop) (K190 : XY → Nat → Int32 → Nat → Nat → Nat → Nat → Int32 → Int32 → Nat → Nat → XN → Prop) (Y : XY) (q : Nat) (v_2 : Int32) (p_3 : Nat) (p_5 : Nat) (p_6 : Nat) (p_7 : Nat) (v_8 : Int32) (v_9 : Int32) (p_10 : Nat) (v_12 : Int32) (v_14 : Int32) (v_15 : Int32) (v_16 : Int32) (s0 : Int32) (k : Nat) (n : Nat) (N : XN) : Prop :=
  if s0 = 0 then
    f_L_law_322 G K4 K190 Y q v_2 p_3 p_5 p_6 p_7 v_8 v_9 p_10 v_12 v_14 v_15 v_16 s0 0 k n N
  else
    if v_14 ≤ v_16 then
      f_L_law_322 G K4 K190 Y q v_2 p_3 p_5 p_6 p_7 v_8 v_9 p_10 v_12 v_14 v_15 v_16 s0 0 k n N
    else
      f_L_law_322 G K4 K190 Y q v_2 p_3 p_5 p_6 p_7 v_8 v_9 p_10 v_12 v_14 v_15 v_16 s0 1 k n N
noncomputable def f_L_law_285 (G : XG)  (K4 : XY → Nat → Int32 → Nat → Nat → XN → Prop) (K190 : XY → Nat → Int32 → Nat → Nat → Nat → Nat → Int32 → Int32 → Nat → Nat → XN → Prop) (Y : XY) (q : Nat) (v_2 : Int32) (p_3 : Nat) (p_5 : Nat) (p_6 : Nat) (p_7 : Nat) (v_8 : Int32) (v_9 : Int32) (p_10 : Nat) (v_12 : Int32) (v_13 : Int32) (v_14 : Int32) (v_15 : Int32) (s0 : Int32) (s1 : Int32) (o2 : Nat) (k : Nat) (n : Nat) (N : XN) : Prop :=
  ckP (kc Y o2 = 20) <|
  ckP (k ≤ 600086 ∧ n ≤ 7301442) <|
  bd2P (f_X10_below Y o2 (s1 + s0) N) fun r3 N5 =>
  if v_13 ≤ v_15 then
    f_L_law_303 G K4 K190 Y q v_2 p_3 p_5 p_6 p_7 v_8 v_9 p_10 v_12 v_14 v_15 r3 0 k n N5
  else
    f_L_law_303 G K4 K190 Y q v_2 p_3 p_5 p_6 p_7 v_8 v_9 p_10 v_12 v_14 v_15 r3 1 k n N5
noncomputable def f_L_law_255 (G : XG)  (K4 : XY → Nat → Int32 → Nat → Nat → XN → Prop) (K190 : XY → Nat → Int32 → Nat → Nat → Nat → Nat → Int32 → Int32 → Nat → Nat → XN → Prop) (Y : XY) (q : Nat) (v_2 : Int32) (p_3 : Nat) (p_5 : Nat) (p_6 : Nat) (p_7 : Nat) (v_8 : Int32) (v_9 : Int32) (p_10 : Nat) (v_12 : Int32) (v_13 : Int32) (v_14 : Int32) (s0 : Int32) (s1 : Int32) (o2 : Nat) (k : Nat) (n : Nat) (N : XN) : Prop :=
  ckP (kc Y o2 = 20) <|
  ckP (k ≤ 600086 ∧ n ≤ 7301442) <|
  bd2P (f_X10_below Y o2 (s1 + s0) N) fun r3 N5 =>
  ckP (kc Y p_5 = 20) <|
  bd2P (f_X10_below Y p_5 12 N5) fun r7 N9 =>
  if r7 = 0 then
    f_L_law_285 G K4 K190 Y q v_2 p_3 p_5 p_6 p_7 v_8 v_9 p_10 v_12 v_13 v_14 r3 1 v_14 p_5 k n N9
  else
    if v_14 = 0 then
      f_L_law_285 G K4 K190 Y q v_2 p_3 p_5 p_6 p_7 v_8 v_9 p_10 v_12 v_13 v_14 r3 1 v_14 p_5 k n N9
    else
      f_L_law_285 G K4 K190 Y q v_2 p_3 p_5 p_6 p_7 v_8 v_9 p_10 v_12 v_13 v_14 r3 0 v_14 p_5 k n N9
noncomputable def f_L_law_190 (G : XG)  (K4 : XY → Nat → Int32 → Nat → Nat → XN → Prop) : Nat → XY → Nat → Int32 → Nat → Nat → Nat → Nat → Int32 → Int32 → Nat → Nat → XN → Prop
  | 0, _, _, _, _, _, _, _, _, _, _, _, _ => False
  | D9 + 1, Y, q, v_2, p_3, p_5, p_6, p_7, v_8, v_9, k, n, N =>
    if (35 : Int32) ≤ v_9 then
      f_L_law_965 G K4 FU Y q v_2 p_3 p_7 v_8 0 k n N
    else
      mkP Y fun q2 Y3 =>
      ckP (kc Y3 p_6 = 18) <|
      ckP (k + 266 ≤ 600086 ∧ n + 2317 ≤ 7301442) <|
      bd4P (f_X8_copy Y3 q2 p_6 N) fun r7 Y9 q10 N11 =>
      ckP (kc Y9 p_6 = 18) <|
      ckP (gr Y9 p_6 3 = some (gp Y9 p_6 3)) <|
      lt (gp Y9 p_6 3) fun p13 =>
      ckP (kc Y9 p13 = 8) <|
      lt (Int32.ofNat (kn Y9 p13)) fun v16 =>
      ckP (gr Y9 p_6 4 = some (gp Y9 p_6 4)) <|
      lt (gp Y9 p_6 4) fun p17 =>
      ckP (kc Y9 p17 = 8) <|
      lt (Int32.ofNat (kn Y9 p17)) fun v20 =>
      ckP (kc Y9 p_5 = 20) <|
      bd2P (f_X10_below Y9 p_5 12 N11) fun r22 N24 =>
      if r22 = 0 then
        f_L_law_255 G K4 (f_L_law_190 G K4 D9) Y9 q10 v_2 p_3 p_5 p_6 p_7 v_8 v_9 r7 (-2000000097) v16 v20 1 v16 p_5 (k + 266) (n + 2317) N24
      else
        if v16 = 0 then
          f_L_law_255 G K4 (f_L_law_190 G K4 D9) Y9 q10 v_2 p_3 p_5 p_6 p_7 v_8 v_9 r7 (-2000000097) v16 v20 1 v16 p_5 (k + 266) (n + 2317) N24
        else
          f_L_law_255 G K4 (f_L_law_190 G K4 D9) Y9 q10 v_2 p_3 p_5 p_6 p_7 v_8 v_9 r7 (-2000000097) v16 v20 0 v16 p_5 (k + 266) (n + 2317) N24
noncomputable def f_L_law_4 (G : XG)  : Nat → XY → Nat → Int32 → Nat → Nat → XN → Prop
  | 0, _, _, _, _, _, _ => False
  | D9 + 1, Y, q, v_2, k, n, N =>
    if (Int32.ofNat (xSl G)) ≤ v_2 then
      ckP (k ≤ 600086 ∧ n ≤ 7301442) <|
      True
    else
      if (2 : Int32) ≤ v_2 then
        ckP (k ≤ 600086 ∧ n ≤ 7301442) <|
        True
      else
        mk0P Y fun q5 Y6 =>
        ckP (kc Y6 q5 = 9 ∧ kc Y6 (q5 + 1) = 0) <|
        ckP (k + 1 ≤ 600086 ∧ n + 10 ≤ 7301442) <|
        lt (yK Y6 q5 17 0) fun Y10 =>
        lt (n0 N q5) fun N11 =>
        ckP (kc Y10 (q5 + 1) = 9) <|
        ckP (k + 1 + 907 ≤ 600086 ∧ n + 10 + 16792 ≤ 7301442) <|
        lt (yL Y10 q5) fun Y15 =>
        lt (mL N11 q5) fun N16 =>
        ckP (kc Y15 (q5 + 908) = 9 ∧ kc Y15 (q5 + 908 + 1) = 0) <|
        ckP (k + 1 + 907 + 1 ≤ 600086 ∧ n + 10 + 16792 + 8 ≤ 7301442) <|
        lt (yK Y15 (q5 + 908) 1 8) fun Y19 =>
        lt (n0 N16 (q5 + 908)) fun N20 =>
        ckP (kc Y19 (q5 + 909) = 9 ∧ kc Y19 (q5 + 909 + 1) = 0) <|
        ckP (k + 1 + 907 + 1 + 1 ≤ 600086 ∧ n + 10 + 16792 + 8 + 1 ≤ 7301442) <|
        lt (yK Y19 (q5 + 909) 20 0) fun Y24 =>
        lt (n0 N20 (q5 + 909)) fun N25 =>
        ckP (xb v_2 (xSl G) = true) <|
        bdP (f_X10_init Y24 (q5 + 909) (xSx G v_2.toNatClampNeg) N25) fun N29 =>
        ckP (kc Y24 (q5 + 910) = 9 ∧ kc Y24 (q5 + 910 + 1) = 0) <|
        ckP (k + 1 + 907 + 1 + 1 + 1 ≤ 600086 ∧ n + 10 + 16792 + 8 + 1 + 8 ≤ 7301442) <|
        lt (yK Y24 (q5 + 910) 18 0) fun Y32 =>
        lt (n0 N29 (q5 + 910)) fun N33 =>
        ckP (k + 1 + 907 + 1 + 1 + 1 + 5 ≤ 600086 ∧ n + 10 + 16792 + 8 + 1 + 8 + 5 ≤ 7301442) <|
        bd3P (f_X8_init Y32 (q5 + 911) (q5 + 910) N33) fun Y37 q38 N39 =>
        lt (y9 Y37) fun Y40 =>
        ckWP Y40 <|
        ckP (k + 1 + 907 + 1 + 1 + 1 + 5 + 560 ≤ 600086 ∧ n + 10 + 16792 + 8 + 1 + 8 + 5 + 3360 ≤ 7301442) <|
        bd4P (f_L_agrees Y40 q38 q5 (q5 + 910) N39) fun r43 Y45 q46 N47 =>
        ckP (¬ (r43 = 0)) <|
        ckP (kc Y45 q5 = 17) <|
        ckWP Y45 <|
        lt (f_X7_errorOffset Y45 q5 N47) fun r50 =>
        ckP (r50 = (-1)) <|
        ckWP Y45 <|
        bd2P (f_X7_undo Y45 q5 N47) fun r55 N56 =>
        ckP (r55 = (-1)) <|
        ck9P Y45 <|
        ckP (k + 1 + 907 + 1 + 1 + 1 + 5 + 560 + 1 ≤ 600086 ∧ n + 10 + 16792 + 8 + 1 + 8 + 5 + 3360 + 6 ≤ 7301442) <|
        bd2P (f_L_pass Y45 q5 0 N56) fun r60 N61 =>
        ckP (r60 = (-2000000098)) <|
        ck9P Y45 <|
        ckP (k + 1 + 907 + 1 + 1 + 1 + 5 + 560 + 1 + 1 ≤ 600086 ∧ n + 10 + 16792 + 8 + 1 + 8 + 5 + 3360 + 6 + 6 ≤ 7301442) <|
        bd2P (f_L_pass Y45 q5 7 N61) fun r66 N67 =>
        ckP (r66 = 0) <|
        ckWP Y45 <|
        bd2P (f_X7_undo Y45 q5 N67) fun r72 N73 =>
        ckP (r72 = 0) <|
        ck9P Y45 <|
        ckP (k + 1 + 907 + 1 + 1 + 1 + 5 + 560 + 1 + 1 + 1 ≤ 600086 ∧ n + 10 + 16792 + 8 + 1 + 8 + 5 + 3360 + 6 + 6 + 6 ≤ 7301442) <|
        bd2P (f_L_raise Y45 q5 0 0 N73) fun r77 N78 =>
        ckP (r77 = (-2000000097)) <|
        ck9P Y45 <|
        ckP (k + 1 + 907 + 1 + 1 + 1 + 5 + 560 + 1 + 1 + 1 + 1 ≤ 600086 ∧ n + 10 + 16792 + 8 + 1 + 8 + 5 + 3360 + 6 + 6 + 6 + 6 ≤ 7301442) <|
        bd2P (f_L_lease Y45 q5 0 0 N78) fun r83 N84 =>
        ckP (r83 = (-2000000097)) <|
        ck9P Y45 <|
        ckP (k + 1 + 907 + 1 + 1 + 1 + 5 + 560 + 1 + 1 + 1 + 1 + 1 ≤ 600086 ∧ n + 10 + 16792 + 8 + 1 + 8 + 5 + 3360 + 6 + 6 + 6 + 6 + 6 ≤ 7301442) <|
        bd2P (f_L_finesIn Y45 q5 1101 N84) fun r89 N90 =>
        ckP (r89 = (-2000000098)) <|
        mkP Y45 fun q95 Y96 =>
        ckWP Y96 <|
        ckP (k + 1 + 907 + 1 + 1 + 1 + 5 + 560 + 1 + 1 + 1 + 1 + 1 + 400 ≤ 600086 ∧ n + 10 + 16792 + 8 + 1 + 8 + 5 + 3360 + 6 + 6 + 6 + 6 + 6 + 40000 ≤ 7301442) <|
        bd4P (f_L_randomDesk (xS G) (xSv G) Y96 q95 q5 (q5 + 908) (q5 + 909) N90) fun r100 Y102 q103 N104 =>
        lt (y9 Y102) fun Y105 =>
        ckWP Y105 <|
        ckP (k + 1 + 907 + 1 + 1 + 1 + 5 + 560 + 1 + 1 + 1 + 1 + 1 + 400 + 560 ≤ 600086 ∧ n + 10 + 16792 + 8 + 1 + 8 + 5 + 3360 + 6 + 6 + 6 + 6 + 6 + 40000 + 3360 ≤ 7301442) <|
        bd4P (f_L_agrees Y105 q103 q5 r100 N104) fun r108 Y110 q111 N112 =>
        ckP (¬ (r108 = 0)) <|
        mkP Y110 fun q114 Y115 =>
        ckP (kc Y115 q114 = 9 ∧ kc Y115 (q114 + 1) = 0) <|
        ckP (k + 1 + 907 + 1 + 1 + 1 + 5 + 560 + 1 + 1 + 1 + 1 + 1 + 400 + 560 + 1 ≤ 600086 ∧ n + 10 + 16792 + 8 + 1 + 8 + 5 + 3360 + 6 + 6 + 6 + 6 + 6 + 40000 + 3360 + 9 ≤ 7301442) <|
        lt (yK Y115 q114 43 9) fun Y119 =>
        lt (n0 N112 q114) fun N120 =>
        lt (y9 Y119) fun Y122 =>
        f_L_law_190 G (f_L_law_4 G D9) FU Y122 (q114 + 1) v_2 q5 (q5 + 909) r100 q114 0 0 (k + 1 + 907 + 1 + 1 + 1 + 5 + 560 + 1 + 1 + 1 + 1 + 1 + 400 + 560 + 1) (n + 10 + 16792 + 8 + 1 + 8 + 5 + 3360 + 6 + 6 + 6 + 6 + 6 + 40000 + 3360 + 9) N120
noncomputable def f_L_law (G : XG) (Y : XY) (q : Nat) (N : XN) : Prop :=
  f_L_law_4 G FU Y q 0 0 0 N
