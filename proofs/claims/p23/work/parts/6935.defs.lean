/-! THE PRINTED FUNCTIONS: THE LAW'S OWN -/
noncomputable def f_L_agrees_336  (Y : XY) (q : Nat) (p_0 : Nat) (p_1 : Nat) (k : Nat) (n : Nat) (N : XN) : Option (Int32 × XY × Nat × XN) :=
  ck (kc Y p_1 = 18) <|
  ck (gr Y p_1 3 = some (gp Y p_1 3)) <|
  lt (gp Y p_1 3) fun p2 =>
  ck (kc Y p2 = 8) <|
  ck (kc Y p_0 = 17) <|
  ck9 Y <|
  ck (k + 1 ≤ 560 ∧ n + 6 ≤ 3360) <|
  bd2 (f_L_handler Y p_0 (Int32.ofNat (kn Y p2)) 0 N) fun r6 N7 =>
  ck (r6 = (-2000000097)) <|
  ck (gr Y p_1 4 = some (gp Y p_1 4)) <|
  lt (gp Y p_1 4) fun p12 =>
  ck (kc Y p12 = 8) <|
  ck9 Y <|
  ck (k + 1 + 1 ≤ 560 ∧ n + 6 + 6 ≤ 3360) <|
  bd2 (f_L_line Y p_0 (Int32.ofNat (kn Y p12)) 0 N7) fun r15 N16 =>
  ck (r15 = (-2000000097)) <|
  ck (gr Y p_1 6 = some (gp Y p_1 6)) <|
  lt (gp Y p_1 6) fun p21 =>
  ck (kc Y p21 = 8) <|
  ck9 Y <|
  ck (k + 1 + 1 + 1 ≤ 560 ∧ n + 6 + 6 + 6 ≤ 3360) <|
  bd2 (f_L_request Y p_0 (Int32.ofNat (kn Y p21)) 0 N16) fun r24 N25 =>
  ck (r24 = (-2000000097)) <|
  some (1, Y, q, N25)
noncomputable def f_L_agrees_288  (K272 : XY → Nat → Nat → Nat → Int32 → Nat → Nat → XN → Option (Int32 × XY × Nat × XN)) : Nat → XY → Nat → Nat → Nat → Int32 → Int32 → Nat → Nat → XN → Option (Int32 × XY × Nat × XN)
  | 0, _, _, _, _, _, _, _, _, _ => none
  | D9 + 1, Y, q, p_0, p_1, v_3, v_4, k, n, N =>
    if (7 : Int32) ≤ v_4 then
      K272 Y q p_0 p_1 (v_3 + 1) k n N
    else
      ck (kc Y p_0 = 17) <|
      ck9 Y <|
      ck (k + 1 ≤ 560 ∧ n + 6 ≤ 3360) <|
      bd2 (f_L_request Y p_0 v_3 v_4 N) fun r3 N4 =>
      ck (kc Y p_1 = 18) <|
      ck (gr Y p_1 6 = some (gp Y p_1 6)) <|
      lt (gp Y p_1 6) fun p9 =>
      ck (kc Y p9 = 8) <|
      ck (xb v_3 (kn Y p9) = true) <|
      ck (gr Y p9 v_3.toNatClampNeg = some (gp Y p9 v_3.toNatClampNeg)) <|
      lt (gp Y p9 v_3.toNatClampNeg) fun p13 =>
      ck (kc Y p13 = 1) <|
      ck (xb v_4 (kn Y p13) = true) <|
      ck (r3 = (gi N4 p13 v_4.toNatClampNeg)) <|
      f_L_agrees_288 K272 D9 Y q p_0 p_1 v_3 (v_4 + 1) (k + 1) (n + 6) N4
noncomputable def f_L_agrees_272  : Nat → XY → Nat → Nat → Nat → Int32 → Nat → Nat → XN → Option (Int32 × XY × Nat × XN)
  | 0, _, _, _, _, _, _, _, _ => none
  | D9 + 1, Y, q, p_0, p_1, v_3, k, n, N =>
    ck (kc Y p_1 = 18) <|
    ck (gr Y p_1 6 = some (gp Y p_1 6)) <|
    lt (gp Y p_1 6) fun p2 =>
    ck (kc Y p2 = 8) <|
    if (Int32.ofNat (kn Y p2)) ≤ v_3 then
      f_L_agrees_336 Y q p_0 p_1 k n N
    else
      f_L_agrees_288 (f_L_agrees_272 D9) FU Y q p_0 p_1 v_3 0 k n N
noncomputable def f_L_agrees_237  (K132 : XY → Nat → Nat → Nat → Int32 → Nat → Nat → XN → Option (Int32 × XY × Nat × XN)) (Y : XY) (q : Nat) (p_0 : Nat) (p_1 : Nat) (v_3 : Int32) (k : Nat) (n : Nat) (N : XN) : Option (Int32 × XY × Nat × XN) :=
  ck (kc Y p_1 = 18) <|
  ck (gr Y p_1 5 = some (gp Y p_1 5)) <|
  lt (gp Y p_1 5) fun p2 =>
  ck (kc Y p2 = 8) <|
  ck (xb v_3 (kn Y p2) = true) <|
  ck (gr Y p2 v_3.toNatClampNeg = some (gp Y p2 v_3.toNatClampNeg)) <|
  lt (gp Y p2 v_3.toNatClampNeg) fun p6 =>
  ck (kc Y p6 = 1) <|
  ck (kc Y p_0 = 17) <|
  ck9 Y <|
  ck (k + 1 ≤ 560 ∧ n + 6 ≤ 3360) <|
  bd2 (f_L_tenant Y p_0 v_3 (Int32.ofNat (kn Y p6)) N) fun r10 N11 =>
  ck (r10 = (-2000000100)) <|
  K132 Y q p_0 p_1 (v_3 + 1) (k + 1) (n + 6) N11
noncomputable def f_L_agrees_190  (K132 : XY → Nat → Nat → Nat → Int32 → Nat → Nat → XN → Option (Int32 × XY × Nat × XN)) : Nat → XY → Nat → Nat → Nat → Int32 → Int32 → Nat → Nat → XN → Option (Int32 × XY × Nat × XN)
  | 0, _, _, _, _, _, _, _, _, _ => none
  | D9 + 1, Y, q, p_0, p_1, v_3, v_4, k, n, N =>
    ck (kc Y p_1 = 18) <|
    ck (gr Y p_1 5 = some (gp Y p_1 5)) <|
    lt (gp Y p_1 5) fun p2 =>
    ck (kc Y p2 = 8) <|
    ck (xb v_3 (kn Y p2) = true) <|
    ck (gr Y p2 v_3.toNatClampNeg = some (gp Y p2 v_3.toNatClampNeg)) <|
    lt (gp Y p2 v_3.toNatClampNeg) fun p6 =>
    ck (kc Y p6 = 1) <|
    if (Int32.ofNat (kn Y p6)) ≤ v_4 then
      f_L_agrees_237 K132 Y q p_0 p_1 v_3 k n N
    else
      ck (kc Y p_0 = 17) <|
      ck9 Y <|
      ck (k + 1 ≤ 560 ∧ n + 6 ≤ 3360) <|
      bd2 (f_L_tenant Y p_0 v_3 v_4 N) fun r11 N12 =>
      ck (xb v_3 (kn Y p2) = true) <|
      ck (xb v_4 (kn Y p6) = true) <|
      ck (r11 = (gi N12 p6 v_4.toNatClampNeg)) <|
      f_L_agrees_190 K132 D9 Y q p_0 p_1 v_3 (v_4 + 1) (k + 1) (n + 6) N12
noncomputable def f_L_agrees_148  (K132 : XY → Nat → Nat → Nat → Int32 → Nat → Nat → XN → Option (Int32 × XY × Nat × XN)) : Nat → XY → Nat → Nat → Nat → Int32 → Int32 → Nat → Nat → XN → Option (Int32 × XY × Nat × XN)
  | 0, _, _, _, _, _, _, _, _, _ => none
  | D9 + 1, Y, q, p_0, p_1, v_3, v_4, k, n, N =>
    if (5 : Int32) ≤ v_4 then
      f_L_agrees_190 K132 FU Y q p_0 p_1 v_3 0 k n N
    else
      ck (kc Y p_0 = 17) <|
      ck9 Y <|
      ck (k + 1 ≤ 560 ∧ n + 6 ≤ 3360) <|
      bd2 (f_L_line Y p_0 v_3 v_4 N) fun r3 N4 =>
      ck (kc Y p_1 = 18) <|
      bd2 (f_X8_ofLine Y p_1 v_3 v_4 N4) fun r9 N11 =>
      ck (r3 = r9) <|
      f_L_agrees_148 K132 D9 Y q p_0 p_1 v_3 (v_4 + 1) (k + 1) (n + 6) N11
noncomputable def f_L_agrees_132  : Nat → XY → Nat → Nat → Nat → Int32 → Nat → Nat → XN → Option (Int32 × XY × Nat × XN)
  | 0, _, _, _, _, _, _, _, _ => none
  | D9 + 1, Y, q, p_0, p_1, v_3, k, n, N =>
    ck (kc Y p_1 = 18) <|
    ck (gr Y p_1 4 = some (gp Y p_1 4)) <|
    lt (gp Y p_1 4) fun p2 =>
    ck (kc Y p2 = 8) <|
    if (Int32.ofNat (kn Y p2)) ≤ v_3 then
      f_L_agrees_272 FU Y q p_0 p_1 0 k n N
    else
      f_L_agrees_148 (f_L_agrees_132 D9) FU Y q p_0 p_1 v_3 0 k n N
noncomputable def f_L_agrees_84  (K68 : XY → Nat → Nat → Nat → Int32 → Nat → Nat → XN → Option (Int32 × XY × Nat × XN)) : Nat → XY → Nat → Nat → Nat → Int32 → Int32 → Nat → Nat → XN → Option (Int32 × XY × Nat × XN)
  | 0, _, _, _, _, _, _, _, _, _ => none
  | D9 + 1, Y, q, p_0, p_1, v_3, v_4, k, n, N =>
    if (8 : Int32) ≤ v_4 then
      K68 Y q p_0 p_1 (v_3 + 1) k n N
    else
      ck (kc Y p_0 = 17) <|
      ck9 Y <|
      ck (k + 1 ≤ 560 ∧ n + 6 ≤ 3360) <|
      bd2 (f_L_handler Y p_0 v_3 v_4 N) fun r3 N4 =>
      ck (kc Y p_1 = 18) <|
      bd2 (f_X8_ofHandler Y p_1 v_3 v_4 N4) fun r9 N11 =>
      ck (r3 = r9) <|
      f_L_agrees_84 K68 D9 Y q p_0 p_1 v_3 (v_4 + 1) (k + 1) (n + 6) N11
noncomputable def f_L_agrees_68  : Nat → XY → Nat → Nat → Nat → Int32 → Nat → Nat → XN → Option (Int32 × XY × Nat × XN)
  | 0, _, _, _, _, _, _, _, _ => none
  | D9 + 1, Y, q, p_0, p_1, v_3, k, n, N =>
    ck (kc Y p_1 = 18) <|
    ck (gr Y p_1 3 = some (gp Y p_1 3)) <|
    lt (gp Y p_1 3) fun p2 =>
    ck (kc Y p2 = 8) <|
    if (Int32.ofNat (kn Y p2)) ≤ v_3 then
      f_L_agrees_132 FU Y q p_0 p_1 0 k n N
    else
      f_L_agrees_84 (f_L_agrees_68 D9) FU Y q p_0 p_1 v_3 0 k n N
noncomputable def f_L_agrees_31  : Nat → XY → Nat → Nat → Nat → Int32 → Nat → Nat → XN → Option (Int32 × XY × Nat × XN)
  | 0, _, _, _, _, _, _, _, _ => none
  | D9 + 1, Y, q, p_0, p_1, v_3, k, n, N =>
    if (10 : Int32) ≤ v_3 then
      f_L_agrees_68 FU Y q p_0 p_1 0 k n N
    else
      ck (kc Y p_0 = 17) <|
      ck9 Y <|
      ck (k + 1 ≤ 560 ∧ n + 6 ≤ 3360) <|
      bd2 (f_L_state Y p_0 v_3 N) fun r3 N4 =>
      ck (kc Y p_1 = 18) <|
      bd2 (f_X8_told Y p_1 v_3 N4) fun r9 N11 =>
      ck (r3 = r9) <|
      f_L_agrees_31 D9 Y q p_0 p_1 (v_3 + 1) (k + 1) (n + 6) N11
noncomputable def f_L_agrees (Y : XY) (q : Nat) (a0 : Nat) (a1 : Nat) (N : XN) : Option (Int32 × XY × Nat × XN) :=
  ck (kc Y a0 = 17) <|
  ckW Y <|
  bd2 (f_X7_checksum Y a0 N) fun r2 N3 =>
  ck (kc Y a1 = 18) <|
  bd2 (f_X8_checksum Y a1 N3) fun r7 N9 =>
  ck ((lg_cmp r2 r7) = 0) <|
  ck9 Y <|
  bd2 (f_L_state Y a0 10 N9) fun r11 N12 =>
  ck (r11 = (-2000000098)) <|
  f_L_agrees_31 FU Y q a0 a1 0 1 6 N12
noncomputable def f_L_loadText (Y : XY) (q : Nat) (a0 : Nat) (a1 : Nat) (N : XN) : Option (Int32 × XY × Nat × XN) :=
  ck (kc Y a1 = 1) <|
  ck (xb 0 (kn Y a1) = true) <|
  if ((gi N a1 0) - (gi N a1 0) / 20 * 20) ≤ 0 then
    ck (xb 0 (kn Y a1) = true) <|
    lt (si N a1 0 0) fun N5 =>
    ck (kc Y a0 = 17) <|
    ckW Y <|
    bd2 (f_L_load Y a0 (gi N a1 0) N5) fun r7 N8 =>
    lt (yrd Y (gp Y a0 4) (gp Y a0 3) (gp Y a0 6)) fun Y11 =>
    some (r7, Y11, q, N8)
  else
    ckW Y <|
    bd (f_L_flush Y a0 a1 N) fun N14 =>
    ck (xb 0 (kn Y a1) = true) <|
    lt (si N14 a1 0 0) fun N16 =>
    ck (kc Y a0 = 17) <|
    ckW Y <|
    bd2 (f_L_load Y a0 (gi N a1 0) N16) fun r18 N19 =>
    lt (yrd Y (gp Y a0 4) (gp Y a0 3) (gp Y a0 6)) fun Y22 =>
    some (r18, Y22, q, N19)
noncomputable def f_L_randomDesk_636 (SS SV : Nat → Nat)  (K597 : XY → Nat → Nat → Nat → Nat → Nat → Int32 → Nat → Nat → XN → Option (Nat × XY × Nat × XN)) (Y : XY) (q : Nat) (p_0 : Nat) (p_1 : Nat) (p_2 : Nat) (p_3 : Nat) (v_5 : Int32) (s0 : Int32) (o1 : Nat) (s2 : Int32) (s3 : Int32) (o4 : Nat) (k : Nat) (n : Nat) (N : XN) : Option (Nat × XY × Nat × XN) :=
  ck (kc Y o1 = 20) <|
  ck (k ≤ 400 ∧ n ≤ 40000) <|
  bd2 (f_X10_below Y o1 s0 N) fun r3 N5 =>
  ck (kc Y o4 = 1) <|
  ck (xb s3 (kn Y o4) = true) <|
  lt (si N5 o4 s3.toNatClampNeg (s2 + r3)) fun N8 =>
  ck (kc Y (SV 103) = 42) <|
  ck (xb v_5 (kn Y (SV 103)) = true) <|
  ck (gr Y (SV 103) v_5.toNatClampNeg = some (gp Y (SV 103) v_5.toNatClampNeg)) <|
  lt (gp Y (SV 103) v_5.toNatClampNeg) fun p11 =>
  ck (kc Y q = 9 ∧ kc Y (q + 1) = 0) <|
  ck (k + 1 ≤ 400 ∧ n + 1 ≤ 40000) <|
  lt (yK Y q 1 1) fun Y15 =>
  lt (n0 N8 q) fun N16 =>
  ck (kc Y15 p_3 = 18) <|
  ck (gr Y15 p_3 2 = some (gp Y15 p_3 2)) <|
  lt (gp Y15 p_3 2) fun p19 =>
  ck (kc Y15 p19 = 1) <|
  ck (xb v_5 (kn Y15 p19) = true) <|
  ck (xb 0 (kn Y15 q) = true) <|
  lt (si N16 q 0 (gi N16 p19 v_5.toNatClampNeg)) fun N24 =>
  ckW Y15 <|
  bd (f_L_writeNumbers SS SV Y15 p_0 p_1 p11 q N24) fun N27 =>
  ckW Y15 <|
  bd (f_L_write Y15 p_0 p_1 (SS 16) N27) fun N30 =>
  K597 Y15 (q + 1) p_0 p_1 p_2 p_3 (v_5 + 1) (k + 1) (n + 1) N30
noncomputable def f_L_randomDesk_597 (SS SV : Nat → Nat)  : Nat → XY → Nat → Nat → Nat → Nat → Nat → Int32 → Nat → Nat → XN → Option (Nat × XY × Nat × XN)
  | 0, _, _, _, _, _, _, _, _, _, _ => none
  | D9 + 1, Y, q, p_0, p_1, p_2, p_3, v_5, k, n, N =>
    if (5 : Int32) ≤ v_5 then
      ck (kc Y p_2 = 20) <|
      ck (k ≤ 400 ∧ n ≤ 40000) <|
      bd2 (f_X10_below Y p_2 2 N) fun r4 N6 =>
      if r4 = 0 then
        bd2 (f_X10_below Y p_2 3 N6) fun r8 N10 =>
        ck (k + 7 ≤ 400 ∧ n + 28 ≤ 40000) <|
        bd4 (f_X9_random 3 Y q p_2 r8 N10) fun r12 Y14 q15 N16 =>
        ck (kc Y14 p_3 = 18) <|
        lt (sr Y14 p_3 7 (some r12)) fun Y18 =>
        ckW Y18 <|
        bd (f_L_write Y18 p_0 p_1 (SS 20) N16) fun N21 =>
        ck (gr Y18 p_3 7 = some (gp Y18 p_3 7)) <|
        lt (gp Y18 p_3 7) fun p23 =>
        ck (kc Y18 p23 = 19) <|
        ck (k + 7 + 119 ≤ 400 ∧ n + 28 + 23100 ≤ 40000) <|
        bd4 (f_X9_text SS SV 3 Y18 q15 p23 0 N21) fun r27 Y29 q30 N31 =>
        ckW Y29 <|
        bd (f_L_write Y29 p_0 p_1 r27 N31) fun N34 =>
        ckW Y29 <|
        bd (f_L_write Y29 p_0 p_1 (SS 21) N34) fun N37 =>
        ckW Y29 <|
        bd4 (f_L_loadText Y29 q30 p_0 p_1 N37) fun r39 Y41 q42 N43 =>
        ck (kc Y41 p_3 = 18) <|
        ck (gr Y41 p_3 6 = some (gp Y41 p_3 6)) <|
        lt (gp Y41 p_3 6) fun p45 =>
        ck (kc Y41 p45 = 8) <|
        ck (r39 = (Int32.ofNat (kn Y41 p45))) <|
        some (p_3, Y41, q42, N43)
      else
        ckW Y <|
        bd4 (f_L_loadText Y q p_0 p_1 N6) fun r50 Y52 q53 N54 =>
        ck (kc Y52 p_3 = 18) <|
        ck (gr Y52 p_3 6 = some (gp Y52 p_3 6)) <|
        lt (gp Y52 p_3 6) fun p56 =>
        ck (kc Y52 p56 = 8) <|
        ck (r50 = (Int32.ofNat (kn Y52 p56))) <|
        some (p_3, Y52, q53, N54)
    else
      ck (kc Y p_2 = 20) <|
      ck (k ≤ 400 ∧ n ≤ 40000) <|
      bd2 (f_X10_below Y p_2 2 N) fun r62 N64 =>
      if r62 = 0 then
        f_L_randomDesk_597 SS SV D9 Y q p_0 p_1 p_2 p_3 (v_5 + 1) k n N64
      else
        ck (kc Y p_3 = 18) <|
        ck (gr Y p_3 2 = some (gp Y p_3 2)) <|
        lt (gp Y p_3 2) fun p67 =>
        bd2 (f_X10_below Y p_2 3 N64) fun r69 N71 =>
        if r69 = 0 then
          f_L_randomDesk_636 SS SV (f_L_randomDesk_597 SS SV D9) Y q p_0 p_1 p_2 p_3 v_5 20 p_2 1 v_5 p67 k n N71
        else
          f_L_randomDesk_636 SS SV (f_L_randomDesk_597 SS SV D9) Y q p_0 p_1 p_2 p_3 v_5 5 p_2 1 v_5 p67 k n N71
noncomputable def f_L_randomDesk_473 (SS SV : Nat → Nat)  (K406 : XY → Nat → Nat → Nat → Nat → Nat → Int32 → Nat → Nat → XN → Option (Nat × XY × Nat × XN)) (Y : XY) (q : Nat) (p_0 : Nat) (p_1 : Nat) (p_2 : Nat) (p_3 : Nat) (v_5 : Int32) (s0 : Int32) (o1 : Nat) (s2 : Int32) (s3 : Int32) (o4 : Nat) (o5 : Nat) (o6 : Nat) (o7 : Nat) (k : Nat) (n : Nat) (N : XN) : Option (Nat × XY × Nat × XN) :=
  ck (kc Y o1 = 20) <|
  ck (k ≤ 400 ∧ n ≤ 40000) <|
  bd2 (f_X10_below Y o1 s0 N) fun r3 N5 =>
  ck (kc Y o4 = 1) <|
  ck (xb s3 (kn Y o4) = true) <|
  lt (si N5 o4 s3.toNatClampNeg (s2 + r3)) fun N8 =>
  ck (kc Y o5 = 1) <|
  ck (xb 3 (kn Y o5) = true) <|
  lt (si N8 o5 3 0) fun N11 =>
  ck (xb 4 (kn Y o5) = true) <|
  lt (si N11 o5 4 (-1)) fun N13 =>
  ck (xb 5 (kn Y o5) = true) <|
  lt (si N13 o5 5 0) fun N15 =>
  ck (xb 6 (kn Y o5) = true) <|
  lt (si N15 o5 6 (-1)) fun N17 =>
  ck (xb 7 (kn Y o5) = true) <|
  lt (si N17 o5 7 0) fun N19 =>
  ck (k + 1 ≤ 400 ∧ n + 64 ≤ 40000) <|
  bd4 (f_L_with Y q o6 o5 N19) fun r21 Y23 q24 N25 =>
  ck (kc Y23 o7 = 18) <|
  lt (sr Y23 o7 6 (some r21)) fun Y27 =>
  ck (kc Y27 p_3 = 18) <|
  ck (gr Y27 p_3 6 = some (gp Y27 p_3 6)) <|
  lt (gp Y27 p_3 6) fun p29 =>
  ck (kc Y27 p29 = 8) <|
  ck (xb ((Int32.ofNat (kn Y27 p29)) - 1) (kn Y27 p29) = true) <|
  ck (gr Y27 p29 ((Int32.ofNat (kn Y27 p29)) - 1).toNatClampNeg = some (gp Y27 p29 ((Int32.ofNat (kn Y27 p29)) - 1).toNatClampNeg)) <|
  lt (gp Y27 p29 ((Int32.ofNat (kn Y27 p29)) - 1).toNatClampNeg) fun p33 =>
  ck (kc Y27 q24 = 9 ∧ kc Y27 (q24 + 1) = 0) <|
  ck (k + 1 + 1 ≤ 400 ∧ n + 64 + 3 ≤ 40000) <|
  lt (yK Y27 q24 1 3) fun Y37 =>
  lt (n0 N25 q24) fun N38 =>
  ck (kc Y37 p33 = 1) <|
  ck (xb 0 (kn Y37 p33) = true) <|
  ck (xb 0 (kn Y37 q24) = true) <|
  lt (si N38 q24 0 (gi N38 p33 0)) fun N43 =>
  ck (xb 1 (kn Y37 p33) = true) <|
  ck (xb 1 (kn Y37 q24) = true) <|
  lt (si N43 q24 1 (gi N43 p33 1)) fun N46 =>
  ck (xb 2 (kn Y37 p33) = true) <|
  ck (xb 2 (kn Y37 q24) = true) <|
  lt (si N46 q24 2 (gi N46 p33 2)) fun N49 =>
  ckW Y37 <|
  bd (f_L_writeNumbers SS SV Y37 p_0 p_1 (SS 19) q24 N49) fun N52 =>
  ckW Y37 <|
  bd (f_L_write Y37 p_0 p_1 (SS 16) N52) fun N55 =>
  K406 Y37 (q24 + 1) p_0 p_1 p_2 p_3 (v_5 + (-1)) (k + 1 + 1) (n + 64 + 3) N55
noncomputable def f_L_randomDesk_450 (SS SV : Nat → Nat)  (K406 : XY → Nat → Nat → Nat → Nat → Nat → Int32 → Nat → Nat → XN → Option (Nat × XY × Nat × XN)) (Y : XY) (q : Nat) (p_0 : Nat) (p_1 : Nat) (p_2 : Nat) (p_3 : Nat) (v_5 : Int32) (s0 : Int32) (o1 : Nat) (s2 : Int32) (o3 : Nat) (o4 : Nat) (o5 : Nat) (o6 : Nat) (k : Nat) (n : Nat) (N : XN) : Option (Nat × XY × Nat × XN) :=
  ck (kc Y o1 = 20) <|
  ck (k ≤ 400 ∧ n ≤ 40000) <|
  bd2 (f_X10_below Y o1 s0 N) fun r3 N5 =>
  ck (kc Y o3 = 1) <|
  ck (xb s2 (kn Y o3) = true) <|
  lt (si N5 o3 s2.toNatClampNeg r3) fun N8 =>
  ck (kc Y p_2 = 20) <|
  bd2 (f_X10_below Y p_2 3 N8) fun r10 N12 =>
  if r10 = 0 then
    f_L_randomDesk_473 SS SV K406 Y q p_0 p_1 p_2 p_3 v_5 99 p_2 1 2 o4 o4 o5 o6 k n N12
  else
    f_L_randomDesk_473 SS SV K406 Y q p_0 p_1 p_2 p_3 v_5 20 p_2 1 2 o4 o4 o5 o6 k n N12
noncomputable def f_L_randomDesk_406 (SS SV : Nat → Nat)  : Nat → XY → Nat → Nat → Nat → Nat → Nat → Int32 → Nat → Nat → XN → Option (Nat × XY × Nat × XN)
  | 0, _, _, _, _, _, _, _, _, _, _ => none
  | D9 + 1, Y, q, p_0, p_1, p_2, p_3, v_5, k, n, N =>
    if v_5 ≤ 0 then
      ck (kc Y q = 9 ∧ kc Y (q + 1) = 0) <|
      ck (k + 1 ≤ 400 ∧ n + 5 ≤ 40000) <|
      lt (yK Y q 1 5) fun Y4 =>
      lt (n0 N q) fun N5 =>
      ck (xb 0 (kn Y4 q) = true) <|
      lt (si N5 q 0 5) fun N8 =>
      ck (xb 1 (kn Y4 q) = true) <|
      lt (si N8 q 1 10) fun N10 =>
      ck (xb 2 (kn Y4 q) = true) <|
      lt (si N10 q 2 10) fun N12 =>
      ck (xb 3 (kn Y4 q) = true) <|
      lt (si N12 q 3 10) fun N14 =>
      ck (xb 4 (kn Y4 q) = true) <|
      lt (si N14 q 4 1) fun N16 =>
      ck (kc Y4 p_3 = 18) <|
      lt (sr Y4 p_3 2 (some q)) fun Y18 =>
      f_L_randomDesk_597 SS SV FU Y18 (q + 1) p_0 p_1 p_2 p_3 0 (k + 1) (n + 5) N16
    else
      ck (kc Y p_3 = 18) <|
      ck (gr Y p_3 6 = some (gp Y p_3 6)) <|
      lt (gp Y p_3 6) fun p20 =>
      ck (kc Y q = 9 ∧ kc Y (q + 1) = 0) <|
      ck (k + 1 ≤ 400 ∧ n + 8 ≤ 40000) <|
      lt (yK Y q 1 8) fun Y24 =>
      lt (n0 N q) fun N25 =>
      ck (gr Y24 p_3 4 = some (gp Y24 p_3 4)) <|
      lt (gp Y24 p_3 4) fun p28 =>
      ck (kc Y24 p28 = 8) <|
      ck (kc Y24 p_2 = 20) <|
      bd2 (f_X10_below Y24 p_2 (Int32.ofNat (kn Y24 p28)) N25) fun r32 N34 =>
      ck (xb 0 (kn Y24 q) = true) <|
      lt (si N34 q 0 r32) fun N36 =>
      bd2 (f_X10_below Y24 p_2 4 N36) fun r37 N39 =>
      if r37 = 0 then
        f_L_randomDesk_450 SS SV (f_L_randomDesk_406 SS SV D9) Y24 (q + 1) p_0 p_1 p_2 p_3 v_5 60 p_2 1 q q p20 p_3 (k + 1) (n + 8) N39
      else
        f_L_randomDesk_450 SS SV (f_L_randomDesk_406 SS SV D9) Y24 (q + 1) p_0 p_1 p_2 p_3 v_5 8 p_2 1 q q p20 p_3 (k + 1) (n + 8) N39
noncomputable def f_L_randomDesk_324 (SS SV : Nat → Nat)  (K169 : XY → Nat → Nat → Nat → Nat → Nat → Int32 → Int32 → Nat → Nat → XN → Option (Nat × XY × Nat × XN)) : Nat → XY → Nat → Nat → Nat → Nat → Nat → Int32 → Int32 → Nat → Int32 → Int32 → Nat → Nat → XN → Option (Nat × XY × Nat × XN)
  | 0, _, _, _, _, _, _, _, _, _, _, _, _, _, _ => none
  | D9 + 1, Y, q, p_0, p_1, p_2, p_3, v_4, v_5, p_7, v_8, v_9, k, n, N =>
    ck (kc Y p_7 = 1) <|
    if (Int32.ofNat (kn Y p_7)) ≤ v_9 then
      ck (kc Y p_3 = 18) <|
      ck (gr Y p_3 5 = some (gp Y p_3 5)) <|
      lt (gp Y p_3 5) fun p4 =>
      ck (k + 1 ≤ 400 ∧ n + 64 ≤ 40000) <|
      bd4 (f_L_with Y q p4 p_7 N) fun r7 Y9 q10 N11 =>
      ck (kc Y9 p_3 = 18) <|
      lt (sr Y9 p_3 5 (some r7)) fun Y13 =>
      ckW Y13 <|
      bd (f_L_writeNumbers SS SV Y13 p_0 p_1 (SS 18) p_7 N11) fun N16 =>
      ckW Y13 <|
      bd (f_L_write Y13 p_0 p_1 (SS 16) N16) fun N19 =>
      K169 Y13 q10 p_0 p_1 p_2 p_3 v_4 (v_5 + (-1)) (k + 1) (n + 64) N19
    else
      ck (¬ v_4 = 0) <|
      ck (xb v_9 (kn Y p_7) = true) <|
      lt (si N p_7 v_9.toNatClampNeg ((v_8 + v_9) - (v_8 + v_9) / v_4 * v_4)) fun N22 =>
      f_L_randomDesk_324 SS SV K169 D9 Y q p_0 p_1 p_2 p_3 v_4 v_5 p_7 v_8 (v_9 + 1) k n N22
noncomputable def f_L_randomDesk_300 (SS SV : Nat → Nat)  (K169 : XY → Nat → Nat → Nat → Nat → Nat → Int32 → Int32 → Nat → Nat → XN → Option (Nat × XY × Nat × XN)) (Y : XY) (q : Nat) (p_0 : Nat) (p_1 : Nat) (p_2 : Nat) (p_3 : Nat) (v_4 : Int32) (v_5 : Int32) (s0 : Int32) (k : Nat) (n : Nat) (N : XN) : Option (Nat × XY × Nat × XN) :=
  ck (¬ s0 < 0 ∧ s0.toNatClampNeg ≤ 65536) <|
  ck (kc Y q = 9 ∧ kc Y (q + 1) = 0) <|
  ck (k + 1 ≤ 400 ∧ n + s0.toNatClampNeg ≤ 40000) <|
  lt (yK Y q 1 s0.toNatClampNeg) fun Y4 =>
  lt (n0 N q) fun N5 =>
  if v_4 = 0 then
    f_L_randomDesk_324 SS SV K169 FU Y4 (q + 1) p_0 p_1 p_2 p_3 v_4 v_5 q 0 0 (k + 1) (n + s0.toNatClampNeg) N5
  else
    ck (kc Y4 p_2 = 20) <|
    bd2 (f_X10_below Y4 p_2 v_4 N5) fun r9 N11 =>
    f_L_randomDesk_324 SS SV K169 FU Y4 (q + 1) p_0 p_1 p_2 p_3 v_4 v_5 q r9 0 (k + 1) (n + s0.toNatClampNeg) N11
noncomputable def f_L_randomDesk_246 (SS SV : Nat → Nat)  (K169 : XY → Nat → Nat → Nat → Nat → Nat → Int32 → Int32 → Nat → Nat → XN → Option (Nat × XY × Nat × XN)) (Y : XY) (q : Nat) (p_0 : Nat) (p_1 : Nat) (p_2 : Nat) (p_3 : Nat) (v_4 : Int32) (v_5 : Int32) (s0 : Int32) (o1 : Nat) (s2 : Int32) (o3 : Nat) (o4 : Nat) (o5 : Nat) (o6 : Nat) (k : Nat) (n : Nat) (N : XN) : Option (Nat × XY × Nat × XN) :=
  ck (kc Y o1 = 20) <|
  ck (k ≤ 400 ∧ n ≤ 40000) <|
  bd2 (f_X10_below Y o1 s0 N) fun r3 N5 =>
  ck (kc Y o3 = 1) <|
  ck (xb s2 (kn Y o3) = true) <|
  lt (si N5 o3 s2.toNatClampNeg r3) fun N8 =>
  ck (k + 1 ≤ 400 ∧ n + 64 ≤ 40000) <|
  bd4 (f_L_with Y q o5 o4 N8) fun r10 Y12 q13 N14 =>
  ck (kc Y12 o6 = 18) <|
  lt (sr Y12 o6 4 (some r10)) fun Y16 =>
  ck (kc Y16 p_3 = 18) <|
  ck (gr Y16 p_3 4 = some (gp Y16 p_3 4)) <|
  lt (gp Y16 p_3 4) fun p18 =>
  ck (kc Y16 p18 = 8) <|
  ck (xb ((Int32.ofNat (kn Y16 p18)) - 1) (kn Y16 p18) = true) <|
  ck (gr Y16 p18 ((Int32.ofNat (kn Y16 p18)) - 1).toNatClampNeg = some (gp Y16 p18 ((Int32.ofNat (kn Y16 p18)) - 1).toNatClampNeg)) <|
  lt (gp Y16 p18 ((Int32.ofNat (kn Y16 p18)) - 1).toNatClampNeg) fun p22 =>
  ckW Y16 <|
  bd (f_L_writeNumbers SS SV Y16 p_0 p_1 (SS 17) p22 N14) fun N26 =>
  if v_4 = 0 then
    f_L_randomDesk_300 SS SV K169 Y16 q13 p_0 p_1 p_2 p_3 v_4 v_5 0 (k + 1) (n + 64) N26
  else
    bd2 (f_J9_min_7cf53 Y16 3 v_4 N26) fun r28 N29 =>
    ck (kc Y16 p_2 = 20) <|
    bd2 (f_X10_below Y16 p_2 (r28 + 1) N29) fun r32 N34 =>
    f_L_randomDesk_300 SS SV K169 Y16 q13 p_0 p_1 p_2 p_3 v_4 v_5 r32 (k + 1) (n + 64) N34
noncomputable def f_L_randomDesk_222 (SS SV : Nat → Nat)  (K169 : XY → Nat → Nat → Nat → Nat → Nat → Int32 → Int32 → Nat → Nat → XN → Option (Nat × XY × Nat × XN)) (Y : XY) (q : Nat) (p_0 : Nat) (p_1 : Nat) (p_2 : Nat) (p_3 : Nat) (v_4 : Int32) (v_5 : Int32) (s0 : Int32) (o1 : Nat) (s2 : Int32) (s3 : Int32) (o4 : Nat) (o5 : Nat) (o6 : Nat) (o7 : Nat) (k : Nat) (n : Nat) (N : XN) : Option (Nat × XY × Nat × XN) :=
  ck (kc Y o1 = 20) <|
  ck (k ≤ 400 ∧ n ≤ 40000) <|
  bd2 (f_X10_below Y o1 s0 N) fun r3 N5 =>
  ck (kc Y o4 = 1) <|
  ck (xb s3 (kn Y o4) = true) <|
  lt (si N5 o4 s3.toNatClampNeg (s2 + r3)) fun N8 =>
  ck (kc Y p_2 = 20) <|
  bd2 (f_X10_below Y p_2 2 N8) fun r10 N12 =>
  if r10 = 0 then
    f_L_randomDesk_246 SS SV K169 Y q p_0 p_1 p_2 p_3 v_4 v_5 1000 p_2 2 o5 o5 o6 o7 k n N12
  else
    f_L_randomDesk_246 SS SV K169 Y q p_0 p_1 p_2 p_3 v_4 v_5 30 p_2 2 o5 o5 o6 o7 k n N12
noncomputable def f_L_randomDesk_200 (SS SV : Nat → Nat)  (K169 : XY → Nat → Nat → Nat → Nat → Nat → Int32 → Int32 → Nat → Nat → XN → Option (Nat × XY × Nat × XN)) (Y : XY) (q : Nat) (p_0 : Nat) (p_1 : Nat) (p_2 : Nat) (p_3 : Nat) (v_4 : Int32) (v_5 : Int32) (s0 : Int32) (o1 : Nat) (s2 : Int32) (o3 : Nat) (o4 : Nat) (o5 : Nat) (o6 : Nat) (k : Nat) (n : Nat) (N : XN) : Option (Nat × XY × Nat × XN) :=
  ck (kc Y o1 = 20) <|
  ck (k ≤ 400 ∧ n ≤ 40000) <|
  bd2 (f_X10_below Y o1 s0 N) fun r3 N5 =>
  ck (kc Y o3 = 1) <|
  ck (xb s2 (kn Y o3) = true) <|
  lt (si N5 o3 s2.toNatClampNeg r3) fun N8 =>
  ck (kc Y p_2 = 20) <|
  bd2 (f_X10_below Y p_2 2 N8) fun r10 N12 =>
  if r10 = 0 then
    f_L_randomDesk_222 SS SV K169 Y q p_0 p_1 p_2 p_3 v_4 v_5 20 p_2 1 1 o4 o4 o5 o6 k n N12
  else
    f_L_randomDesk_222 SS SV K169 Y q p_0 p_1 p_2 p_3 v_4 v_5 3 p_2 1 1 o4 o4 o5 o6 k n N12
noncomputable def f_L_randomDesk_169 (SS SV : Nat → Nat)  : Nat → XY → Nat → Nat → Nat → Nat → Nat → Int32 → Int32 → Nat → Nat → XN → Option (Nat × XY × Nat × XN)
  | 0, _, _, _, _, _, _, _, _, _, _, _ => none
  | D9 + 1, Y, q, p_0, p_1, p_2, p_3, v_4, v_5, k, n, N =>
    if v_5 ≤ 0 then
      ck (kc Y p_3 = 18) <|
      ck (gr Y p_3 4 = some (gp Y p_3 4)) <|
      lt (gp Y p_3 4) fun p3 =>
      ck (kc Y p3 = 8) <|
      if (Int32.ofNat (kn Y p3)) = 0 then
        f_L_randomDesk_406 SS SV FU Y q p_0 p_1 p_2 p_3 0 k n N
      else
        ck (kc Y p_2 = 20) <|
        ck (k ≤ 400 ∧ n ≤ 40000) <|
        bd2 (f_X10_below Y p_2 10 N) fun r9 N11 =>
        f_L_randomDesk_406 SS SV FU Y q p_0 p_1 p_2 p_3 r9 k n N11
    else
      ck (kc Y p_3 = 18) <|
      ck (gr Y p_3 4 = some (gp Y p_3 4)) <|
      lt (gp Y p_3 4) fun p13 =>
      ck (kc Y q = 9 ∧ kc Y (q + 1) = 0) <|
      ck (k + 1 ≤ 400 ∧ n + 3 ≤ 40000) <|
      lt (yK Y q 1 3) fun Y17 =>
      lt (n0 N q) fun N18 =>
      ck (kc Y17 p_2 = 20) <|
      bd2 (f_X10_below Y17 p_2 3 N18) fun r21 N23 =>
      if r21 = 0 then
        f_L_randomDesk_200 SS SV (f_L_randomDesk_169 SS SV D9) Y17 (q + 1) p_0 p_1 p_2 p_3 v_4 v_5 100 p_2 0 q q p13 p_3 (k + 1) (n + 3) N23
      else
        f_L_randomDesk_200 SS SV (f_L_randomDesk_169 SS SV D9) Y17 (q + 1) p_0 p_1 p_2 p_3 v_4 v_5 12 p_2 0 q q p13 p_3 (k + 1) (n + 3) N23
noncomputable def f_L_randomDesk_77 (SS SV : Nat → Nat)  (K22 : XY → Nat → Nat → Nat → Nat → Nat → Int32 → Nat → Nat → XN → Option (Nat × XY × Nat × XN)) (Y : XY) (q : Nat) (p_0 : Nat) (p_1 : Nat) (p_2 : Nat) (p_3 : Nat) (v_4 : Int32) (s0 : Int32) (o1 : Nat) (s2 : Int32) (s3 : Int32) (o4 : Nat) (o5 : Nat) (o6 : Nat) (o7 : Nat) (k : Nat) (n : Nat) (N : XN) : Option (Nat × XY × Nat × XN) :=
  ck (kc Y o1 = 20) <|
  ck (k ≤ 400 ∧ n ≤ 40000) <|
  bd2 (f_X10_below Y o1 s0 N) fun r3 N5 =>
  ck (kc Y o4 = 1) <|
  ck (xb s3 (kn Y o4) = true) <|
  lt (si N5 o4 s3.toNatClampNeg (s2 + r3)) fun N8 =>
  ck (kc Y o5 = 1) <|
  ck (xb 2 (kn Y o5) = true) <|
  lt (si N8 o5 2 0) fun N11 =>
  ck (xb 3 (kn Y o5) = true) <|
  lt (si N11 o5 3 0) fun N13 =>
  ck (xb 4 (kn Y o5) = true) <|
  lt (si N13 o5 4 0) fun N15 =>
  ck (xb 5 (kn Y o5) = true) <|
  lt (si N15 o5 5 0) fun N17 =>
  ck (k + 1 ≤ 400 ∧ n + 64 ≤ 40000) <|
  bd4 (f_L_with Y q o6 o5 N17) fun r19 Y21 q22 N23 =>
  ck (kc Y21 o7 = 18) <|
  lt (sr Y21 o7 3 (some r19)) fun Y25 =>
  ck (kc Y25 p_3 = 18) <|
  ck (gr Y25 p_3 3 = some (gp Y25 p_3 3)) <|
  lt (gp Y25 p_3 3) fun p27 =>
  ck (kc Y25 p27 = 8) <|
  ck (xb ((Int32.ofNat (kn Y25 p27)) - 1) (kn Y25 p27) = true) <|
  ck (gr Y25 p27 ((Int32.ofNat (kn Y25 p27)) - 1).toNatClampNeg = some (gp Y25 p27 ((Int32.ofNat (kn Y25 p27)) - 1).toNatClampNeg)) <|
  lt (gp Y25 p27 ((Int32.ofNat (kn Y25 p27)) - 1).toNatClampNeg) fun p31 =>
  ck (kc Y25 q22 = 9 ∧ kc Y25 (q22 + 1) = 0) <|
  ck (k + 1 + 1 ≤ 400 ∧ n + 64 + 2 ≤ 40000) <|
  lt (yK Y25 q22 1 2) fun Y35 =>
  lt (n0 N23 q22) fun N36 =>
  ck (kc Y35 p31 = 1) <|
  ck (xb 0 (kn Y35 p31) = true) <|
  ck (xb 0 (kn Y35 q22) = true) <|
  lt (si N36 q22 0 (gi N36 p31 0)) fun N41 =>
  ck (xb 1 (kn Y35 p31) = true) <|
  ck (xb 1 (kn Y35 q22) = true) <|
  lt (si N41 q22 1 (gi N41 p31 1)) fun N44 =>
  ckW Y35 <|
  bd (f_L_writeNumbers SS SV Y35 p_0 p_1 (SS 15) q22 N44) fun N47 =>
  ckW Y35 <|
  bd (f_L_write Y35 p_0 p_1 (SS 16) N47) fun N50 =>
  K22 Y35 (q22 + 1) p_0 p_1 p_2 p_3 (v_4 + (-1)) (k + 1 + 1) (n + 64 + 2) N50
noncomputable def f_L_randomDesk_55 (SS SV : Nat → Nat)  (K22 : XY → Nat → Nat → Nat → Nat → Nat → Int32 → Nat → Nat → XN → Option (Nat × XY × Nat × XN)) (Y : XY) (q : Nat) (p_0 : Nat) (p_1 : Nat) (p_2 : Nat) (p_3 : Nat) (v_4 : Int32) (s0 : Int32) (o1 : Nat) (s2 : Int32) (o3 : Nat) (o4 : Nat) (o5 : Nat) (o6 : Nat) (k : Nat) (n : Nat) (N : XN) : Option (Nat × XY × Nat × XN) :=
  ck (kc Y o1 = 20) <|
  ck (k ≤ 400 ∧ n ≤ 40000) <|
  bd2 (f_X10_below Y o1 s0 N) fun r3 N5 =>
  ck (kc Y o3 = 1) <|
  ck (xb s2 (kn Y o3) = true) <|
  lt (si N5 o3 s2.toNatClampNeg r3) fun N8 =>
  ck (kc Y p_2 = 20) <|
  bd2 (f_X10_below Y p_2 3 N8) fun r10 N12 =>
  if r10 = 0 then
    f_L_randomDesk_77 SS SV K22 Y q p_0 p_1 p_2 p_3 v_4 20 p_2 1 1 o4 o4 o5 o6 k n N12
  else
    f_L_randomDesk_77 SS SV K22 Y q p_0 p_1 p_2 p_3 v_4 4 p_2 1 1 o4 o4 o5 o6 k n N12
noncomputable def f_L_randomDesk_22 (SS SV : Nat → Nat)  : Nat → XY → Nat → Nat → Nat → Nat → Nat → Int32 → Nat → Nat → XN → Option (Nat × XY × Nat × XN)
  | 0, _, _, _, _, _, _, _, _, _, _ => none
  | D9 + 1, Y, q, p_0, p_1, p_2, p_3, v_4, k, n, N =>
    if v_4 ≤ 0 then
      ck (kc Y p_3 = 18) <|
      ck (gr Y p_3 3 = some (gp Y p_3 3)) <|
      lt (gp Y p_3 3) fun p3 =>
      ck (kc Y p3 = 8) <|
      ck (kc Y p_2 = 20) <|
      ck (k ≤ 400 ∧ n ≤ 40000) <|
      bd2 (f_X10_below Y p_2 4 N) fun r8 N10 =>
      f_L_randomDesk_169 SS SV FU Y q p_0 p_1 p_2 p_3 (Int32.ofNat (kn Y p3)) r8 k n N10
    else
      ck (kc Y p_3 = 18) <|
      ck (gr Y p_3 3 = some (gp Y p_3 3)) <|
      lt (gp Y p_3 3) fun p12 =>
      ck (kc Y q = 9 ∧ kc Y (q + 1) = 0) <|
      ck (k + 1 ≤ 400 ∧ n + 6 ≤ 40000) <|
      lt (yK Y q 1 6) fun Y16 =>
      lt (n0 N q) fun N17 =>
      ck (kc Y16 p_2 = 20) <|
      bd2 (f_X10_below Y16 p_2 3 N17) fun r20 N22 =>
      if r20 = 0 then
        f_L_randomDesk_55 SS SV (f_L_randomDesk_22 SS SV D9) Y16 (q + 1) p_0 p_1 p_2 p_3 v_4 1000 p_2 0 q q p12 p_3 (k + 1) (n + 6) N22
      else
        f_L_randomDesk_55 SS SV (f_L_randomDesk_22 SS SV D9) Y16 (q + 1) p_0 p_1 p_2 p_3 v_4 30 p_2 0 q q p12 p_3 (k + 1) (n + 6) N22
noncomputable def f_L_randomDesk (SS SV : Nat → Nat) (Y : XY) (q : Nat) (a0 : Nat) (a1 : Nat) (a2 : Nat) (N : XN) : Option (Nat × XY × Nat × XN) :=
  ck (kc Y q = 9 ∧ kc Y (q + 1) = 0) <|
  lt (yK Y q 18 0) fun Y2 =>
  lt (n0 N q) fun N3 =>
  bd3 (f_X8_init Y2 (q + 1) q N3) fun Y6 q7 N8 =>
  ckW Y6 <|
  bd (f_L_write Y6 a0 a1 (SS 14) N8) fun N11 =>
  ck (kc Y6 a2 = 20) <|
  bd2 (f_X10_below Y6 a2 5 N11) fun r13 N15 =>
  f_L_randomDesk_22 SS SV FU Y6 q7 a0 a1 a2 q r13 6 13 N15
