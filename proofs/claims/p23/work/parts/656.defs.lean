/-! THE PRINTED FUNCTIONS -/
noncomputable def f_J8_newLength_cabcc (Y : XY) (a0 : Int32) (a1 : Int32) (a2 : Int32) (N : XN) : Option (Int32 × XN) :=
  bd2 (f_J9_max_7cf53 Y a1 a2 N) fun r1 N2 =>
  if (a0 + r1) ≤ (0 : Int32) then
    none
  else
    if (2147483639 : Int32) < (a0 + r1) then
      none
    else
      some (a0 + r1, N2)
noncomputable def f_J7_checkLength_df160 (Y : XY) (a0 : Int32) (a1 : Int32) (N : XN) : Option XN :=
  if a0 ≤ a1 then
    some N
  else
    none
noncomputable def f_J7_copyOf_9075b (Y : XY) (q : Nat) (a0 : Nat) (a1 : Int32) (N : XN) : Option (Nat × XY × Nat × XN) :=
  ck (isB (kc Y a0) = true) <|
  if a1 = (Int32.ofNat (kn Y a0)) then
    ck (kc Y a0 = 2) <|
    ckF N a0 0 (kn Y a0) <|
    ck (kc Y q = 9 ∧ kc Y (q + 1) = 0) <|
    ck (1 ≤ 1 ∧ 0 + (kn Y a0) ≤ 400) <|
    lt (yK Y q 2 (kn Y a0)) fun Y7 =>
    lt (nC N q a0) fun N8 =>
    some (q, Y7, q + 1, N8)
  else
    ck (¬ a1 < 0 ∧ a1.toNatClampNeg ≤ 65536) <|
    ck (kc Y q = 9 ∧ kc Y (q + 1) = 0) <|
    ck (1 ≤ 1 ∧ 0 + a1.toNatClampNeg ≤ 400) <|
    lt (yK Y q 2 a1.toNatClampNeg) fun Y13 =>
    lt (n0 N q) fun N14 =>
    ck (isB (kc Y13 a0) = true) <|
    bd2 (f_J9_min_7cf53 Y13 (Int32.ofNat (kn Y13 a0)) a1 N14) fun r17 N18 =>
    ck (¬ r17 < 0) <|
    ck (0 + r17.toNatClampNeg ≤ kn Y13 a0) <|
    ck (0 + r17.toNatClampNeg ≤ kn Y13 q) <|
    ckF N18 a0 0 r17.toNatClampNeg <|
    lt (sb8 N18 a0 q 0 0 r17.toNatClampNeg) fun N24 =>
    some (q, Y13, q + 1, N24)
noncomputable def f_J7_copyOfRangeByte_39247 (Y : XY) (q : Nat) (a0 : Nat) (a1 : Int32) (a2 : Int32) (N : XN) : Option (Nat × XY × Nat × XN) :=
  bd (f_J7_checkLength_df160 Y a1 a2 N) fun N2 =>
  ck (¬ (a2 - a1) < 0 ∧ (a2 - a1).toNatClampNeg ≤ 65536) <|
  ck (kc Y q = 9 ∧ kc Y (q + 1) = 0) <|
  ck (1 ≤ 1 ∧ 0 + ((a2 - a1).toNatClampNeg) ≤ 400) <|
  lt (yK Y q 2 ((a2 - a1).toNatClampNeg)) fun Y6 =>
  lt (n0 N2 q) fun N7 =>
  ck (isB (kc Y6 a0) = true) <|
  bd2 (f_J9_min_7cf53 Y6 ((Int32.ofNat (kn Y6 a0)) - a1) (a2 - a1) N7) fun r10 N11 =>
  ck (¬ a1 < 0) <|
  ck (¬ r10 < 0) <|
  ck (a1.toNatClampNeg + r10.toNatClampNeg ≤ kn Y6 a0) <|
  ck (0 + r10.toNatClampNeg ≤ kn Y6 q) <|
  ckF N11 a0 a1.toNatClampNeg r10.toNatClampNeg <|
  lt (sb8 N11 a0 q a1.toNatClampNeg 0 r10.toNatClampNeg) fun N18 =>
  some (q, Y6, q + 1, N18)
noncomputable def f_J7_copyOfRange_39247 (Y : XY) (q : Nat) (a0 : Nat) (a1 : Int32) (a2 : Int32) (N : XN) : Option (Nat × XY × Nat × XN) :=
  if a1 = 0 then
    ck (isB (kc Y a0) = true) <|
    if a2 = (Int32.ofNat (kn Y a0)) then
      ck (kc Y a0 = 2) <|
      ckF N a0 0 (kn Y a0) <|
      ck (kc Y q = 9 ∧ kc Y (q + 1) = 0) <|
      ck (1 ≤ 1 ∧ 0 + (kn Y a0) ≤ 400) <|
      lt (yK Y q 2 (kn Y a0)) fun Y8 =>
      lt (nC N q a0) fun N9 =>
      some (q, Y8, q + 1, N9)
    else
      bd4 (f_J7_copyOfRangeByte_39247 Y q a0 a1 a2 N) fun r11 Y13 q14 N15 =>
      some (r11, Y13, q14, N15)
  else
    bd4 (f_J7_copyOfRangeByte_39247 Y q a0 a1 a2 N) fun r16 Y18 q19 N20 =>
    some (r16, Y18, q19, N20)
noncomputable def f_J6_stringSize_0f7a4_16 (Y : XY)  : Nat → Int32 → Int32 → Int32 → Int32 → XN → Option (Int32 × XN)
  | 0, _, _, _, _, _ => none
  | D9 + 1, v_0, v_1, v_2, v_3, N =>
    if (10 : Int32) ≤ v_3 then
      some (10 + v_1, N)
    else
      if v_0 ≤ v_2 then
        f_J6_stringSize_0f7a4_16 Y D9 v_0 v_1 (10 * v_2) (v_3 + 1) N
      else
        some (v_3 + v_1, N)
noncomputable def f_J6_stringSize_0f7a4 (Y : XY) (a0 : Int32) (N : XN) : Option (Int32 × XN) :=
  if a0 < 0 then
    f_J6_stringSize_0f7a4_16 Y FU a0 1 (-10) 1 N
  else
    f_J6_stringSize_0f7a4_16 Y FU (-a0) 0 (-10) 1 N
noncomputable def f_J6_getChars_ba4f3_22 (SS SV : Nat → Nat) (Y : XY)  : Nat → Int32 → Nat → Int32 → Int32 → XN → Option (Int32 × XN)
  | 0, _, _, _, _, _ => none
  | D9 + 1, v_0, p_2, v_5, v_6, N =>
    if ((-100) : Int32) < v_0 then
      ck (isB (kc Y (SV 100)) = true) <|
      ck (xb (-v_0) (kn Y (SV 100)) = true) <|
      ck (kc Y p_2 = 2) <|
      ck (xb (v_5 + (-1)) (kn Y p_2) = true) <|
      lt (si N p_2 ((v_5 + (-1)).toNatClampNeg) (vp_nar .byte (gi N (SV 100) (-v_0).toNatClampNeg))) fun N6 =>
      if ((-9) : Int32) ≤ v_0 then
        if v_6 = 0 then
          some (v_5 + (-1), N6)
        else
          ck (xb ((v_5 + (-1)) + (-1)) (kn Y p_2) = true) <|
          lt (si N6 p_2 (((v_5 + (-1)) + (-1)).toNatClampNeg) (vp_nar .byte 45)) fun N10 =>
          some ((v_5 + (-1)) + (-1), N10)
      else
        ck (isB (kc Y (SV 101)) = true) <|
        ck (xb (-v_0) (kn Y (SV 101)) = true) <|
        ck (xb ((v_5 + (-1)) + (-1)) (kn Y p_2) = true) <|
        lt (si N6 p_2 (((v_5 + (-1)) + (-1)).toNatClampNeg) (vp_nar .byte (gi N6 (SV 101) (-v_0).toNatClampNeg))) fun N14 =>
        if v_6 = 0 then
          some ((v_5 + (-1)) + (-1), N14)
        else
          ck (xb (((v_5 + (-1)) + (-1)) + (-1)) (kn Y p_2) = true) <|
          lt (si N14 p_2 ((((v_5 + (-1)) + (-1)) + (-1)).toNatClampNeg) (vp_nar .byte 45)) fun N17 =>
          some (((v_5 + (-1)) + (-1)) + (-1), N17)
    else
      lt (((v_0 / 100) * 100) - v_0) fun v18 =>
      ck (isB (kc Y (SV 100)) = true) <|
      ck (xb v18 (kn Y (SV 100)) = true) <|
      ck (kc Y p_2 = 2) <|
      ck (xb (v_5 + (-1)) (kn Y p_2) = true) <|
      lt (si N p_2 ((v_5 + (-1)).toNatClampNeg) (vp_nar .byte (gi N (SV 100) v18.toNatClampNeg))) fun N23 =>
      ck (isB (kc Y (SV 101)) = true) <|
      ck (xb v18 (kn Y (SV 101)) = true) <|
      ck (xb ((v_5 + (-1)) + (-1)) (kn Y p_2) = true) <|
      lt (si N23 p_2 (((v_5 + (-1)) + (-1)).toNatClampNeg) (vp_nar .byte (gi N23 (SV 101) v18.toNatClampNeg))) fun N27 =>
      f_J6_getChars_ba4f3_22 SS SV Y D9 (v_0 / 100) p_2 ((v_5 + (-1)) + (-1)) v_6 N27
noncomputable def f_J6_getChars_ba4f3 (SS SV : Nat → Nat) (Y : XY) (a0 : Int32) (a1 : Int32) (a2 : Nat) (N : XN) : Option (Int32 × XN) :=
  if (0 : Int32) ≤ a0 then
    f_J6_getChars_ba4f3_22 SS SV Y FU (-a0) a2 a1 0 N
  else
    f_J6_getChars_ba4f3_22 SS SV Y FU a0 a2 a1 1 N
noncomputable def f_J5_init_d00df (Y : XY) (q : Nat) (a0 : Nat) (a1 : Int32) (N : XN) : Option (XY × Nat × XN) :=
  ck (¬ a1 < 0 ∧ a1.toNatClampNeg ≤ 65536) <|
  ck (kc Y q = 9 ∧ kc Y (q + 1) = 0) <|
  ck (1 ≤ 1 ∧ 0 + a1.toNatClampNeg ≤ 16) <|
  lt (yK Y q 2 a1.toNatClampNeg) fun Y4 =>
  lt (n0 N q) fun N5 =>
  ck (kc Y4 a0 = 22) <|
  lt (sr Y4 a0 0 (some q)) fun Y8 =>
  lt (si N5 a0 1 0) fun N10 =>
  some (Y8, q + 1, N10)
noncomputable def f_J5_isLatin1_aae02 (Y : XY) (a0 : Nat) (N : XN) : Option (Int32 × XN) :=
  ck (kc Y a0 = 22) <|
  if (gi N a0 1) = 0 then
    some (1, N)
  else
    some (0, N)
noncomputable def f_J5_newCapacity_0f7a4 (Y : XY) (a0 : Nat) (a1 : Int32) (N : XN) : Option (Int32 × XN) :=
  ck (kc Y a0 = 22) <|
  ck (gr Y a0 0 = some (gp Y a0 0)) <|
  lt (gp Y a0 0) fun p2 =>
  ck (isB (kc Y p2) = true) <|
  lt (a1 <<< ((gi N a0 1) &&& 31)) fun v5 =>
  lt (v5 - (Int32.ofNat (kn Y p2))) fun v6 =>
  bd2 (f_J8_newLength_cabcc Y (Int32.ofNat (kn Y p2)) v6 ((Int32.ofNat (kn Y p2)) + (2 <<< ((gi N a0 1) &&& 31))) N) fun r7 N9 =>
  if r7 = 2147483647 then
    none
  else
    some (r7 >>> ((gi N9 a0 1) &&& 31), N9)
noncomputable def f_J5_ensureCapacityInternal_d00df (Y : XY) (q : Nat) (a0 : Nat) (a1 : Int32) (N : XN) : Option (XY × Nat × XN) :=
  ck (kc Y a0 = 22) <|
  ck (gr Y a0 0 = some (gp Y a0 0)) <|
  lt (gp Y a0 0) fun p2 =>
  ck (isB (kc Y p2) = true) <|
  lt ((Int32.ofNat (kn Y p2)) >>> ((gi N a0 1) &&& 31)) fun v5 =>
  if (a1 - v5) ≤ 0 then
    some (Y, q, N)
  else
    bd2 (f_J5_newCapacity_0f7a4 Y a0 a1 N) fun r7 N9 =>
    bd4 (f_J7_copyOf_9075b Y q p2 (r7 <<< ((gi N9 a0 1) &&& 31)) N9) fun r10 Y12 q13 N14 =>
    ck (kc Y12 a0 = 22) <|
    lt (sr Y12 a0 0 (some r10)) fun Y16 =>
    some (Y16, q13, N14)
noncomputable def f_J0_coder_7d493 (Y : XY) (a0 : Nat) (N : XN) : Option (Int32 × XN) :=
  ck (isS (kc Y a0) = true) <|
  ck (xby (gi N a0 1) = true) <|
  some (gi N a0 1, N)
noncomputable def f_J5_inflateIfNeededFor_a7421 (Y : XY) (a0 : Nat) (a1 : Nat) (N : XN) : Option XN :=
  ck (kc Y a0 = 22) <|
  ck (isS (kc Y a1) = true) <|
  bd2 (f_J0_coder_7d493 Y a1 N) fun r3 N5 =>
  if (gi N a0 1) = r3 then
    some N5
  else
    none
noncomputable def f_J0_length_8abf5 (Y : XY) (a0 : Nat) (N : XN) : Option (Int32 × XN) :=
  ck (isS (kc Y a0) = true) <|
  ck (gr Y a0 0 = some (gp Y a0 0)) <|
  lt (gp Y a0 0) fun p2 =>
  ck (isB (kc Y p2) = true) <|
  bd2 (f_J0_coder_7d493 Y a0 N) fun r5 N7 =>
  some ((Int32.ofNat (kn Y p2)) >>> (r5 &&& 31), N7)
noncomputable def f_J0_isLatin1_aae02 (Y : XY) (a0 : Nat) (N : XN) : Option (Int32 × XN) :=
  ck (isS (kc Y a0) = true) <|
  if (gi N a0 1) = 0 then
    some (1, N)
  else
    some (0, N)
noncomputable def f_J1_charAt_3b067 (Y : XY) (a0 : Nat) (a1 : Int32) (N : XN) : Option (Int32 × XN) :=
  ck (isB (kc Y a0) = true) <|
  ck (¬ a1 < 0 ∧ a1 < (Int32.ofNat (kn Y a0))) <|
  ck (xb a1 (kn Y a0) = true) <|
  ck (xch ((((gi N a0 a1.toNatClampNeg) &&& 255).toUInt32 % 65536).toInt32) = true) <|
  some ((((gi N a0 a1.toNatClampNeg) &&& 255).toUInt32 % 65536).toInt32, N)
noncomputable def f_J0_charAt_5068e (Y : XY) (a0 : Nat) (a1 : Int32) (N : XN) : Option (Int32 × XN) :=
  ck (isS (kc Y a0) = true) <|
  bd2 (f_J0_isLatin1_aae02 Y a0 N) fun r2 N4 =>
  if r2 = 0 then
    ck (gr Y a0 0 = some (gp Y a0 0)) <|
    lt (gp Y a0 0) fun p6 =>
    none
  else
    ck (gr Y a0 0 = some (gp Y a0 0)) <|
    lt (gp Y a0 0) fun p8 =>
    bd2 (f_J1_charAt_3b067 Y p8 a1 N4) fun r10 N12 =>
    ck (xch r10 = true) <|
    some (r10, N12)
noncomputable def f_J0_getBytes_840e7 (Y : XY) (a0 : Nat) (a1 : Nat) (a2 : Int32) (a3 : Int32) (N : XN) : Option XN :=
  ck (isS (kc Y a0) = true) <|
  bd2 (f_J0_coder_7d493 Y a0 N) fun r2 N4 =>
  if r2 = a3 then
    ck (gr Y a0 0 = some (gp Y a0 0)) <|
    lt (gp Y a0 0) fun p6 =>
    ck (isB (kc Y p6) = true) <|
    ck (kc Y a1 = 2) <|
    ck (¬ (a2 <<< (a3 &&& 31)) < 0) <|
    ck (¬ (Int32.ofNat (kn Y p6)) < 0) <|
    ck (0 + (Int32.ofNat (kn Y p6)).toNatClampNeg ≤ kn Y p6) <|
    ck ((a2 <<< (a3 &&& 31)).toNatClampNeg + (Int32.ofNat (kn Y p6)).toNatClampNeg ≤ kn Y a1) <|
    ckF N4 p6 0 ((Int32.ofNat (kn Y p6)).toNatClampNeg) <|
    lt (sb8 N4 p6 a1 0 ((a2 <<< (a3 &&& 31)).toNatClampNeg) ((Int32.ofNat (kn Y p6)).toNatClampNeg)) fun N15 =>
    some N15
  else
    ck (gr Y a0 0 = some (gp Y a0 0)) <|
    lt (gp Y a0 0) fun p16 =>
    ck (isB (kc Y p16) = true) <|
    none
noncomputable def f_J5_putStringAt_47b60 (Y : XY) (a0 : Nat) (a1 : Int32) (a2 : Nat) (N : XN) : Option XN :=
  ck (kc Y a0 = 22) <|
  bd (f_J5_inflateIfNeededFor_a7421 Y a0 a2 N) fun N3 =>
  ck (gr Y a0 0 = some (gp Y a0 0)) <|
  lt (gp Y a0 0) fun p4 =>
  ck (isS (kc Y a2) = true) <|
  bd (f_J0_getBytes_840e7 Y a2 p4 a1 (gi N3 a0 1) N3) fun N8 =>
  some N8
noncomputable def f_J5_append_cf1ce (Y : XY) (q : Nat) (a0 : Nat) (a1 : Nat) (N : XN) : Option (Nat × XY × Nat × XN) :=
  ck (isS (kc Y a1) = true) <|
  bd2 (f_J0_length_8abf5 Y a1 N) fun r2 N4 =>
  ck (kc Y a0 = 22) <|
  bd3 (f_J5_ensureCapacityInternal_d00df Y q a0 ((gi N4 a0 3) + r2) N4) fun Y7 q8 N9 =>
  ck (kc Y7 a0 = 22) <|
  bd (f_J5_putStringAt_47b60 Y7 a0 (gi N9 a0 3) a1 N9) fun N12 =>
  lt (si N12 a0 3 ((gi N12 a0 3) + r2)) fun N13 =>
  some (a0, Y7, q8, N13)
noncomputable def f_J5_append_c97b9 (SS SV : Nat → Nat) (Y : XY) (q : Nat) (a0 : Nat) (a1 : Int32) (N : XN) : Option (Nat × XY × Nat × XN) :=
  ck (kc Y a0 = 22) <|
  bd2 (f_J6_stringSize_0f7a4 Y a1 N) fun r2 N4 =>
  bd3 (f_J5_ensureCapacityInternal_d00df Y q a0 ((gi N a0 3) + r2) N4) fun Y6 q7 N8 =>
  ck (kc Y6 a0 = 22) <|
  bd2 (f_J5_isLatin1_aae02 Y6 a0 N8) fun r10 N12 =>
  if r10 = 0 then
    ck (gr Y6 a0 0 = some (gp Y6 a0 0)) <|
    lt (gp Y6 a0 0) fun p14 =>
    none
  else
    ck (gr Y6 a0 0 = some (gp Y6 a0 0)) <|
    lt (gp Y6 a0 0) fun p16 =>
    bd2 (f_J6_getChars_ba4f3 SS SV Y6 a1 ((gi N a0 3) + r2) p16 N12) fun r18 N20 =>
    lt (si N20 a0 3 ((gi N a0 3) + r2)) fun N21 =>
    some (a0, Y6, q7, N21)
noncomputable def f_J5_getValue_6d5f1 (Y : XY) (a0 : Nat) (N : XN) : Option (Nat × XN) :=
  ck (kc Y a0 = 22) <|
  ck (gr Y a0 0 = some (gp Y a0 0)) <|
  lt (gp Y a0 0) fun p2 =>
  some (p2, N)
noncomputable def f_J5_length_8abf5 (Y : XY) (a0 : Nat) (N : XN) : Option (Int32 × XN) :=
  ck (kc Y a0 = 22) <|
  some (gi N a0 3, N)
noncomputable def f_J4_length_8abf5 (Y : XY) (a0 : Nat) (N : XN) : Option (Int32 × XN) :=
  ck (kc Y a0 = 22) <|
  bd2 (f_J5_length_8abf5 Y a0 N) fun r2 N4 =>
  some (r2, N4)
noncomputable def f_J0_init_db425_79  (Y : XY) (q : Nat) (p_0 : Nat) (p_3 : Nat) (v_4 : Int32) (k : Nat) (n : Nat) (N : XN) : Option (XY × Nat × XN) :=
  ck (kc Y p_0 = 21) <|
  lt (si N p_0 1 1) fun N2 =>
  ck (k + 1 ≤ 1 ∧ n + 400 ≤ 400) <|
  bd4 (f_J7_copyOfRange_39247 Y q p_3 0 (v_4 <<< (1 &&& 31)) N2) fun r4 Y6 q7 N8 =>
  ck (kc Y6 p_0 = 21) <|
  lt (sr Y6 p_0 0 (some r4)) fun Y10 =>
  some (Y10, q7, N8)
noncomputable def f_J0_init_db425 (Y : XY) (q : Nat) (a0 : Nat) (a1 : Nat) (N : XN) : Option (XY × Nat × XN) :=
  ck (kc Y a1 = 22) <|
  bd2 (f_J5_getValue_6d5f1 Y a1 N) fun r2 N4 =>
  bd2 (f_J4_length_8abf5 Y a1 N4) fun r5 N7 =>
  bd2 (f_J5_isLatin1_aae02 Y a1 N7) fun r8 N10 =>
  if r8 = 0 then
    if (gi N10 a1 2) = 0 then
      f_J0_init_db425_79 Y q a0 r2 r5 0 0 N10
    else
      none
  else
    ck (kc Y a0 = 21) <|
    lt (si N10 a0 1 0) fun N14 =>
    bd4 (f_J7_copyOfRange_39247 Y q r2 0 r5 N14) fun r15 Y17 q18 N19 =>
    ck (kc Y17 a0 = 21) <|
    lt (sr Y17 a0 0 (some r15)) fun Y21 =>
    some (Y21, q18, N19)
noncomputable def f_J0_init_81219 (Y : XY) (q : Nat) (a0 : Nat) (a1 : Nat) (N : XN) : Option (XY × Nat × XN) :=
  bd3 (f_J0_init_db425 Y q a0 a1 N) fun Y2 q3 N4 =>
  some (Y2, q3, N4)
noncomputable def f_J4_init_da8c8 (Y : XY) (q : Nat) (a0 : Nat) (N : XN) : Option (XY × Nat × XN) :=
  bd3 (f_J5_init_d00df Y q a0 16 N) fun Y2 q3 N4 =>
  some (Y2, q3, N4)
noncomputable def f_J4_append_15ec4 (Y : XY) (q : Nat) (a0 : Nat) (a1 : Nat) (N : XN) : Option (Nat × XY × Nat × XN) :=
  ck (kc Y a0 = 22) <|
  bd4 (f_J5_append_cf1ce Y q a0 a1 N) fun r2 Y4 q5 N6 =>
  some (a0, Y4, q5, N6)
noncomputable def f_J4_append_bf812 (SS SV : Nat → Nat) (Y : XY) (q : Nat) (a0 : Nat) (a1 : Int32) (N : XN) : Option (Nat × XY × Nat × XN) :=
  ck (kc Y a0 = 22) <|
  bd4 (f_J5_append_c97b9 SS SV Y q a0 a1 N) fun r2 Y4 q5 N6 =>
  some (a0, Y4, q5, N6)
noncomputable def f_J4_toString_0e30d (Y : XY) (q : Nat) (a0 : Nat) (N : XN) : Option (Nat × XY × Nat × XN) :=
  ck (kc Y q = 9 ∧ kc Y (q + 1) = 0) <|
  lt (yK Y q 21 0) fun Y2 =>
  lt (n0 N q) fun N3 =>
  bd3 (f_J0_init_81219 Y2 (q + 1) q a0 N3) fun Y6 q7 N8 =>
  some (q, Y6, q7, N8)
noncomputable def f_X10_init (Y : XY) (a0 : Nat) (a1 : Int32) (N : XN) : Option XN :=
  ck (kc Y a0 = 20) <|
  lt (si N a0 0 a1) fun N2 =>
  some N2
noncomputable def f_X10_below (Y : XY) (a0 : Nat) (a1 : Int32) (N : XN) : Option (Int32 × XN) :=
  ck (kc Y a0 = 20) <|
  lt (si N a0 0 ((1103515245 * (gi N a0 0)) + 12345)) fun N2 =>
  ck (¬ a1 = 0) <|
  some ((((gi N2 a0 0).toUInt32 >>> ((16 : Int32).toUInt32 &&& Int32.toUInt32 31)).toInt32) - (((gi N2 a0 0).toUInt32 >>> ((16 : Int32).toUInt32 &&& Int32.toUInt32 31)).toInt32) / a1 * a1, N2)
noncomputable def f_X9_init (Y : XY) (a0 : Nat) (N : XN) : Option XN :=
  some N
noncomputable def f_X9_random_67 (FS : XY → Nat → Nat → Int32 → XN → Option (Nat × XY × Nat × XN)) (D : Nat)  (Y : XY) (q : Nat) (p_0 : Nat) (v_1 : Int32) (p_2 : Nat) (s0 : Int32) (o1 : Nat) (k : Nat) (n : Nat) (N : XN) : Option (Nat × XY × Nat × XN) :=
  ck (kc Y o1 = 19) <|
  lt (si N o1 1 s0) fun N2 =>
  ck (kc Y p_2 = 19) <|
  if (gi N2 p_2 0) ≤ 1 then
    ck (k ≤ rC 1 (D + 1) ∧ n ≤ rC 4 (D + 1)) <|
    some (p_2, Y, q, N2)
  else
    ck (k + (rC 1 D) ≤ rC 1 (D + 1) ∧ n + (rC 4 D) ≤ rC 4 (D + 1)) <|
    bd4 (FS Y q p_0 (v_1 - 1) N2) fun r7 Y9 q10 N11 =>
    ck (kc Y9 p_2 = 19) <|
    lt (sr Y9 p_2 2 (some r7)) fun Y13 =>
    ck (k + (rC 1 D) + (rC 1 D) ≤ rC 1 (D + 1) ∧ n + (rC 4 D) + (rC 4 D) ≤ rC 4 (D + 1)) <|
    bd4 (FS Y13 q10 p_0 (v_1 - 1) N11) fun r15 Y17 q18 N19 =>
    ck (kc Y17 p_2 = 19) <|
    lt (sr Y17 p_2 3 (some r15)) fun Y21 =>
    some (p_2, Y21, q18, N19)
noncomputable def f_X9_random_56 (FS : XY → Nat → Nat → Int32 → XN → Option (Nat × XY × Nat × XN)) (D : Nat)  (Y : XY) (q : Nat) (p_0 : Nat) (v_1 : Int32) (p_2 : Nat) (s0 : Int32) (o1 : Nat) (o2 : Nat) (k : Nat) (n : Nat) (N : XN) : Option (Nat × XY × Nat × XN) :=
  ck (kc Y o1 = 20) <|
  ck (k ≤ rC 1 (D + 1) ∧ n ≤ rC 4 (D + 1)) <|
  bd2 (f_X10_below Y o1 s0 N) fun r3 N5 =>
  f_X9_random_67 FS D Y q p_0 v_1 p_2 r3 o2 k n N5
noncomputable def f_X9_random_27 (FS : XY → Nat → Nat → Int32 → XN → Option (Nat × XY × Nat × XN)) (D : Nat)  (Y : XY) (q : Nat) (p_0 : Nat) (v_1 : Int32) (p_2 : Nat) (s0 : Int32) (o1 : Nat) (k : Nat) (n : Nat) (N : XN) : Option (Nat × XY × Nat × XN) :=
  ck (kc Y o1 = 19) <|
  lt (si N o1 0 s0) fun N2 =>
  ck (kc Y p_2 = 19) <|
  if (gi N2 p_2 0) = 0 then
    ck (kc Y p_0 = 20) <|
    ck (k ≤ rC 1 (D + 1) ∧ n ≤ rC 4 (D + 1)) <|
    bd2 (f_X10_below Y p_0 8 N2) fun r7 N9 =>
    if r7 = 0 then
      f_X9_random_56 FS D Y q p_0 v_1 p_2 10000 p_0 p_2 k n N9
    else
      f_X9_random_56 FS D Y q p_0 v_1 p_2 9 p_0 p_2 k n N9
  else
    ck (kc Y p_0 = 20) <|
    ck (k ≤ rC 1 (D + 1) ∧ n ≤ rC 4 (D + 1)) <|
    bd2 (f_X10_below Y p_0 4 N2) fun r13 N15 =>
    f_X9_random_67 FS D Y q p_0 v_1 p_2 r13 p_2 k n N15
noncomputable def f_X9_random : Nat → XY → Nat → Nat → Int32 → XN → Option (Nat × XY × Nat × XN)
  | 0, _, _, _, _, _ => none
  | D + 1, Y, q, a0, a1, N =>
    ck (kc Y q = 9 ∧ kc Y (q + 1) = 0) <|
    lt (yK Y q 19 0) fun Y2 =>
    lt (n0 N q) fun N3 =>
    bd (f_X9_init Y2 q N3) fun N6 =>
    if a1 = 0 then
      ck (kc Y2 a0 = 20) <|
      bd2 (f_X10_below Y2 a0 2 N6) fun r9 N11 =>
      f_X9_random_27 (f_X9_random D) D Y2 (q + 1) a0 a1 q r9 q 1 4 N11
    else
      ck (kc Y2 a0 = 20) <|
      bd2 (f_X10_below Y2 a0 6 N6) fun r13 N15 =>
      f_X9_random_27 (f_X9_random D) D Y2 (q + 1) a0 a1 q r13 q 1 4 N15
noncomputable def f_X9_text_120 (SS SV : Nat → Nat) (FS : XY → Nat → Nat → Int32 → XN → Option (Nat × XY × Nat × XN)) (D : Nat)  (Y : XY) (q : Nat) (p_0 : Nat) (v_1 : Int32) (v_2 : Int32) (o0 : Nat) (o1 : Nat) (k : Nat) (n : Nat) (N : XN) : Option (Nat × XY × Nat × XN) :=
  ck (kc Y o1 = 22) <|
  ck (k + 1 ≤ rC 17 (D + 1) ∧ n + 400 ≤ rC 3300 (D + 1)) <|
  bd4 (f_J4_append_15ec4 Y q o1 o0 N) fun r3 Y5 q6 N7 =>
  ck (kc Y5 p_0 = 19) <|
  ck (gr Y5 p_0 3 = some (gp Y5 p_0 3)) <|
  lt (gp Y5 p_0 3) fun p9 =>
  ck (kc Y5 p9 = 19) <|
  ck (k + 1 + (rC 17 D) ≤ rC 17 (D + 1) ∧ n + 400 + (rC 3300 D) ≤ rC 3300 (D + 1)) <|
  bd4 (FS Y5 q6 p9 (v_2 + 1) N7) fun r13 Y15 q16 N17 =>
  ck (kc Y15 r3 = 22) <|
  ck (k + 1 + (rC 17 D) + 1 ≤ rC 17 (D + 1) ∧ n + 400 + (rC 3300 D) + 400 ≤ rC 3300 (D + 1)) <|
  bd4 (f_J4_append_15ec4 Y15 q16 r3 r13 N17) fun r20 Y22 q23 N24 =>
  ck (kc Y22 r20 = 22) <|
  ck (k + 1 + (rC 17 D) + 1 + 2 ≤ rC 17 (D + 1) ∧ n + 400 + (rC 3300 D) + 400 + 404 ≤ rC 3300 (D + 1)) <|
  bd4 (f_J4_toString_0e30d Y22 q23 r20 N24) fun r27 Y29 q30 N31 =>
  if v_1 ≤ v_2 then
    some (r27, Y29, q30, N31)
  else
    ck (kc Y29 q30 = 9 ∧ kc Y29 (q30 + 1) = 0) <|
    ck (k + 1 + (rC 17 D) + 1 + 2 + 1 ≤ rC 17 (D + 1) ∧ n + 400 + (rC 3300 D) + 400 + 404 + 4 ≤ rC 3300 (D + 1)) <|
    lt (yK Y29 q30 22 0) fun Y35 =>
    lt (n0 N31 q30) fun N36 =>
    ck (k + 1 + (rC 17 D) + 1 + 2 + 1 + 1 ≤ rC 17 (D + 1) ∧ n + 400 + (rC 3300 D) + 400 + 404 + 4 + 16 ≤ rC 3300 (D + 1)) <|
    bd3 (f_J4_init_da8c8 Y35 (q30 + 1) q30 N36) fun Y40 q41 N42 =>
    ck (kc Y40 q30 = 22) <|
    ck (k + 1 + (rC 17 D) + 1 + 2 + 1 + 1 + 1 ≤ rC 17 (D + 1) ∧ n + 400 + (rC 3300 D) + 400 + 404 + 4 + 16 + 400 ≤ rC 3300 (D + 1)) <|
    bd4 (f_J4_append_15ec4 Y40 q41 q30 (SS 35) N42) fun r45 Y47 q48 N49 =>
    ck (kc Y47 r45 = 22) <|
    ck (k + 1 + (rC 17 D) + 1 + 2 + 1 + 1 + 1 + 1 ≤ rC 17 (D + 1) ∧ n + 400 + (rC 3300 D) + 400 + 404 + 4 + 16 + 400 + 400 ≤ rC 3300 (D + 1)) <|
    bd4 (f_J4_append_15ec4 Y47 q48 r45 r27 N49) fun r52 Y54 q55 N56 =>
    ck (kc Y54 r52 = 22) <|
    ck (k + 1 + (rC 17 D) + 1 + 2 + 1 + 1 + 1 + 1 + 1 ≤ rC 17 (D + 1) ∧ n + 400 + (rC 3300 D) + 400 + 404 + 4 + 16 + 400 + 400 + 400 ≤ rC 3300 (D + 1)) <|
    bd4 (f_J4_append_15ec4 Y54 q55 r52 (SS 36) N56) fun r59 Y61 q62 N63 =>
    ck (kc Y61 r59 = 22) <|
    ck (k + 1 + (rC 17 D) + 1 + 2 + 1 + 1 + 1 + 1 + 1 + 2 ≤ rC 17 (D + 1) ∧ n + 400 + (rC 3300 D) + 400 + 404 + 4 + 16 + 400 + 400 + 400 + 404 ≤ rC 3300 (D + 1)) <|
    bd4 (f_J4_toString_0e30d Y61 q62 r59 N63) fun r66 Y68 q69 N70 =>
    some (r66, Y68, q69, N70)
noncomputable def f_X9_text_60 (SS SV : Nat → Nat) (FS : XY → Nat → Nat → Int32 → XN → Option (Nat × XY × Nat × XN)) (D : Nat)  (Y : XY) (q : Nat) (p_0 : Nat) (v_1 : Int32) (s0 : Int32) (k : Nat) (n : Nat) (N : XN) : Option (Nat × XY × Nat × XN) :=
  ck (kc Y q = 9 ∧ kc Y (q + 1) = 0) <|
  ck (k + 1 ≤ rC 17 (D + 1) ∧ n + 4 ≤ rC 3300 (D + 1)) <|
  lt (yK Y q 22 0) fun Y3 =>
  lt (n0 N q) fun N4 =>
  ck (k + 1 + 1 ≤ rC 17 (D + 1) ∧ n + 4 + 16 ≤ rC 3300 (D + 1)) <|
  bd3 (f_J4_init_da8c8 Y3 (q + 1) q N4) fun Y8 q9 N10 =>
  ck (kc Y8 p_0 = 19) <|
  ck (gr Y8 p_0 2 = some (gp Y8 p_0 2)) <|
  lt (gp Y8 p_0 2) fun p12 =>
  ck (kc Y8 p12 = 19) <|
  ck (k + 1 + 1 + (rC 17 D) ≤ rC 17 (D + 1) ∧ n + 4 + 16 + (rC 3300 D) ≤ rC 3300 (D + 1)) <|
  bd4 (FS Y8 q9 p12 s0 N10) fun r16 Y18 q19 N20 =>
  ck (kc Y18 q = 22) <|
  ck (k + 1 + 1 + (rC 17 D) + 1 ≤ rC 17 (D + 1) ∧ n + 4 + 16 + (rC 3300 D) + 400 ≤ rC 3300 (D + 1)) <|
  bd4 (f_J4_append_15ec4 Y18 q19 q r16 N20) fun r23 Y25 q26 N27 =>
  ck (kc Y25 p_0 = 19) <|
  if (gi N27 p_0 0) = 2 then
    f_X9_text_120 SS SV FS D Y25 q26 p_0 v_1 s0 (SS 31) r23 (k + 1 + 1 + (rC 17 D) + 1) (n + 4 + 16 + (rC 3300 D) + 400) N27
  else
    if (gi N27 p_0 0) = 3 then
      f_X9_text_120 SS SV FS D Y25 q26 p_0 v_1 s0 (SS 32) r23 (k + 1 + 1 + (rC 17 D) + 1) (n + 4 + 16 + (rC 3300 D) + 400) N27
    else
      if (gi N27 p_0 0) = 4 then
        f_X9_text_120 SS SV FS D Y25 q26 p_0 v_1 s0 (SS 33) r23 (k + 1 + 1 + (rC 17 D) + 1) (n + 4 + 16 + (rC 3300 D) + 400) N27
      else
        f_X9_text_120 SS SV FS D Y25 q26 p_0 v_1 s0 (SS 34) r23 (k + 1 + 1 + (rC 17 D) + 1) (n + 4 + 16 + (rC 3300 D) + 400) N27
noncomputable def f_X9_text (SS SV : Nat → Nat) : Nat → XY → Nat → Nat → Int32 → XN → Option (Nat × XY × Nat × XN)
  | 0, _, _, _, _, _ => none
  | D + 1, Y, q, a0, a1, N =>
    ck (kc Y a0 = 19) <|
    if (gi N a0 0) = 0 then
      ck (kc Y q = 9 ∧ kc Y (q + 1) = 0) <|
      lt (yK Y q 22 0) fun Y4 =>
      lt (n0 N q) fun N5 =>
      bd3 (f_J4_init_da8c8 Y4 (q + 1) q N5) fun Y8 q9 N10 =>
      ck (kc Y8 q = 22) <|
      bd4 (f_J4_append_15ec4 Y8 q9 q (SS 30) N10) fun r12 Y14 q15 N16 =>
      ck (kc Y14 a0 = 19) <|
      ck (kc Y14 r12 = 22) <|
      bd4 (f_J4_append_bf812 SS SV Y14 q15 r12 (gi N16 a0 1) N16) fun r19 Y21 q22 N23 =>
      ck (kc Y21 r19 = 22) <|
      bd4 (f_J4_toString_0e30d Y21 q22 r19 N23) fun r25 Y27 q28 N29 =>
      some (r25, Y27, q28, N29)
    else
      if (gi N a0 0) = 1 then
        ck (kc Y (SV 102) = 42) <|
        ck (xb (gi N a0 1) (kn Y (SV 102)) = true) <|
        ck (gr Y (SV 102) (gi N a0 1).toNatClampNeg = some (gp Y (SV 102) (gi N a0 1).toNatClampNeg)) <|
        lt (gp Y (SV 102) (gi N a0 1).toNatClampNeg) fun p33 =>
        some (p33, Y, q, N)
      else
        if (4 : Int32) ≤ (gi N a0 0) then
          f_X9_text_60 SS SV (f_X9_text SS SV D) D Y q a0 a1 2 0 0 N
        else
          f_X9_text_60 SS SV (f_X9_text SS SV D) D Y q a0 a1 1 0 0 N
noncomputable def f_X9_value : Nat → XY → Nat → Nat → XN → Option (Int64 × XN)
  | 0, _, _, _, _ => none
  | D + 1, Y, a0, a1, N =>
    ck (kc Y a0 = 19) <|
    if (2 : Int32) ≤ (gi N a0 0) then
      ck (gr Y a0 2 = some (gp Y a0 2)) <|
      lt (gp Y a0 2) fun p3 =>
      ck (kc Y p3 = 19) <|
      bd2 (f_X9_value D Y p3 a1 N) fun r6 N8 =>
      ck (gr Y a0 3 = some (gp Y a0 3)) <|
      lt (gp Y a0 3) fun p9 =>
      ck (kc Y p9 = 19) <|
      bd2 (f_X9_value D Y p9 a1 N8) fun r12 N14 =>
      if (gi N14 a0 0) = 2 then
        bd2 (f_J9_min_f86c9 Y 1000000 (r6 + r12) N14) fun r16 N17 =>
        bd2 (f_J9_max_f86c9 Y (-1000000) r16 N17) fun r19 N20 =>
        some (r19, N20)
      else
        if (gi N14 a0 0) = 3 then
          bd2 (f_J9_min_f86c9 Y 1000000 (r6 - r12) N14) fun r23 N24 =>
          bd2 (f_J9_max_f86c9 Y (-1000000) r23 N24) fun r26 N27 =>
          some (r26, N27)
        else
          if (gi N14 a0 0) = 4 then
            bd2 (f_J9_min_f86c9 Y 1000000 (r6 * r12) N14) fun r30 N31 =>
            bd2 (f_J9_max_f86c9 Y (-1000000) r30 N31) fun r33 N34 =>
            some (r33, N34)
          else
            if (lg_cmp r12 0) = 0 then
              bd2 (f_J9_min_f86c9 Y 1000000 0 N14) fun r37 N38 =>
              bd2 (f_J9_max_f86c9 Y (-1000000) r37 N38) fun r40 N41 =>
              some (r40, N41)
            else
              ck (¬ r12 = 0) <|
              bd2 (f_J9_min_f86c9 Y 1000000 (r6 / r12) N14) fun r44 N45 =>
              bd2 (f_J9_max_f86c9 Y (-1000000) r44 N45) fun r47 N48 =>
              some (r47, N48)
    else
      if (gi N a0 0) = 0 then
        some (Int32.toInt64 (gi N a0 1), N)
      else
        ck (kc Y a1 = 3) <|
        ck (xb (gi N a0 1) (kn Y a1) = true) <|
        some (gl N a1 (gi N a0 1).toNatClampNeg, N)
noncomputable def f_L_with_10  : Nat → XY → Nat → Nat → Nat → Nat → Int32 → Nat → Nat → XN → Option (Nat × XY × Nat × XN)
  | 0, _, _, _, _, _, _, _, _, _ => none
  | D9 + 1, Y, q, p_0, p_1, p_2, v_3, k, n, N =>
    ck (kc Y p_0 = 8) <|
    if (Int32.ofNat (kn Y p_0)) ≤ v_3 then
      ck (kc Y p_2 = 8) <|
      ck (kc Y p_1 = 1) <|
      ck (xb (Int32.ofNat (kn Y p_0)) (kn Y p_2) = true) <|
      lt (sr Y p_2 ((Int32.ofNat (kn Y p_0)).toNatClampNeg) (some p_1)) fun Y6 =>
      ck (k ≤ 1 ∧ n ≤ 64) <|
      some (p_2, Y6, q, N)
    else
      ck (xb v_3 (kn Y p_0) = true) <|
      ck (gr Y p_0 v_3.toNatClampNeg = some (gp Y p_0 v_3.toNatClampNeg)) <|
      lt (gp Y p_0 v_3.toNatClampNeg) fun p9 =>
      ck (kc Y p_2 = 8) <|
      ck (kc Y p9 = 1) <|
      ck (xb v_3 (kn Y p_2) = true) <|
      lt (sr Y p_2 v_3.toNatClampNeg (some p9)) fun Y14 =>
      f_L_with_10 D9 Y14 q p_0 p_1 p_2 (v_3 + 1) k n N
noncomputable def f_L_with (Y : XY) (q : Nat) (a0 : Nat) (a1 : Nat) (N : XN) : Option (Nat × XY × Nat × XN) :=
  ck (kc Y a0 = 8) <|
  ck (¬ ((Int32.ofNat (kn Y a0)) + 1) < 0 ∧ ((Int32.ofNat (kn Y a0)) + 1).toNatClampNeg ≤ 65536) <|
  ck (kc Y q = 9 ∧ kc Y (q + 1) = 0) <|
  ck (1 ≤ 1 ∧ 0 + (((Int32.ofNat (kn Y a0)) + 1).toNatClampNeg) ≤ 64) <|
  lt (yK Y q 8 (((Int32.ofNat (kn Y a0)) + 1).toNatClampNeg)) fun Y5 =>
  lt (n0 N q) fun N6 =>
  f_L_with_10 FU Y5 (q + 1) a0 a1 q 0 1 (0 + (((Int32.ofNat (kn Y a0)) + 1).toNatClampNeg)) N6
noncomputable def f_L_copied_8  : Nat → XY → Nat → Nat → Nat → Int32 → Nat → Nat → XN → Option (Nat × XY × Nat × XN)
  | 0, _, _, _, _, _, _, _, _ => none
  | D9 + 1, Y, q, p_0, p_1, v_2, k, n, N =>
    ck (kc Y p_0 = 8) <|
    if (Int32.ofNat (kn Y p_0)) ≤ v_2 then
      ck (k ≤ 65 ∧ n ≤ 576) <|
      some (p_1, Y, q, N)
    else
      ck (xb v_2 (kn Y p_0) = true) <|
      ck (gr Y p_0 v_2.toNatClampNeg = some (gp Y p_0 v_2.toNatClampNeg)) <|
      lt (gp Y p_0 v_2.toNatClampNeg) fun p5 =>
      ck (kc Y p5 = 1) <|
      ck (kc Y q = 9 ∧ kc Y (q + 1) = 0) <|
      ck (k + 1 ≤ 65 ∧ n + (kn Y p5) ≤ 576) <|
      lt (yK Y q 1 (kn Y p5)) fun Y10 =>
      lt (nC N q p5) fun N11 =>
      ck (kc Y10 p_1 = 8) <|
      ck (xb v_2 (kn Y10 p_1) = true) <|
      lt (sr Y10 p_1 v_2.toNatClampNeg (some q)) fun Y15 =>
      f_L_copied_8 D9 Y15 (q + 1) p_0 p_1 (v_2 + 1) (k + 1) (n + (kn Y p5)) N11
noncomputable def f_L_copied (Y : XY) (q : Nat) (a0 : Nat) (N : XN) : Option (Nat × XY × Nat × XN) :=
  ck (kc Y a0 = 8) <|
  ck (¬ (Int32.ofNat (kn Y a0)) < 0 ∧ (Int32.ofNat (kn Y a0)).toNatClampNeg ≤ 65536) <|
  ck (kc Y q = 9 ∧ kc Y (q + 1) = 0) <|
  ck (1 ≤ 65 ∧ 0 + ((Int32.ofNat (kn Y a0)).toNatClampNeg) ≤ 576) <|
  lt (yK Y q 8 ((Int32.ofNat (kn Y a0)).toNatClampNeg)) fun Y5 =>
  lt (n0 N q) fun N6 =>
  f_L_copied_8 FU Y5 (q + 1) a0 q 0 1 (0 + ((Int32.ofNat (kn Y a0)).toNatClampNeg)) N6
noncomputable def f_L_placeIn_2 (Y : XY)  : Nat → Nat → Int32 → Int32 → XN → Option (Int32 × XN)
  | 0, _, _, _, _ => none
  | D9 + 1, p_0, v_1, v_2, N =>
    ck (kc Y p_0 = 1) <|
    if (Int32.ofNat (kn Y p_0)) ≤ v_2 then
      some ((-1), N)
    else
      ck (xb v_2 (kn Y p_0) = true) <|
      if (gi N p_0 v_2.toNatClampNeg) = v_1 then
        some (v_2, N)
      else
        f_L_placeIn_2 Y D9 p_0 v_1 (v_2 + 1) N
noncomputable def f_L_placeIn (Y : XY) (a0 : Nat) (a1 : Int32) (N : XN) : Option (Int32 × XN) :=
  f_L_placeIn_2 Y FU a0 a1 0 N
noncomputable def f_L_extended_9  : Nat → XY → Nat → Nat → Int32 → Nat → Int32 → Nat → Nat → XN → Option (Nat × XY × Nat × XN)
  | 0, _, _, _, _, _, _, _, _, _ => none
  | D9 + 1, Y, q, p_0, v_1, p_2, v_3, k, n, N =>
    ck (kc Y p_0 = 1) <|
    if (Int32.ofNat (kn Y p_0)) ≤ v_3 then
      ck (kc Y p_2 = 1) <|
      ck (xb (Int32.ofNat (kn Y p_0)) (kn Y p_2) = true) <|
      lt (si N p_2 ((Int32.ofNat (kn Y p_0)).toNatClampNeg) v_1) fun N5 =>
      ck (k ≤ 1 ∧ n ≤ 4) <|
      some (p_2, Y, q, N5)
    else
      ck (xb v_3 (kn Y p_0) = true) <|
      ck (kc Y p_2 = 1) <|
      ck (xb v_3 (kn Y p_2) = true) <|
      lt (si N p_2 v_3.toNatClampNeg (gi N p_0 v_3.toNatClampNeg)) fun N10 =>
      f_L_extended_9 D9 Y q p_0 v_1 p_2 (v_3 + 1) k n N10
noncomputable def f_L_extended (Y : XY) (q : Nat) (a0 : Nat) (a1 : Int32) (N : XN) : Option (Nat × XY × Nat × XN) :=
  ck (kc Y a0 = 1) <|
  ck (¬ ((Int32.ofNat (kn Y a0)) + 1) < 0 ∧ ((Int32.ofNat (kn Y a0)) + 1).toNatClampNeg ≤ 65536) <|
  ck (kc Y q = 9 ∧ kc Y (q + 1) = 0) <|
  ck (1 ≤ 1 ∧ 0 + (((Int32.ofNat (kn Y a0)) + 1).toNatClampNeg) ≤ 4) <|
  lt (yK Y q 1 (((Int32.ofNat (kn Y a0)) + 1).toNatClampNeg)) fun Y5 =>
  lt (n0 N q) fun N6 =>
  f_L_extended_9 FU Y5 (q + 1) a0 a1 q 0 1 (0 + (((Int32.ofNat (kn Y a0)) + 1).toNatClampNeg)) N6
noncomputable def f_L_without_9  : Nat → XY → Nat → Nat → Int32 → Nat → Int32 → Nat → Nat → XN → Option (Nat × XY × Nat × XN)
  | 0, _, _, _, _, _, _, _, _, _ => none
  | D9 + 1, Y, q, p_0, v_1, p_2, v_3, k, n, N =>
    ck (kc Y p_2 = 1) <|
    if (Int32.ofNat (kn Y p_2)) ≤ v_3 then
      ck (k ≤ 1 ∧ n ≤ 4) <|
      some (p_2, Y, q, N)
    else
      if v_1 ≤ v_3 then
        ck (kc Y p_0 = 1) <|
        ck (xb (v_3 + 1) (kn Y p_0) = true) <|
        ck (xb v_3 (kn Y p_2) = true) <|
        lt (si N p_2 v_3.toNatClampNeg (gi N p_0 (v_3 + 1).toNatClampNeg)) fun N8 =>
        f_L_without_9 D9 Y q p_0 v_1 p_2 (v_3 + 1) k n N8
      else
        ck (kc Y p_0 = 1) <|
        ck (xb v_3 (kn Y p_0) = true) <|
        ck (xb v_3 (kn Y p_2) = true) <|
        lt (si N p_2 v_3.toNatClampNeg (gi N p_0 v_3.toNatClampNeg)) fun N12 =>
        f_L_without_9 D9 Y q p_0 v_1 p_2 (v_3 + 1) k n N12
noncomputable def f_L_without (Y : XY) (q : Nat) (a0 : Nat) (a1 : Int32) (N : XN) : Option (Nat × XY × Nat × XN) :=
  ck (kc Y a0 = 1) <|
  ck (¬ ((Int32.ofNat (kn Y a0)) - 1) < 0 ∧ ((Int32.ofNat (kn Y a0)) - 1).toNatClampNeg ≤ 65536) <|
  ck (kc Y q = 9 ∧ kc Y (q + 1) = 0) <|
  ck (1 ≤ 1 ∧ 0 + (((Int32.ofNat (kn Y a0)) - 1).toNatClampNeg) ≤ 4) <|
  lt (yK Y q 1 (((Int32.ofNat (kn Y a0)) - 1).toNatClampNeg)) fun Y5 =>
  lt (n0 N q) fun N6 =>
  f_L_without_9 FU Y5 (q + 1) a0 a1 q 0 1 (0 + (((Int32.ofNat (kn Y a0)) - 1).toNatClampNeg)) N6
noncomputable def f_X8_init (Y : XY) (q : Nat) (a0 : Nat) (N : XN) : Option (XY × Nat × XN) :=
  ck (kc Y q = 9 ∧ kc Y (q + 1) = 0) <|
  lt (yK Y q 1 5) fun Y2 =>
  lt (n0 N q) fun N3 =>
  ck (xb 0 (kn Y2 q) = true) <|
  lt (si N3 q 0 5) fun N6 =>
  ck (xb 1 (kn Y2 q) = true) <|
  lt (si N6 q 1 10) fun N8 =>
  ck (xb 2 (kn Y2 q) = true) <|
  lt (si N8 q 2 10) fun N10 =>
  ck (xb 3 (kn Y2 q) = true) <|
  lt (si N10 q 3 10) fun N12 =>
  ck (xb 4 (kn Y2 q) = true) <|
  lt (si N12 q 4 1) fun N14 =>
  ck (kc Y2 a0 = 18) <|
  lt (sr Y2 a0 2 (some q)) fun Y16 =>
  ck (kc Y16 (q + 1) = 9 ∧ kc Y16 (q + 1 + 1) = 0) <|
  lt (yK Y16 (q + 1) 8 0) fun Y18 =>
  lt (n0 N14 (q + 1)) fun N19 =>
  lt (sr Y18 a0 3 (some (q + 1))) fun Y23 =>
  ck (kc Y23 (q + 2) = 9 ∧ kc Y23 (q + 2 + 1) = 0) <|
  lt (yK Y23 (q + 2) 8 0) fun Y25 =>
  lt (n0 N19 (q + 2)) fun N26 =>
  lt (sr Y25 a0 4 (some (q + 2))) fun Y30 =>
  ck (kc Y30 (q + 3) = 9 ∧ kc Y30 (q + 3 + 1) = 0) <|
  lt (yK Y30 (q + 3) 8 0) fun Y32 =>
  lt (n0 N26 (q + 3)) fun N33 =>
  lt (sr Y32 a0 5 (some (q + 3))) fun Y37 =>
  ck (kc Y37 (q + 4) = 9 ∧ kc Y37 (q + 4 + 1) = 0) <|
  lt (yK Y37 (q + 4) 8 0) fun Y39 =>
  lt (n0 N33 (q + 4)) fun N40 =>
  lt (sr Y39 a0 6 (some (q + 4))) fun Y44 =>
  some (Y44, q + 5, N40)
noncomputable def f_X8_copy (Y : XY) (q : Nat) (a0 : Nat) (N : XN) : Option (Nat × XY × Nat × XN) :=
  ck (kc Y q = 9 ∧ kc Y (q + 1) = 0) <|
  lt (yK Y q 18 0) fun Y2 =>
  lt (n0 N q) fun N3 =>
  bd3 (f_X8_init Y2 (q + 1) q N3) fun Y6 q7 N8 =>
  ck (kc Y6 a0 = 18) <|
  ck (kc Y6 q = 18) <|
  lt (si N8 q 0 (gi N8 a0 0)) fun N11 =>
  lt (si N11 q 1 (gi N11 a0 1)) fun N12 =>
  lt (sr Y6 q 2 (gr Y6 a0 2)) fun Y13 =>
  ck (gr Y13 a0 3 = some (gp Y13 a0 3)) <|
  lt (gp Y13 a0 3) fun p15 =>
  bd4 (f_L_copied Y13 q7 p15 N12) fun r17 Y19 q20 N21 =>
  ck (kc Y19 q = 18) <|
  lt (sr Y19 q 3 (some r17)) fun Y23 =>
  ck (kc Y23 a0 = 18) <|
  ck (gr Y23 a0 4 = some (gp Y23 a0 4)) <|
  lt (gp Y23 a0 4) fun p25 =>
  bd4 (f_L_copied Y23 q20 p25 N21) fun r27 Y29 q30 N31 =>
  ck (kc Y29 q = 18) <|
  lt (sr Y29 q 4 (some r27)) fun Y33 =>
  ck (kc Y33 a0 = 18) <|
  ck (gr Y33 a0 5 = some (gp Y33 a0 5)) <|
  lt (gp Y33 a0 5) fun p35 =>
  bd4 (f_L_copied Y33 q30 p35 N31) fun r37 Y39 q40 N41 =>
  ck (kc Y39 q = 18) <|
  lt (sr Y39 q 5 (some r37)) fun Y43 =>
  ck (kc Y43 a0 = 18) <|
  ck (gr Y43 a0 6 = some (gp Y43 a0 6)) <|
  lt (gp Y43 a0 6) fun p45 =>
  bd4 (f_L_copied Y43 q40 p45 N41) fun r47 Y49 q50 N51 =>
  ck (kc Y49 q = 18) <|
  lt (sr Y49 q 6 (some r47)) fun Y53 =>
  ck (kc Y53 a0 = 18) <|
  lt (sr Y53 q 7 (gr Y53 a0 7)) fun Y56 =>
  some (q, Y56, q50, N51)
noncomputable def f_X8_held_14 (Y : XY)  : Nat → Int32 → Int32 → Nat → Int32 → Int32 → XN → Option (Int32 × XN)
  | 0, _, _, _, _, _, _ => none
  | D9 + 1, v_1, v_2, p_3, v_4, v_5, N =>
    if v_4 ≤ v_5 then
      some (v_2, N)
    else
      ck (kc Y p_3 = 8) <|
      ck (xb v_5 (kn Y p_3) = true) <|
      ck (gr Y p_3 v_5.toNatClampNeg = some (gp Y p_3 v_5.toNatClampNeg)) <|
      lt (gp Y p_3 v_5.toNatClampNeg) fun p4 =>
      ck (kc Y p4 = 1) <|
      ck (xb 3 (kn Y p4) = true) <|
      if (gi N p4 3) = 1 then
        ck (xb 4 (kn Y p4) = true) <|
        if (gi N p4 4) = v_1 then
          f_X8_held_14 Y D9 v_1 (v_2 + 1) p_3 v_4 (v_5 + 1) N
        else
          f_X8_held_14 Y D9 v_1 v_2 p_3 v_4 (v_5 + 1) N
      else
        f_X8_held_14 Y D9 v_1 v_2 p_3 v_4 (v_5 + 1) N
noncomputable def f_X8_held (Y : XY) (a0 : Nat) (a1 : Int32) (N : XN) : Option (Int32 × XN) :=
  ck (kc Y a0 = 18) <|
  ck (gr Y a0 6 = some (gp Y a0 6)) <|
  lt (gp Y a0 6) fun p2 =>
  ck (kc Y p2 = 8) <|
  f_X8_held_14 Y FU a1 0 p2 (Int32.ofNat (kn Y p2)) 0 N
noncomputable def f_X8_assign_22 (Y : XY)  : Nat → Nat → Nat → Int32 → Nat → Int32 → Int32 → XN → Option XN
  | 0, _, _, _, _, _, _, _ => none
  | D9 + 1, p_0, p_1, v_2, p_3, v_4, v_5, N =>
    if v_4 ≤ v_5 then
      ck (kc Y p_1 = 1) <|
      ck (xb 4 (kn Y p_1) = true) <|
      lt (si N p_1 4 v_2) fun N4 =>
      ck (kc Y p_0 = 18) <|
      ck (xb 7 (kn Y p_1) = true) <|
      lt (si N4 p_1 7 (gi N4 p_0 0)) fun N7 =>
      some N7
    else
      ck (kc Y p_3 = 1) <|
      ck (xb v_5 (kn Y p_3) = true) <|
      lt (gi N p_3 v_5.toNatClampNeg) fun v10 =>
      if v_2 < 0 then
        f_X8_assign_22 Y D9 p_0 p_1 v10 p_3 v_4 (v_5 + 1) N
      else
        ck (kc Y p_0 = 18) <|
        bd2 (f_X8_held Y p_0 v10 N) fun r13 N15 =>
        bd2 (f_X8_held Y p_0 v_2 N15) fun r16 N18 =>
        if r16 ≤ r13 then
          f_X8_assign_22 Y D9 p_0 p_1 v_2 p_3 v_4 (v_5 + 1) N18
        else
          f_X8_assign_22 Y D9 p_0 p_1 v10 p_3 v_4 (v_5 + 1) N18
noncomputable def f_X8_assign (Y : XY) (a0 : Nat) (a1 : Nat) (N : XN) : Option XN :=
  ck (kc Y a1 = 1) <|
  ck (xb 4 (kn Y a1) = true) <|
  lt (si N a1 4 (-1)) fun N3 =>
  ck (kc Y a0 = 18) <|
  ck (gr Y a0 5 = some (gp Y a0 5)) <|
  lt (gp Y a0 5) fun p5 =>
  ck (xb 0 (kn Y a1) = true) <|
  ck (kc Y p5 = 8) <|
  ck (xb (gi N3 a1 0) (kn Y p5) = true) <|
  ck (gr Y p5 (gi N3 a1 0).toNatClampNeg = some (gp Y p5 (gi N3 a1 0).toNatClampNeg)) <|
  lt (gp Y p5 (gi N3 a1 0).toNatClampNeg) fun p10 =>
  ck (kc Y p10 = 1) <|
  f_X8_assign_22 Y FU a0 a1 (-1) p10 (Int32.ofNat (kn Y p10)) 0 N3
noncomputable def f_X8_raised_14 (Y : XY)  : Nat → Nat → Int32 → Int32 → Nat → Int32 → Int32 → XN → Option (Int32 × XN)
  | 0, _, _, _, _, _, _, _ => none
  | D9 + 1, p_0, v_1, v_2, p_3, v_4, v_5, N =>
    if v_4 ≤ v_5 then
      some (v_2, N)
    else
      ck (kc Y p_3 = 8) <|
      ck (xb v_5 (kn Y p_3) = true) <|
      ck (gr Y p_3 v_5.toNatClampNeg = some (gp Y p_3 v_5.toNatClampNeg)) <|
      lt (gp Y p_3 v_5.toNatClampNeg) fun p4 =>
      ck (kc Y p4 = 1) <|
      ck (xb 0 (kn Y p4) = true) <|
      if (gi N p4 0) = v_1 then
        ck (xb 3 (kn Y p4) = true) <|
        if (gi N p4 3) ≤ 0 then
          f_X8_raised_14 Y D9 p_0 v_1 v_2 p_3 v_4 (v_5 + 1) N
        else
          ck (xb 1 (kn Y p4) = true) <|
          ck (kc Y p_0 = 18) <|
          ck (gr Y p_0 2 = some (gp Y p_0 2)) <|
          lt (gp Y p_0 2) fun p13 =>
          ck (kc Y p13 = 1) <|
          ck (xb 1 (kn Y p13) = true) <|
          if (gi N p4 1) ≤ ((gi N p_0 0) - (gi N p13 1)) then
            f_X8_raised_14 Y D9 p_0 v_1 v_2 p_3 v_4 (v_5 + 1) N
          else
            f_X8_raised_14 Y D9 p_0 v_1 (v_2 + 1) p_3 v_4 (v_5 + 1) N
      else
        f_X8_raised_14 Y D9 p_0 v_1 v_2 p_3 v_4 (v_5 + 1) N
noncomputable def f_X8_raised (Y : XY) (a0 : Nat) (a1 : Int32) (N : XN) : Option (Int32 × XN) :=
  ck (kc Y a0 = 18) <|
  ck (gr Y a0 6 = some (gp Y a0 6)) <|
  lt (gp Y a0 6) fun p2 =>
  ck (kc Y p2 = 8) <|
  f_X8_raised_14 Y FU a0 a1 0 p2 (Int32.ofNat (kn Y p2)) 0 N
noncomputable def f_X8_raises (Y : XY) (a0 : Nat) (a1 : Nat) (N : XN) : Option XN :=
  ck (kc Y a0 = 18) <|
  ck (gr Y a0 4 = some (gp Y a0 4)) <|
  lt (gp Y a0 4) fun p2 =>
  ck (kc Y a1 = 1) <|
  ck (xb 0 (kn Y a1) = true) <|
  ck (kc Y p2 = 8) <|
  ck (xb (gi N a1 0) (kn Y p2) = true) <|
  ck (gr Y p2 (gi N a1 0).toNatClampNeg = some (gp Y p2 (gi N a1 0).toNatClampNeg)) <|
  lt (gp Y p2 (gi N a1 0).toNatClampNeg) fun p8 =>
  ck (xb 0 (kn Y a1) = true) <|
  bd2 (f_X8_raised Y a0 (gi N a1 0) N) fun r11 N13 =>
  ck (kc Y p8 = 1) <|
  ck (xb 1 (kn Y p8) = true) <|
  if r11 < (gi N13 p8 1) then
    ck (xb 3 (kn Y a1) = true) <|
    lt (si N13 a1 3 1) fun N18 =>
    ck (xb 2 (kn Y a1) = true) <|
    ck (xb 5 (kn Y a1) = true) <|
    lt (si N18 a1 5 (gi N18 a1 2)) fun N21 =>
    bd (f_X8_assign Y a0 a1 N21) fun N23 =>
    some N23
  else
    ck (gr Y a0 2 = some (gp Y a0 2)) <|
    lt (gp Y a0 2) fun p24 =>
    ck (kc Y p24 = 1) <|
    ck (xb 2 (kn Y p24) = true) <|
    ck (xb 2 (kn Y p8) = true) <|
    bd2 (f_J9_min_7cf53 Y (gi N13 p24 2) (gi N13 p8 2) N13) fun r29 N30 =>
    ck (xb 2 (kn Y p8) = true) <|
    ck (xb 2 (kn Y p8) = true) <|
    lt (si N30 p8 2 ((gi N30 p8 2) - r29)) fun N34 =>
    lt (si N34 a0 1 ((gi N34 a0 1) + r29)) fun N35 =>
    ck (xb 3 (kn Y a1) = true) <|
    lt (si N35 a1 3 3) fun N37 =>
    ck (xb 6 (kn Y a1) = true) <|
    lt (si N37 a1 6 (gi N37 a0 0)) fun N39 =>
    some N39
noncomputable def f_X8_pays_114  : Nat → XY → Nat → Nat → Int32 → Int32 → Nat → Int32 → Int32 → Nat → Nat → XN → Option (Int32 × XY × Nat × XN)
  | 0, _, _, _, _, _, _, _, _, _, _, _ => none
  | D9 + 1, Y, q, p_0, v_1, v_3, p_4, v_5, v_6, k, n, N =>
    if v_5 ≤ v_6 then
      ck (k ≤ 3 ∧ n ≤ 12) <|
      some (v_3, Y, q, N)
    else
      ck (kc Y p_4 = 8) <|
      ck (xb v_6 (kn Y p_4) = true) <|
      ck (gr Y p_4 v_6.toNatClampNeg = some (gp Y p_4 v_6.toNatClampNeg)) <|
      lt (gp Y p_4 v_6.toNatClampNeg) fun p5 =>
      ck (kc Y p5 = 1) <|
      ck (xb 3 (kn Y p5) = true) <|
      if (gi N p5 3) = 1 then
        ck (xb 4 (kn Y p5) = true) <|
        if (gi N p5 4) = v_1 then
          ck (kc Y p_0 = 18) <|
          ck (k ≤ 3 ∧ n ≤ 12) <|
          bd (f_X8_assign Y p_0 p5 N) fun N15 =>
          f_X8_pays_114 D9 Y q p_0 v_1 v_3 p_4 v_5 (v_6 + 1) k n N15
        else
          f_X8_pays_114 D9 Y q p_0 v_1 v_3 p_4 v_5 (v_6 + 1) k n N
      else
        f_X8_pays_114 D9 Y q p_0 v_1 v_3 p_4 v_5 (v_6 + 1) k n N
noncomputable def f_X8_pays_42  : Nat → XY → Nat → Nat → Int32 → Int32 → Int32 → Nat → Nat → XN → Option (Int32 × XY × Nat × XN)
  | 0, _, _, _, _, _, _, _, _, _ => none
  | D9 + 1, Y, q, p_0, v_1, v_3, v_4, k, n, N =>
    ck (kc Y p_0 = 18) <|
    ck (gr Y p_0 4 = some (gp Y p_0 4)) <|
    lt (gp Y p_0 4) fun p2 =>
    ck (kc Y p2 = 8) <|
    if (Int32.ofNat (kn Y p2)) ≤ v_4 then
      ck (gr Y p_0 6 = some (gp Y p_0 6)) <|
      lt (gp Y p_0 6) fun p6 =>
      ck (kc Y p6 = 8) <|
      f_X8_pays_114 FU Y q p_0 v_1 v_3 p6 (Int32.ofNat (kn Y p6)) 0 k n N
    else
      ck (gr Y p_0 5 = some (gp Y p_0 5)) <|
      lt (gp Y p_0 5) fun p9 =>
      ck (kc Y p9 = 8) <|
      ck (xb v_4 (kn Y p9) = true) <|
      ck (gr Y p9 v_4.toNatClampNeg = some (gp Y p9 v_4.toNatClampNeg)) <|
      lt (gp Y p9 v_4.toNatClampNeg) fun p13 =>
      ck (k ≤ 3 ∧ n ≤ 12) <|
      bd2 (f_L_placeIn Y p13 v_1 N) fun r16 N18 =>
      if r16 < 0 then
        f_X8_pays_42 D9 Y q p_0 v_1 v_3 (v_4 + 1) k n N18
      else
        ck (xb v_4 (kn Y p9) = true) <|
        ck (xb v_4 (kn Y p9) = true) <|
        bd2 (f_L_placeIn Y p13 v_1 N18) fun r22 N24 =>
        ck (k + 1 ≤ 3 ∧ n + 4 ≤ 12) <|
        bd4 (f_L_without Y q p13 r22 N24) fun r26 Y28 q29 N30 =>
        ck (kc Y28 p9 = 8) <|
        ck (kc Y28 r26 = 1) <|
        ck (xb v_4 (kn Y28 p9) = true) <|
        lt (sr Y28 p9 v_4.toNatClampNeg (some r26)) fun Y34 =>
        f_X8_pays_42 D9 Y34 q29 p_0 v_1 v_3 (v_4 + 1) (k + 1) (n + 4) N30
noncomputable def f_X8_pays (Y : XY) (q : Nat) (a0 : Nat) (a1 : Int32) (a2 : Int32) (N : XN) : Option (Int32 × XY × Nat × XN) :=
  ck (kc Y a0 = 18) <|
  ck (gr Y a0 3 = some (gp Y a0 3)) <|
  lt (gp Y a0 3) fun p2 =>
  ck (kc Y p2 = 8) <|
  ck (xb a1 (kn Y p2) = true) <|
  ck (gr Y p2 a1.toNatClampNeg = some (gp Y p2 a1.toNatClampNeg)) <|
  lt (gp Y p2 a1.toNatClampNeg) fun p6 =>
  ck (kc Y p6 = 1) <|
  ck (xb 0 (kn Y p6) = true) <|
  bd2 (f_J9_min_7cf53 Y a2 (gi N p6 0) N) fun r10 N11 =>
  ck (xb a1 (kn Y p2) = true) <|
  ck (xb 0 (kn Y p6) = true) <|
  ck (xb 0 (kn Y p6) = true) <|
  lt (si N11 p6 0 ((gi N11 p6 0) - r10)) fun N16 =>
  if a2 ≤ r10 then
    some (r10, Y, q, N16)
  else
    ck (xb a1 (kn Y p2) = true) <|
    ck (xb 2 (kn Y p6) = true) <|
    lt (si N16 p6 2 1) fun N20 =>
    f_X8_pays_42 FU Y q a0 a1 r10 0 0 0 N20
noncomputable def f_X8_tick_528  (K453 : XY → Nat → Nat → Int32 → Nat → Nat → XN → Option (XY × Nat × XN)) (K487 : XY → Nat → Nat → Int32 → Nat → Int32 → Nat → Nat → XN → Option (XY × Nat × XN)) (Y : XY) (q : Nat) (p_0 : Nat) (v_1 : Int32) (p_2 : Nat) (v_3 : Int32) (s0 : Int32) (s1 : Int32) (s2 : Int32) (o3 : Nat) (k : Nat) (n : Nat) (N : XN) : Option (XY × Nat × XN) :=
  ck (kc Y o3 = 18) <|
  ck (k + 3 ≤ 224 ∧ n + 12 ≤ 832) <|
  bd4 (f_X8_pays Y q o3 s2 (s1 + s0) N) fun r3 Y5 q6 N7 =>
  ck (kc Y5 p_0 = 18) <|
  ck (gr Y5 p_0 3 = some (gp Y5 p_0 3)) <|
  lt (gp Y5 p_0 3) fun p9 =>
  ck (kc Y5 p_2 = 1) <|
  ck (xb v_3 (kn Y5 p_2) = true) <|
  ck (kc Y5 p9 = 8) <|
  ck (xb (gi N7 p_2 v_3.toNatClampNeg) (kn Y5 p9) = true) <|
  ck (gr Y5 p9 (gi N7 p_2 v_3.toNatClampNeg).toNatClampNeg = some (gp Y5 p9 (gi N7 p_2 v_3.toNatClampNeg).toNatClampNeg)) <|
  lt (gp Y5 p9 (gi N7 p_2 v_3.toNatClampNeg).toNatClampNeg) fun p15 =>
  ck (kc Y5 p15 = 1) <|
  ck (xb 4 (kn Y5 p15) = true) <|
  ck (xb 4 (kn Y5 p15) = true) <|
  lt (si N7 p15 4 ((gi N7 p15 4) + r3)) fun N20 =>
  lt (si N20 p_0 1 ((gi N20 p_0 1) + r3)) fun N21 =>
  K487 Y5 q6 p_0 v_1 p_2 (v_3 + 1) (k + 3) (n + 12) N21
noncomputable def f_X8_tick_487  (K453 : XY → Nat → Nat → Int32 → Nat → Nat → XN → Option (XY × Nat × XN)) : Nat → XY → Nat → Nat → Int32 → Nat → Int32 → Nat → Nat → XN → Option (XY × Nat × XN)
  | 0, _, _, _, _, _, _, _, _, _ => none
  | D9 + 1, Y, q, p_0, v_1, p_2, v_3, k, n, N =>
    ck (kc Y p_2 = 1) <|
    if (Int32.ofNat (kn Y p_2)) ≤ v_3 then
      K453 Y q p_0 (v_1 + 1) k n N
    else
      ck (xb v_3 (kn Y p_2) = true) <|
      ck (kc Y p_0 = 18) <|
      ck (gr Y p_0 4 = some (gp Y p_0 4)) <|
      lt (gp Y p_0 4) fun p5 =>
      ck (kc Y p5 = 8) <|
      ck (xb v_1 (kn Y p5) = true) <|
      ck (gr Y p5 v_1.toNatClampNeg = some (gp Y p5 v_1.toNatClampNeg)) <|
      lt (gp Y p5 v_1.toNatClampNeg) fun p9 =>
      ck (kc Y p9 = 1) <|
      ck (xb 0 (kn Y p9) = true) <|
      ck (¬ (Int32.ofNat (kn Y p_2)) = 0) <|
      ck (xb v_1 (kn Y p5) = true) <|
      ck (xb 0 (kn Y p9) = true) <|
      ck (¬ (Int32.ofNat (kn Y p_2)) = 0) <|
      if ((gi N p9 0) - (gi N p9 0) / (Int32.ofNat (kn Y p_2)) * (Int32.ofNat (kn Y p_2))) ≤ v_3 then
        f_X8_tick_528 K453 (f_X8_tick_487 K453 D9) Y q p_0 v_1 p_2 v_3 0 ((gi N p9 0) / (Int32.ofNat (kn Y p_2))) (gi N p_2 v_3.toNatClampNeg) p_0 k n N
      else
        f_X8_tick_528 K453 (f_X8_tick_487 K453 D9) Y q p_0 v_1 p_2 v_3 1 ((gi N p9 0) / (Int32.ofNat (kn Y p_2))) (gi N p_2 v_3.toNatClampNeg) p_0 k n N
noncomputable def f_X8_tick_453  : Nat → XY → Nat → Nat → Int32 → Nat → Nat → XN → Option (XY × Nat × XN)
  | 0, _, _, _, _, _, _, _ => none
  | D9 + 1, Y, q, p_0, v_1, k, n, N =>
    ck (kc Y p_0 = 18) <|
    ck (gr Y p_0 4 = some (gp Y p_0 4)) <|
    lt (gp Y p_0 4) fun p2 =>
    ck (kc Y p2 = 8) <|
    if (Int32.ofNat (kn Y p2)) ≤ v_1 then
      lt (si N p_0 0 ((gi N p_0 0) + 1)) fun N6 =>
      ck (k ≤ 224 ∧ n ≤ 832) <|
      some (Y, q, N6)
    else
      ck (gr Y p_0 2 = some (gp Y p_0 2)) <|
      lt (gp Y p_0 2) fun p8 =>
      ck (kc Y p8 = 1) <|
      ck (xb 3 (kn Y p8) = true) <|
      ck (¬ (gi N p8 3) = 0) <|
      if (((gi N p_0 0) + 1) - ((gi N p_0 0) + 1) / (gi N p8 3) * (gi N p8 3)) = 0 then
        ck (gr Y p_0 5 = some (gp Y p_0 5)) <|
        lt (gp Y p_0 5) fun p14 =>
        ck (kc Y p14 = 8) <|
        ck (xb v_1 (kn Y p14) = true) <|
        ck (gr Y p14 v_1.toNatClampNeg = some (gp Y p14 v_1.toNatClampNeg)) <|
        lt (gp Y p14 v_1.toNatClampNeg) fun p18 =>
        f_X8_tick_487 (f_X8_tick_453 D9) FU Y q p_0 v_1 p18 0 k n N
      else
        lt (si N p_0 0 ((gi N p_0 0) + 1)) fun N20 =>
        ck (k ≤ 224 ∧ n ≤ 832) <|
        some (Y, q, N20)
noncomputable def f_X8_tick_383  (K265 : XY → Nat → Nat → Nat → Int32 → Int32 → Nat → Nat → XN → Option (XY × Nat × XN)) (Y : XY) (q : Nat) (p_0 : Nat) (p_1 : Nat) (v_2 : Int32) (v_3 : Int32) (p_4 : Nat) (v_5 : Int32) (z0 : Int64) (k : Nat) (n : Nat) (N : XN) : Option (XY × Nat × XN) :=
  ck (k ≤ 224 ∧ n ≤ 832) <|
  bd2 (f_J9_min_f86c9 Y 9999 z0 N) fun r1 N2 =>
  bd2 (f_J9_max_f86c9 Y 0 r1 N2) fun r5 N6 =>
  ck (kc Y p_0 = 18) <|
  ck (k + 3 ≤ 224 ∧ n + 12 ≤ 832) <|
  bd4 (f_X8_pays Y q p_0 v_5 (Int64.toInt32 r5) N6) fun r10 Y12 q13 N14 =>
  ck (kc Y12 p_0 = 18) <|
  ck (gr Y12 p_0 3 = some (gp Y12 p_0 3)) <|
  lt (gp Y12 p_0 3) fun p16 =>
  ck (kc Y12 p16 = 8) <|
  ck (xb v_5 (kn Y12 p16) = true) <|
  ck (gr Y12 p16 v_5.toNatClampNeg = some (gp Y12 p16 v_5.toNatClampNeg)) <|
  lt (gp Y12 p16 v_5.toNatClampNeg) fun p20 =>
  ck (kc Y12 p20 = 1) <|
  ck (xb 3 (kn Y12 p20) = true) <|
  ck (xb 3 (kn Y12 p20) = true) <|
  lt (si N14 p20 3 ((gi N14 p20 3) + r10)) fun N25 =>
  ck (gr Y12 p_0 4 = some (gp Y12 p_0 4)) <|
  lt (gp Y12 p_0 4) fun p26 =>
  ck (kc Y12 p_4 = 1) <|
  ck (xb 0 (kn Y12 p_4) = true) <|
  ck (kc Y12 p26 = 8) <|
  ck (xb (gi N25 p_4 0) (kn Y12 p26) = true) <|
  ck (gr Y12 p26 (gi N25 p_4 0).toNatClampNeg = some (gp Y12 p26 (gi N25 p_4 0).toNatClampNeg)) <|
  lt (gp Y12 p26 (gi N25 p_4 0).toNatClampNeg) fun p32 =>
  ck (kc Y12 p32 = 1) <|
  ck (xb 2 (kn Y12 p32) = true) <|
  ck (xb 2 (kn Y12 p32) = true) <|
  lt (si N25 p32 2 ((gi N25 p32 2) + r10)) fun N37 =>
  ck (xb 7 (kn Y12 p_4) = true) <|
  lt (si N37 p_4 7 (gi N37 p_0 0)) fun N39 =>
  K265 Y12 q13 p_0 p_1 v_2 (v_3 + 1) (k + 3) (n + 12) N39
noncomputable def f_X8_tick_265  : Nat → XY → Nat → Nat → Nat → Int32 → Int32 → Nat → Nat → XN → Option (XY × Nat × XN)
  | 0, _, _, _, _, _, _, _, _, _ => none
  | D9 + 1, Y, q, p_0, p_1, v_2, v_3, k, n, N =>
    if v_2 ≤ v_3 then
      f_X8_tick_453 FU Y q p_0 0 k n N
    else
      ck (kc Y p_1 = 8) <|
      ck (xb v_3 (kn Y p_1) = true) <|
      ck (gr Y p_1 v_3.toNatClampNeg = some (gp Y p_1 v_3.toNatClampNeg)) <|
      lt (gp Y p_1 v_3.toNatClampNeg) fun p4 =>
      ck (kc Y p4 = 1) <|
      ck (xb 3 (kn Y p4) = true) <|
      if (gi N p4 3) = 1 then
        ck (xb 4 (kn Y p4) = true) <|
        if (gi N p4 4) < 0 then
          f_X8_tick_265 D9 Y q p_0 p_1 v_2 (v_3 + 1) k n N
        else
          ck (kc Y p_0 = 18) <|
          ck (xb 7 (kn Y p4) = true) <|
          ck (gr Y p_0 2 = some (gp Y p_0 2)) <|
          lt (gp Y p_0 2) fun p13 =>
          ck (kc Y p13 = 1) <|
          ck (xb 0 (kn Y p13) = true) <|
          if (gi N p13 0) ≤ ((gi N p_0 0) - (gi N p4 7)) then
            ck (xb 4 (kn Y p4) = true) <|
            nl (gr Y p_0 7) (
              ck (xb 5 (kn Y p4) = true) <|
              f_X8_tick_383 (f_X8_tick_265 D9) Y q p_0 p_1 v_2 v_3 p4 (gi N p4 4) (Int32.toInt64 (gi N p4 5)) k n N
              ) fun p19 =>
              ck (kc Y q = 9 ∧ kc Y (q + 1) = 0) <|
              ck (k + 1 ≤ 224 ∧ n + 4 ≤ 832) <|
              lt (yK Y q 3 4) fun Y24 =>
              lt (n0 N q) fun N25 =>
              ck (xb 0 (kn Y24 p4) = true) <|
              ck (xb 0 (kn Y24 q) = true) <|
              lt (sl N25 q 0 (Int32.toInt64 (gi N25 p4 0))) fun N30 =>
              ck (xb 5 (kn Y24 p4) = true) <|
              ck (xb 1 (kn Y24 q) = true) <|
              lt (sl N30 q 1 (Int32.toInt64 (gi N30 p4 5))) fun N33 =>
              bd2 (f_X8_held Y24 p_0 (gi N p4 4) N33) fun r35 N37 =>
              ck (xb 2 (kn Y24 q) = true) <|
              lt (sl N37 q 2 (Int32.toInt64 r35)) fun N39 =>
              ck (xb 7 (kn Y24 p4) = true) <|
              ck (xb 3 (kn Y24 q) = true) <|
              lt (sl N39 q 3 (Int32.toInt64 ((gi N39 p_0 0) - (gi N39 p4 7)))) fun N42 =>
              ck (kc Y24 p19 = 19) <|
              bd2 (f_X9_value 3 Y24 p19 q N42) fun r44 N46 =>
              f_X8_tick_383 (f_X8_tick_265 D9) Y24 (q + 1) p_0 p_1 v_2 v_3 p4 (gi N p4 4) r44 (k + 1) (n + 4) N46
          else
            f_X8_tick_265 D9 Y q p_0 p_1 v_2 (v_3 + 1) k n N
      else
        f_X8_tick_265 D9 Y q p_0 p_1 v_2 (v_3 + 1) k n N
noncomputable def f_X8_tick_72  (K52 : XY → Nat → Nat → Int32 → Nat → Nat → XN → Option (XY × Nat × XN)) : Nat → XY → Nat → Nat → Int32 → Int32 → Int32 → Nat → Nat → XN → Option (XY × Nat × XN)
  | 0, _, _, _, _, _, _, _, _, _ => none
  | D9 + 1, Y, q, p_0, v_1, v_2, v_3, k, n, N =>
    ck (kc Y p_0 = 18) <|
    ck (gr Y p_0 6 = some (gp Y p_0 6)) <|
    lt (gp Y p_0 6) fun p2 =>
    ck (kc Y p2 = 8) <|
    if (Int32.ofNat (kn Y p2)) ≤ v_3 then
      K52 Y q p_0 (v_1 + 1) k n N
    else
      if v_2 ≤ 0 then
        K52 Y q p_0 (v_1 + 1) k n N
      else
        ck (xb v_3 (kn Y p2) = true) <|
        ck (gr Y p2 v_3.toNatClampNeg = some (gp Y p2 v_3.toNatClampNeg)) <|
        lt (gp Y p2 v_3.toNatClampNeg) fun p8 =>
        ck (kc Y p8 = 1) <|
        ck (xb 3 (kn Y p8) = true) <|
        if (gi N p8 3) = 1 then
          ck (xb 4 (kn Y p8) = true) <|
          if (gi N p8 4) = v_1 then
            ck (xb 5 (kn Y p8) = true) <|
            ck (k ≤ 224 ∧ n ≤ 832) <|
            bd2 (f_J9_min_7cf53 Y v_2 (gi N p8 5) N) fun r16 N17 =>
            ck (xb 5 (kn Y p8) = true) <|
            ck (xb 5 (kn Y p8) = true) <|
            lt (si N17 p8 5 ((gi N17 p8 5) - r16)) fun N22 =>
            ck (xb 7 (kn Y p8) = true) <|
            lt (si N22 p8 7 (gi N22 p_0 0)) fun N24 =>
            ck (xb 5 (kn Y p8) = true) <|
            if (gi N24 p8 5) ≤ 0 then
              ck (gr Y p_0 4 = some (gp Y p_0 4)) <|
              lt (gp Y p_0 4) fun p27 =>
              ck (xb 0 (kn Y p8) = true) <|
              ck (kc Y p27 = 8) <|
              ck (xb (gi N24 p8 0) (kn Y p27) = true) <|
              ck (gr Y p27 (gi N24 p8 0).toNatClampNeg = some (gp Y p27 (gi N24 p8 0).toNatClampNeg)) <|
              lt (gp Y p27 (gi N24 p8 0).toNatClampNeg) fun p32 =>
              ck (kc Y p32 = 1) <|
              ck (xb 2 (kn Y p32) = true) <|
              ck (gr Y p_0 2 = some (gp Y p_0 2)) <|
              lt (gp Y p_0 2) fun p36 =>
              ck (kc Y p36 = 1) <|
              ck (xb 4 (kn Y p36) = true) <|
              ck (xb 2 (kn Y p8) = true) <|
              bd2 (f_J9_min_7cf53 Y (gi N24 p32 2) ((gi N24 p36 4) * (gi N24 p8 2)) N24) fun r41 N42 =>
              ck (xb 0 (kn Y p8) = true) <|
              ck (xb (gi N42 p8 0) (kn Y p27) = true) <|
              ck (gr Y p27 (gi N42 p8 0).toNatClampNeg = some (gp Y p27 (gi N42 p8 0).toNatClampNeg)) <|
              lt (gp Y p27 (gi N42 p8 0).toNatClampNeg) fun p46 =>
              ck (kc Y p46 = 1) <|
              ck (xb 2 (kn Y p46) = true) <|
              ck (xb 2 (kn Y p46) = true) <|
              lt (si N42 p46 2 ((gi N42 p46 2) - r41)) fun N51 =>
              ck (gr Y p_0 3 = some (gp Y p_0 3)) <|
              lt (gp Y p_0 3) fun p52 =>
              ck (kc Y p52 = 8) <|
              ck (xb v_1 (kn Y p52) = true) <|
              ck (gr Y p52 v_1.toNatClampNeg = some (gp Y p52 v_1.toNatClampNeg)) <|
              lt (gp Y p52 v_1.toNatClampNeg) fun p56 =>
              ck (kc Y p56 = 1) <|
              ck (xb 0 (kn Y p56) = true) <|
              ck (xb 0 (kn Y p56) = true) <|
              lt (si N51 p56 0 ((gi N51 p56 0) + r41)) fun N61 =>
              ck (xb v_1 (kn Y p52) = true) <|
              ck (xb 5 (kn Y p56) = true) <|
              ck (xb 5 (kn Y p56) = true) <|
              lt (si N61 p56 5 ((gi N61 p56 5) + r41)) fun N65 =>
              ck (xb 3 (kn Y p8) = true) <|
              lt (si N65 p8 3 2) fun N67 =>
              ck (xb 4 (kn Y p8) = true) <|
              lt (si N67 p8 4 (-1)) fun N69 =>
              ck (xb 6 (kn Y p8) = true) <|
              lt (si N69 p8 6 (gi N69 p_0 0)) fun N71 =>
              f_X8_tick_72 K52 D9 Y q p_0 v_1 (v_2 - r16) (v_3 + 1) k n N71
            else
              f_X8_tick_72 K52 D9 Y q p_0 v_1 (v_2 - r16) (v_3 + 1) k n N24
          else
            f_X8_tick_72 K52 D9 Y q p_0 v_1 v_2 (v_3 + 1) k n N
        else
          f_X8_tick_72 K52 D9 Y q p_0 v_1 v_2 (v_3 + 1) k n N
noncomputable def f_X8_tick_52  : Nat → XY → Nat → Nat → Int32 → Nat → Nat → XN → Option (XY × Nat × XN)
  | 0, _, _, _, _, _, _, _ => none
  | D9 + 1, Y, q, p_0, v_1, k, n, N =>
    ck (kc Y p_0 = 18) <|
    ck (gr Y p_0 3 = some (gp Y p_0 3)) <|
    lt (gp Y p_0 3) fun p2 =>
    ck (kc Y p2 = 8) <|
    if (Int32.ofNat (kn Y p2)) ≤ v_1 then
      ck (gr Y p_0 6 = some (gp Y p_0 6)) <|
      lt (gp Y p_0 6) fun p6 =>
      ck (kc Y p6 = 8) <|
      f_X8_tick_265 FU Y q p_0 p6 (Int32.ofNat (kn Y p6)) 0 k n N
    else
      ck (xb v_1 (kn Y p2) = true) <|
      ck (gr Y p2 v_1.toNatClampNeg = some (gp Y p2 v_1.toNatClampNeg)) <|
      lt (gp Y p2 v_1.toNatClampNeg) fun p10 =>
      ck (kc Y p10 = 1) <|
      ck (xb 1 (kn Y p10) = true) <|
      f_X8_tick_72 (f_X8_tick_52 D9) FU Y q p_0 v_1 (gi N p10 1) 0 k n N
noncomputable def f_X8_tick_10  : Nat → XY → Nat → Nat → Nat → Int32 → Int32 → Nat → Nat → XN → Option (XY × Nat × XN)
  | 0, _, _, _, _, _, _, _, _, _ => none
  | D9 + 1, Y, q, p_0, p_1, v_2, v_3, k, n, N =>
    if v_2 ≤ v_3 then
      f_X8_tick_52 FU Y q p_0 0 k n N
    else
      ck (kc Y p_1 = 8) <|
      ck (xb v_3 (kn Y p_1) = true) <|
      ck (gr Y p_1 v_3.toNatClampNeg = some (gp Y p_1 v_3.toNatClampNeg)) <|
      lt (gp Y p_1 v_3.toNatClampNeg) fun p4 =>
      ck (kc Y p4 = 1) <|
      ck (xb 3 (kn Y p4) = true) <|
      if (gi N p4 3) = 0 then
        ck (xb 1 (kn Y p4) = true) <|
        ck (kc Y p_0 = 18) <|
        if (gi N p4 1) = (gi N p_0 0) then
          ck (k ≤ 224 ∧ n ≤ 832) <|
          bd (f_X8_raises Y p_0 p4 N) fun N14 =>
          f_X8_tick_10 D9 Y q p_0 p_1 v_2 (v_3 + 1) k n N14
        else
          f_X8_tick_10 D9 Y q p_0 p_1 v_2 (v_3 + 1) k n N
      else
        f_X8_tick_10 D9 Y q p_0 p_1 v_2 (v_3 + 1) k n N
noncomputable def f_X8_tick (Y : XY) (q : Nat) (a0 : Nat) (N : XN) : Option (XY × Nat × XN) :=
  ck (kc Y a0 = 18) <|
  ck (gr Y a0 6 = some (gp Y a0 6)) <|
  lt (gp Y a0 6) fun p2 =>
  ck (kc Y p2 = 8) <|
  f_X8_tick_10 FU Y q a0 p2 (Int32.ofNat (kn Y p2)) 0 0 0 N
noncomputable def f_X8_lease_70  : Nat → XY → Nat → Nat → Int32 → Int32 → Nat → Int32 → Int32 → Nat → Nat → XN → Option (Int32 × XY × Nat × XN)
  | 0, _, _, _, _, _, _, _, _, _, _, _ => none
  | D9 + 1, Y, q, p_0, v_2, v_3, p_4, v_5, v_6, k, n, N =>
    if v_5 ≤ v_6 then
      ck (k ≤ 1 ∧ n ≤ 4) <|
      some (v_3, Y, q, N)
    else
      ck (kc Y p_4 = 8) <|
      ck (xb v_6 (kn Y p_4) = true) <|
      ck (gr Y p_4 v_6.toNatClampNeg = some (gp Y p_4 v_6.toNatClampNeg)) <|
      lt (gp Y p_4 v_6.toNatClampNeg) fun p5 =>
      ck (kc Y p5 = 1) <|
      ck (xb 3 (kn Y p5) = true) <|
      if (gi N p5 3) = 1 then
        ck (xb 0 (kn Y p5) = true) <|
        if (gi N p5 0) = v_2 then
          ck (xb 4 (kn Y p5) = true) <|
          if (gi N p5 4) < 0 then
            ck (kc Y p_0 = 18) <|
            ck (k ≤ 1 ∧ n ≤ 4) <|
            bd (f_X8_assign Y p_0 p5 N) fun N17 =>
            f_X8_lease_70 D9 Y q p_0 v_2 (v_3 + 1) p_4 v_5 (v_6 + 1) k n N17
          else
            f_X8_lease_70 D9 Y q p_0 v_2 v_3 p_4 v_5 (v_6 + 1) k n N
        else
          f_X8_lease_70 D9 Y q p_0 v_2 v_3 p_4 v_5 (v_6 + 1) k n N
      else
        f_X8_lease_70 D9 Y q p_0 v_2 v_3 p_4 v_5 (v_6 + 1) k n N
noncomputable def f_X8_lease (Y : XY) (q : Nat) (a0 : Nat) (a1 : Int32) (a2 : Int32) (N : XN) : Option (Int32 × XY × Nat × XN) :=
  ck (kc Y a0 = 18) <|
  ck (gr Y a0 3 = some (gp Y a0 3)) <|
  lt (gp Y a0 3) fun p2 =>
  ck (kc Y p2 = 8) <|
  ck (xb a1 (kn Y p2) = true) <|
  ck (gr Y p2 a1.toNatClampNeg = some (gp Y p2 a1.toNatClampNeg)) <|
  lt (gp Y p2 a1.toNatClampNeg) fun p6 =>
  ck (kc Y p6 = 1) <|
  ck (xb 2 (kn Y p6) = true) <|
  if (gi N p6 2) = 1 then
    some ((-1), Y, q, N)
  else
    ck (gr Y a0 5 = some (gp Y a0 5)) <|
    lt (gp Y a0 5) fun p11 =>
    ck (kc Y p11 = 8) <|
    ck (xb a2 (kn Y p11) = true) <|
    ck (gr Y p11 a2.toNatClampNeg = some (gp Y p11 a2.toNatClampNeg)) <|
    lt (gp Y p11 a2.toNatClampNeg) fun p15 =>
    bd2 (f_L_placeIn Y p15 a1 N) fun r17 N19 =>
    if (0 : Int32) ≤ r17 then
      some ((-1), Y, q, N19)
    else
      ck (xb a2 (kn Y p11) = true) <|
      ck (kc Y p15 = 1) <|
      if (Int32.ofNat (kn Y p15)) = 3 then
        some ((-1), Y, q, N19)
      else
        ck (xb a2 (kn Y p11) = true) <|
        bd4 (f_L_extended Y q p15 a1 N19) fun r25 Y27 q28 N29 =>
        ck (kc Y27 p11 = 8) <|
        ck (kc Y27 r25 = 1) <|
        ck (xb a2 (kn Y27 p11) = true) <|
        lt (sr Y27 p11 a2.toNatClampNeg (some r25)) fun Y33 =>
        ck (kc Y33 a0 = 18) <|
        ck (gr Y33 a0 6 = some (gp Y33 a0 6)) <|
        lt (gp Y33 a0 6) fun p35 =>
        ck (kc Y33 p35 = 8) <|
        lt (Int32.ofNat (kn Y33 p35)) fun v38 =>
        f_X8_lease_70 FU Y33 q28 a0 a2 0 p35 v38 0 1 4 N29
noncomputable def f_X8_release_50  : Nat → XY → Nat → Nat → Int32 → Int32 → Int32 → Nat → Int32 → Int32 → Nat → Nat → XN → Option (Int32 × XY × Nat × XN)
  | 0, _, _, _, _, _, _, _, _, _, _, _, _ => none
  | D9 + 1, Y, q, p_0, v_1, v_2, v_4, p_5, v_6, v_7, k, n, N =>
    if v_6 ≤ v_7 then
      ck (k ≤ 1 ∧ n ≤ 4) <|
      some (v_4, Y, q, N)
    else
      ck (kc Y p_5 = 8) <|
      ck (xb v_7 (kn Y p_5) = true) <|
      ck (gr Y p_5 v_7.toNatClampNeg = some (gp Y p_5 v_7.toNatClampNeg)) <|
      lt (gp Y p_5 v_7.toNatClampNeg) fun p5 =>
      ck (kc Y p5 = 1) <|
      ck (xb 3 (kn Y p5) = true) <|
      if (gi N p5 3) = 1 then
        ck (xb 0 (kn Y p5) = true) <|
        if (gi N p5 0) = v_2 then
          ck (xb 4 (kn Y p5) = true) <|
          if (gi N p5 4) = v_1 then
            ck (kc Y p_0 = 18) <|
            ck (k ≤ 1 ∧ n ≤ 4) <|
            bd (f_X8_assign Y p_0 p5 N) fun N17 =>
            f_X8_release_50 D9 Y q p_0 v_1 v_2 (v_4 + 1) p_5 v_6 (v_7 + 1) k n N17
          else
            f_X8_release_50 D9 Y q p_0 v_1 v_2 v_4 p_5 v_6 (v_7 + 1) k n N
        else
          f_X8_release_50 D9 Y q p_0 v_1 v_2 v_4 p_5 v_6 (v_7 + 1) k n N
      else
        f_X8_release_50 D9 Y q p_0 v_1 v_2 v_4 p_5 v_6 (v_7 + 1) k n N
noncomputable def f_X8_release (Y : XY) (q : Nat) (a0 : Nat) (a1 : Int32) (a2 : Int32) (N : XN) : Option (Int32 × XY × Nat × XN) :=
  ck (kc Y a0 = 18) <|
  ck (gr Y a0 5 = some (gp Y a0 5)) <|
  lt (gp Y a0 5) fun p2 =>
  ck (kc Y p2 = 8) <|
  ck (xb a2 (kn Y p2) = true) <|
  ck (gr Y p2 a2.toNatClampNeg = some (gp Y p2 a2.toNatClampNeg)) <|
  lt (gp Y p2 a2.toNatClampNeg) fun p6 =>
  bd2 (f_L_placeIn Y p6 a1 N) fun r8 N10 =>
  if (0 : Int32) ≤ r8 then
    ck (xb a2 (kn Y p2) = true) <|
    bd4 (f_L_without Y q p6 r8 N10) fun r13 Y15 q16 N17 =>
    ck (kc Y15 p2 = 8) <|
    ck (kc Y15 r13 = 1) <|
    ck (xb a2 (kn Y15 p2) = true) <|
    lt (sr Y15 p2 a2.toNatClampNeg (some r13)) fun Y21 =>
    ck (kc Y21 a0 = 18) <|
    ck (gr Y21 a0 6 = some (gp Y21 a0 6)) <|
    lt (gp Y21 a0 6) fun p23 =>
    ck (kc Y21 p23 = 8) <|
    lt (Int32.ofNat (kn Y21 p23)) fun v26 =>
    f_X8_release_50 FU Y21 q16 a0 a1 a2 0 p23 v26 0 1 4 N17
  else
    some ((-1), Y, q, N10)
noncomputable def f_X8_count_14 (Y : XY)  : Nat → Int32 → Int32 → Nat → Int32 → Int32 → XN → Option (Int32 × XN)
  | 0, _, _, _, _, _, _ => none
  | D9 + 1, v_1, v_2, p_3, v_4, v_5, N =>
    if v_4 ≤ v_5 then
      some (v_2, N)
    else
      ck (kc Y p_3 = 8) <|
      ck (xb v_5 (kn Y p_3) = true) <|
      ck (gr Y p_3 v_5.toNatClampNeg = some (gp Y p_3 v_5.toNatClampNeg)) <|
      lt (gp Y p_3 v_5.toNatClampNeg) fun p4 =>
      ck (kc Y p4 = 1) <|
      ck (xb 3 (kn Y p4) = true) <|
      if (gi N p4 3) = v_1 then
        f_X8_count_14 Y D9 v_1 (v_2 + 1) p_3 v_4 (v_5 + 1) N
      else
        f_X8_count_14 Y D9 v_1 v_2 p_3 v_4 (v_5 + 1) N
noncomputable def f_X8_count (Y : XY) (a0 : Nat) (a1 : Int32) (N : XN) : Option (Int32 × XN) :=
  ck (kc Y a0 = 18) <|
  ck (gr Y a0 6 = some (gp Y a0 6)) <|
  lt (gp Y a0 6) fun p2 =>
  ck (kc Y p2 = 8) <|
  f_X8_count_14 Y FU a1 0 p2 (Int32.ofNat (kn Y p2)) 0 N
noncomputable def f_X8_told_69 (Y : XY)  : Nat → Nat → Int32 → Int32 → Int32 → Nat → Int32 → Int32 → XN → Option (Int32 × XN)
  | 0, _, _, _, _, _, _, _, _ => none
  | D9 + 1, p_0, v_1, v_2, v_3, p_4, v_5, v_6, N =>
    if v_5 ≤ v_6 then
      if v_1 = 0 then
        ck (kc Y p_0 = 18) <|
        some (gi N p_0 0, N)
      else
        if v_1 = 1 then
          ck (kc Y p_0 = 18) <|
          ck (gr Y p_0 3 = some (gp Y p_0 3)) <|
          lt (gp Y p_0 3) fun p6 =>
          ck (kc Y p6 = 8) <|
          some (Int32.ofNat (kn Y p6), N)
        else
          if v_1 = 2 then
            ck (kc Y p_0 = 18) <|
            ck (gr Y p_0 4 = some (gp Y p_0 4)) <|
            lt (gp Y p_0 4) fun p11 =>
            ck (kc Y p11 = 8) <|
            some (Int32.ofNat (kn Y p11), N)
          else
            if v_1 = 3 then
              ck (kc Y p_0 = 18) <|
              ck (gr Y p_0 6 = some (gp Y p_0 6)) <|
              lt (gp Y p_0 6) fun p16 =>
              ck (kc Y p16 = 8) <|
              some (Int32.ofNat (kn Y p16), N)
            else
              if v_1 = 4 then
                ck (kc Y p_0 = 18) <|
                some (gi N p_0 1, N)
              else
                if (8 : Int32) ≤ v_1 then
                  if v_1 = 8 then
                    some (v_2, N)
                  else
                    some (v_3, N)
                else
                  ck (kc Y p_0 = 18) <|
                  bd2 (f_X8_count Y p_0 (v_1 - 4) N) fun r24 N26 =>
                  some (r24, N26)
    else
      ck (kc Y p_4 = 8) <|
      ck (xb v_6 (kn Y p_4) = true) <|
      ck (gr Y p_4 v_6.toNatClampNeg = some (gp Y p_4 v_6.toNatClampNeg)) <|
      lt (gp Y p_4 v_6.toNatClampNeg) fun p29 =>
      ck (kc Y p29 = 1) <|
      ck (xb 2 (kn Y p29) = true) <|
      f_X8_told_69 Y D9 p_0 v_1 v_2 (v_3 + (gi N p29 2)) p_4 v_5 (v_6 + 1) N
noncomputable def f_X8_told_21 (Y : XY)  : Nat → Nat → Int32 → Int32 → Int32 → Nat → Int32 → Int32 → XN → Option (Int32 × XN)
  | 0, _, _, _, _, _, _, _, _ => none
  | D9 + 1, p_0, v_1, v_2, v_3, p_4, v_5, v_6, N =>
    if v_5 ≤ v_6 then
      ck (kc Y p_0 = 18) <|
      ck (gr Y p_0 4 = some (gp Y p_0 4)) <|
      lt (gp Y p_0 4) fun p3 =>
      ck (kc Y p3 = 8) <|
      f_X8_told_69 Y FU p_0 v_1 v_2 v_3 p3 (Int32.ofNat (kn Y p3)) 0 N
    else
      ck (kc Y p_4 = 8) <|
      ck (xb v_6 (kn Y p_4) = true) <|
      ck (gr Y p_4 v_6.toNatClampNeg = some (gp Y p_4 v_6.toNatClampNeg)) <|
      lt (gp Y p_4 v_6.toNatClampNeg) fun p8 =>
      ck (kc Y p8 = 1) <|
      ck (xb 2 (kn Y p8) = true) <|
      ck (xb 0 (kn Y p8) = true) <|
      f_X8_told_21 Y D9 p_0 v_1 (v_2 + (gi N p8 2)) (v_3 + (gi N p8 0)) p_4 v_5 (v_6 + 1) N
noncomputable def f_X8_told (Y : XY) (a0 : Nat) (a1 : Int32) (N : XN) : Option (Int32 × XN) :=
  ck (kc Y a0 = 18) <|
  ck (gr Y a0 3 = some (gp Y a0 3)) <|
  lt (gp Y a0 3) fun p2 =>
  ck (kc Y p2 = 8) <|
  f_X8_told_21 Y FU a0 a1 0 (gi N a0 1) p2 (Int32.ofNat (kn Y p2)) 0 N
noncomputable def f_X8_ofHandler_16 (Y : XY)  : Nat → Nat → Int32 → Int32 → Int32 → Nat → Int32 → Int32 → XN → Option (Int32 × XN)
  | 0, _, _, _, _, _, _, _, _ => none
  | D9 + 1, p_0, v_1, v_2, v_3, p_4, v_5, v_6, N =>
    if v_5 ≤ v_6 then
      if (3 : Int32) ≤ v_2 then
        if v_2 = 3 then
          ck (kc Y p_0 = 18) <|
          bd2 (f_X8_held Y p_0 v_1 N) fun r5 N7 =>
          some (r5, N7)
        else
          if v_2 = 4 then
            some (v_3, N)
          else
            ck (kc Y p_0 = 18) <|
            ck (gr Y p_0 3 = some (gp Y p_0 3)) <|
            lt (gp Y p_0 3) fun p10 =>
            ck (kc Y p10 = 8) <|
            ck (xb v_1 (kn Y p10) = true) <|
            ck (gr Y p10 v_1.toNatClampNeg = some (gp Y p10 v_1.toNatClampNeg)) <|
            lt (gp Y p10 v_1.toNatClampNeg) fun p14 =>
            ck (kc Y p14 = 1) <|
            ck (xb (v_2 - 2) (kn Y p14) = true) <|
            some (gi N p14 (v_2 - 2).toNatClampNeg, N)
      else
        ck (kc Y p_0 = 18) <|
        ck (gr Y p_0 3 = some (gp Y p_0 3)) <|
        lt (gp Y p_0 3) fun p19 =>
        ck (kc Y p19 = 8) <|
        ck (xb v_1 (kn Y p19) = true) <|
        ck (gr Y p19 v_1.toNatClampNeg = some (gp Y p19 v_1.toNatClampNeg)) <|
        lt (gp Y p19 v_1.toNatClampNeg) fun p23 =>
        ck (kc Y p23 = 1) <|
        ck (xb v_2 (kn Y p23) = true) <|
        some (gi N p23 v_2.toNatClampNeg, N)
    else
      ck (kc Y p_4 = 8) <|
      ck (xb v_6 (kn Y p_4) = true) <|
      ck (gr Y p_4 v_6.toNatClampNeg = some (gp Y p_4 v_6.toNatClampNeg)) <|
      lt (gp Y p_4 v_6.toNatClampNeg) fun p29 =>
      bd2 (f_L_placeIn Y p29 v_1 N) fun r31 N33 =>
      if r31 < 0 then
        f_X8_ofHandler_16 Y D9 p_0 v_1 v_2 v_3 p_4 v_5 (v_6 + 1) N33
      else
        f_X8_ofHandler_16 Y D9 p_0 v_1 v_2 (v_3 + 1) p_4 v_5 (v_6 + 1) N33
noncomputable def f_X8_ofHandler (Y : XY) (a0 : Nat) (a1 : Int32) (a2 : Int32) (N : XN) : Option (Int32 × XN) :=
  ck (kc Y a0 = 18) <|
  ck (gr Y a0 5 = some (gp Y a0 5)) <|
  lt (gp Y a0 5) fun p2 =>
  ck (kc Y p2 = 8) <|
  f_X8_ofHandler_16 Y FU a0 a1 a2 0 p2 (Int32.ofNat (kn Y p2)) 0 N
noncomputable def f_X8_ofLine_16 (Y : XY)  : Nat → Nat → Int32 → Int32 → Int32 → Nat → Int32 → Int32 → XN → Option (Int32 × XN)
  | 0, _, _, _, _, _, _, _, _ => none
  | D9 + 1, p_0, v_1, v_2, v_3, p_4, v_5, v_6, N =>
    if v_5 ≤ v_6 then
      if (3 : Int32) ≤ v_2 then
        if v_2 = 3 then
          ck (kc Y p_0 = 18) <|
          ck (gr Y p_0 5 = some (gp Y p_0 5)) <|
          lt (gp Y p_0 5) fun p5 =>
          ck (kc Y p5 = 8) <|
          ck (xb v_1 (kn Y p5) = true) <|
          ck (gr Y p5 v_1.toNatClampNeg = some (gp Y p5 v_1.toNatClampNeg)) <|
          lt (gp Y p5 v_1.toNatClampNeg) fun p9 =>
          ck (kc Y p9 = 1) <|
          some (Int32.ofNat (kn Y p9), N)
        else
          some (v_3, N)
      else
        ck (kc Y p_0 = 18) <|
        ck (gr Y p_0 4 = some (gp Y p_0 4)) <|
        lt (gp Y p_0 4) fun p13 =>
        ck (kc Y p13 = 8) <|
        ck (xb v_1 (kn Y p13) = true) <|
        ck (gr Y p13 v_1.toNatClampNeg = some (gp Y p13 v_1.toNatClampNeg)) <|
        lt (gp Y p13 v_1.toNatClampNeg) fun p17 =>
        ck (kc Y p17 = 1) <|
        ck (xb v_2 (kn Y p17) = true) <|
        some (gi N p17 v_2.toNatClampNeg, N)
    else
      ck (kc Y p_4 = 8) <|
      ck (xb v_6 (kn Y p_4) = true) <|
      ck (gr Y p_4 v_6.toNatClampNeg = some (gp Y p_4 v_6.toNatClampNeg)) <|
      lt (gp Y p_4 v_6.toNatClampNeg) fun p23 =>
      ck (kc Y p23 = 1) <|
      ck (xb 3 (kn Y p23) = true) <|
      if (gi N p23 3) = 1 then
        ck (xb 0 (kn Y p23) = true) <|
        if (gi N p23 0) = v_1 then
          ck (xb 4 (kn Y p23) = true) <|
          if (0 : Int32) ≤ (gi N p23 4) then
            f_X8_ofLine_16 Y D9 p_0 v_1 v_2 v_3 p_4 v_5 (v_6 + 1) N
          else
            f_X8_ofLine_16 Y D9 p_0 v_1 v_2 (v_3 + 1) p_4 v_5 (v_6 + 1) N
        else
          f_X8_ofLine_16 Y D9 p_0 v_1 v_2 v_3 p_4 v_5 (v_6 + 1) N
      else
        f_X8_ofLine_16 Y D9 p_0 v_1 v_2 v_3 p_4 v_5 (v_6 + 1) N
noncomputable def f_X8_ofLine (Y : XY) (a0 : Nat) (a1 : Int32) (a2 : Int32) (N : XN) : Option (Int32 × XN) :=
  ck (kc Y a0 = 18) <|
  ck (gr Y a0 6 = some (gp Y a0 6)) <|
  lt (gp Y a0 6) fun p2 =>
  ck (kc Y p2 = 8) <|
  f_X8_ofLine_16 Y FU a0 a1 a2 0 p2 (Int32.ofNat (kn Y p2)) 0 N
noncomputable def f_X8_checksum_198 (Y : XY)  (K182 : Int64 → Nat → Int32 → Int32 → XN → Option (Int64 × XN)) : Nat → Int64 → Nat → Int32 → Int32 → Nat → Int32 → XN → Option (Int64 × XN)
  | 0, _, _, _, _, _, _, _ => none
  | D9 + 1, w_1, p_3, v_4, v_5, p_6, v_7, N =>
    if (7 : Int32) ≤ v_7 then
      K182 w_1 p_3 v_4 (v_5 + 1) N
    else
      ck (kc Y p_6 = 1) <|
      ck (xb v_7 (kn Y p_6) = true) <|
      lt ((31 * w_1) + (Int32.toInt64 (gi N p_6 v_7.toNatClampNeg))) fun w4 =>
      f_X8_checksum_198 Y K182 D9 w4 p_3 v_4 v_5 p_6 (v_7 + 1) N
noncomputable def f_X8_checksum_182 (Y : XY)  : Nat → Int64 → Nat → Int32 → Int32 → XN → Option (Int64 × XN)
  | 0, _, _, _, _, _ => none
  | D9 + 1, w_1, p_3, v_4, v_5, N =>
    if v_4 ≤ v_5 then
      some (w_1, N)
    else
      ck (kc Y p_3 = 8) <|
      ck (xb v_5 (kn Y p_3) = true) <|
      ck (gr Y p_3 v_5.toNatClampNeg = some (gp Y p_3 v_5.toNatClampNeg)) <|
      lt (gp Y p_3 v_5.toNatClampNeg) fun p4 =>
      f_X8_checksum_198 Y (f_X8_checksum_182 Y D9) FU w_1 p_3 v_4 v_5 p4 0 N
noncomputable def f_X8_checksum_134 (Y : XY)  (K79 : Nat → Int64 → Int32 → XN → Option (Int64 × XN)) : Nat → Nat → Int64 → Int32 → Nat → Int32 → Int32 → XN → Option (Int64 × XN)
  | 0, _, _, _, _, _, _, _ => none
  | D9 + 1, p_0, w_1, v_3, p_4, v_5, v_6, N =>
    if v_5 ≤ v_6 then
      K79 p_0 w_1 (v_3 + 1) N
    else
      ck (kc Y p_4 = 1) <|
      ck (xb v_6 (kn Y p_4) = true) <|
      lt (gi N p_4 v_6.toNatClampNeg) fun v4 =>
      lt ((31 * w_1) + (Int32.toInt64 v4)) fun w5 =>
      f_X8_checksum_134 Y K79 D9 p_0 w5 v_3 p_4 v_5 (v_6 + 1) N
noncomputable def f_X8_checksum_91 (Y : XY)  (K79 : Nat → Int64 → Int32 → XN → Option (Int64 × XN)) : Nat → Nat → Int64 → Int32 → Int32 → XN → Option (Int64 × XN)
  | 0, _, _, _, _, _ => none
  | D9 + 1, p_0, w_1, v_3, v_4, N =>
    if (5 : Int32) ≤ v_4 then
      ck (kc Y p_0 = 18) <|
      ck (gr Y p_0 5 = some (gp Y p_0 5)) <|
      lt (gp Y p_0 5) fun p3 =>
      ck (kc Y p3 = 8) <|
      ck (xb v_3 (kn Y p3) = true) <|
      ck (gr Y p3 v_3.toNatClampNeg = some (gp Y p3 v_3.toNatClampNeg)) <|
      lt (gp Y p3 v_3.toNatClampNeg) fun p7 =>
      ck (kc Y p7 = 1) <|
      f_X8_checksum_134 Y K79 FU p_0 w_1 v_3 p7 (Int32.ofNat (kn Y p7)) 0 N
    else
      ck (kc Y p_0 = 18) <|
      bd2 (f_X8_ofLine Y p_0 v_3 v_4 N) fun r11 N13 =>
      lt ((31 * w_1) + (Int32.toInt64 r11)) fun w14 =>
      f_X8_checksum_91 Y K79 D9 p_0 w14 v_3 (v_4 + 1) N13
noncomputable def f_X8_checksum_79 (Y : XY)  : Nat → Nat → Int64 → Int32 → XN → Option (Int64 × XN)
  | 0, _, _, _, _ => none
  | D9 + 1, p_0, w_1, v_3, N =>
    ck (kc Y p_0 = 18) <|
    ck (gr Y p_0 4 = some (gp Y p_0 4)) <|
    lt (gp Y p_0 4) fun p2 =>
    ck (kc Y p2 = 8) <|
    if (Int32.ofNat (kn Y p2)) ≤ v_3 then
      ck (gr Y p_0 6 = some (gp Y p_0 6)) <|
      lt (gp Y p_0 6) fun p6 =>
      ck (kc Y p6 = 8) <|
      f_X8_checksum_182 Y FU w_1 p6 (Int32.ofNat (kn Y p6)) 0 N
    else
      f_X8_checksum_91 Y (f_X8_checksum_79 Y D9) FU p_0 w_1 v_3 0 N
noncomputable def f_X8_checksum_43 (Y : XY)  (K31 : Nat → Int64 → Int32 → XN → Option (Int64 × XN)) : Nat → Nat → Int64 → Int32 → Int32 → XN → Option (Int64 × XN)
  | 0, _, _, _, _, _ => none
  | D9 + 1, p_0, w_1, v_3, v_4, N =>
    if (8 : Int32) ≤ v_4 then
      K31 p_0 w_1 (v_3 + 1) N
    else
      ck (kc Y p_0 = 18) <|
      bd2 (f_X8_ofHandler Y p_0 v_3 v_4 N) fun r3 N5 =>
      lt ((31 * w_1) + (Int32.toInt64 r3)) fun w6 =>
      f_X8_checksum_43 Y K31 D9 p_0 w6 v_3 (v_4 + 1) N5
noncomputable def f_X8_checksum_31 (Y : XY)  : Nat → Nat → Int64 → Int32 → XN → Option (Int64 × XN)
  | 0, _, _, _, _ => none
  | D9 + 1, p_0, w_1, v_3, N =>
    ck (kc Y p_0 = 18) <|
    ck (gr Y p_0 3 = some (gp Y p_0 3)) <|
    lt (gp Y p_0 3) fun p2 =>
    ck (kc Y p2 = 8) <|
    if (Int32.ofNat (kn Y p2)) ≤ v_3 then
      f_X8_checksum_79 Y FU p_0 w_1 0 N
    else
      f_X8_checksum_43 Y (f_X8_checksum_31 Y D9) FU p_0 w_1 v_3 0 N
noncomputable def f_X8_checksum_4 (Y : XY)  : Nat → Nat → Int64 → Int32 → XN → Option (Int64 × XN)
  | 0, _, _, _, _ => none
  | D9 + 1, p_0, w_1, v_3, N =>
    if (10 : Int32) ≤ v_3 then
      f_X8_checksum_31 Y FU p_0 w_1 0 N
    else
      ck (kc Y p_0 = 18) <|
      bd2 (f_X8_told Y p_0 v_3 N) fun r3 N5 =>
      lt ((31 * w_1) + (Int32.toInt64 r3)) fun w6 =>
      f_X8_checksum_4 Y D9 p_0 w6 (v_3 + 1) N5
noncomputable def f_X8_checksum (Y : XY) (a0 : Nat) (N : XN) : Option (Int64 × XN) :=
  f_X8_checksum_4 Y FU a0 0 0 N
noncomputable def f_L_flush_22 (Y : XY)  : Nat → Nat → Int32 → XN → Option XN
  | 0, _, _, _ => none
  | D9 + 1, p_1, v_2, N =>
    if (6 : Int32) ≤ v_2 then
      some N
    else
      ck (kc Y p_1 = 1) <|
      ck (xb v_2 (kn Y p_1) = true) <|
      lt (si N p_1 v_2.toNatClampNeg 0) fun N4 =>
      f_L_flush_22 Y D9 p_1 (v_2 + 1) N4
noncomputable def f_L_flush (Y : XY) (a0 : Nat) (a1 : Nat) (N : XN) : Option XN :=
  ck (kc Y a1 = 1) <|
  ck (xb 1 (kn Y a1) = true) <|
  ck (xb 2 (kn Y a1) = true) <|
  ck (xb 3 (kn Y a1) = true) <|
  ck (xb 4 (kn Y a1) = true) <|
  ck (xb 5 (kn Y a1) = true) <|
  ck (kc Y a0 = 17) <|
  bd2 (f_X7_append Y a0 (gi N a1 1) (gi N a1 2) (gi N a1 3) (gi N a1 4) (gi N a1 5) N) fun r8 N9 =>
  f_L_flush_22 Y FU a1 1 N9
noncomputable def f_L_put (Y : XY) (a0 : Nat) (a1 : Nat) (a2 : Int32) (N : XN) : Option XN :=
  ck (kc Y a1 = 1) <|
  ck (xb 0 (kn Y a1) = true) <|
  ck (xb (1 + (((gi N a1 0) - (gi N a1 0) / 20 * 20) / 4)) (kn Y a1) = true) <|
  ck (xb 0 (kn Y a1) = true) <|
  ck (xb (1 + (((gi N a1 0) - (gi N a1 0) / 20 * 20) / 4)) (kn Y a1) = true) <|
  lt (si N a1 ((1 + (((gi N a1 0) - (gi N a1 0) / 20 * 20) / 4)).toNatClampNeg) ((gi N a1 (1 + (((gi N a1 0) - (gi N a1 0) / 20 * 20) / 4)).toNatClampNeg) ||| (a2 <<< ((24 - (8 * ((gi N a1 0) - (gi N a1 0) / 4 * 4))) &&& 31)))) fun N6 =>
  ck (xb 0 (kn Y a1) = true) <|
  ck (xb 0 (kn Y a1) = true) <|
  lt (si N6 a1 0 ((gi N6 a1 0) + 1)) fun N9 =>
  ck (xb 0 (kn Y a1) = true) <|
  if ((gi N9 a1 0) - (gi N9 a1 0) / 20 * 20) = 0 then
    bd (f_L_flush Y a0 a1 N9) fun N13 =>
    some N13
  else
    some N9
noncomputable def f_L_write_2 (Y : XY)  : Nat → Nat → Nat → Nat → Int32 → XN → Option XN
  | 0, _, _, _, _, _ => none
  | D9 + 1, p_0, p_1, p_2, v_3, N =>
    ck (isS (kc Y p_2) = true) <|
    bd2 (f_J0_length_8abf5 Y p_2 N) fun r2 N4 =>
    if r2 ≤ v_3 then
      some N4
    else
      bd2 (f_J0_charAt_5068e Y p_2 v_3 N4) fun r6 N8 =>
      bd (f_L_put Y p_0 p_1 r6 N8) fun N10 =>
      f_L_write_2 Y D9 p_0 p_1 p_2 (v_3 + 1) N10
noncomputable def f_L_write (Y : XY) (a0 : Nat) (a1 : Nat) (a2 : Nat) (N : XN) : Option XN :=
  f_L_write_2 Y FU a0 a1 a2 0 N
noncomputable def f_L_writeNumber_18 (Y : XY)  : Nat → Nat → Nat → Int32 → Int32 → XN → Option XN
  | 0, _, _, _, _, _ => none
  | D9 + 1, p_0, p_1, v_2, v_3, N =>
    if v_3 ≤ 0 then
      some N
    else
      ck (¬ v_3 = 0) <|
      bd (f_L_put Y p_0 p_1 (48 + ((v_2 / v_3) - (v_2 / v_3) / 10 * 10)) N) fun N4 =>
      f_L_writeNumber_18 Y D9 p_0 p_1 v_2 (v_3 / 10) N4
noncomputable def f_L_writeNumber_2 (Y : XY)  : Nat → Nat → Nat → Int32 → Int32 → XN → Option XN
  | 0, _, _, _, _, _ => none
  | D9 + 1, p_0, p_1, v_2, v_3, N =>
    if (v_2 / 10) < v_3 then
      f_L_writeNumber_18 Y FU p_0 p_1 v_2 v_3 N
    else
      f_L_writeNumber_2 Y D9 p_0 p_1 v_2 (v_3 * 10) N
noncomputable def f_L_writeNumber (Y : XY) (a0 : Nat) (a1 : Nat) (a2 : Int32) (N : XN) : Option XN :=
  f_L_writeNumber_2 Y FU a0 a1 a2 1 N
noncomputable def f_L_writeNumbers_17 (SS SV : Nat → Nat) (Y : XY)  : Nat → Nat → Nat → Nat → Int32 → Int32 → XN → Option XN
  | 0, _, _, _, _, _, _ => none
  | D9 + 1, p_0, p_1, p_4, v_5, v_6, N =>
    if v_5 ≤ v_6 then
      some N
    else
      ck (kc Y p_4 = 1) <|
      ck (xb v_6 (kn Y p_4) = true) <|
      lt (gi N p_4 v_6.toNatClampNeg) fun v4 =>
      bd (f_L_write Y p_0 p_1 (SS 13) N) fun N6 =>
      bd (f_L_writeNumber Y p_0 p_1 v4 N6) fun N8 =>
      f_L_writeNumbers_17 SS SV Y D9 p_0 p_1 p_4 v_5 (v_6 + 1) N8
noncomputable def f_L_writeNumbers (SS SV : Nat → Nat) (Y : XY) (a0 : Nat) (a1 : Nat) (a2 : Nat) (a3 : Nat) (N : XN) : Option XN :=
  bd (f_L_write Y a0 a1 a2 N) fun N2 =>
  ck (kc Y a3 = 1) <|
  f_L_writeNumbers_17 SS SV Y FU a0 a1 a3 (Int32.ofNat (kn Y a3)) 0 N2
