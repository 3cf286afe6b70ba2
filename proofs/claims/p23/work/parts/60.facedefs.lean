def f_X7_putBytes_3 (Y : XY) : Nat → Nat → Int32 → Int32 → XN → Option XN
  | 0, _, _, _, _ => none
  | D9 + 1, p_0, v_1, v_2, N =>
    if v_2 < 0 then
      some N
    else
      if 700 ≤ (gi N p_0 1) then
        some N
      else
        if xb (gi N p_0 1) 700 then
          lt (si N (gp Y p_0 0) ((gi N p_0 1).toNatClampNeg) (vp_nar .byte (((v_1.toUInt32 >>> (v_2.toUInt32 &&& Int32.toUInt32 31)).toInt32).toInt8.toInt32))) fun N7 =>
          lt (si N7 p_0 1 ((gi N7 p_0 1) + 1)) fun N8 =>
          f_X7_putBytes_3 Y D9 p_0 v_1 (v_2 + (-8)) N8
        else none
def f_X7_putBytes (Y : XY) (a0 : Nat) (a1 : Int32) (N : XN) : Option XN :=
  f_X7_putBytes_3 Y FU a0 a1 24 N
def f_X7_append (Y : XY) (a0 : Nat) (a1 : Int32) (a2 : Int32) (a3 : Int32) (a4 : Int32) (a5 : Int32) (N : XN) : Option (Int32 × XN) :=
  if (gi N a0 1) ≤ 680 then
    bd (f_X7_putBytes Y a0 a1 N) fun N3 =>
    bd (f_X7_putBytes Y a0 a2 N3) fun N5 =>
    bd (f_X7_putBytes Y a0 a3 N5) fun N7 =>
    bd (f_X7_putBytes Y a0 a4 N7) fun N9 =>
    bd (f_X7_putBytes Y a0 a5 N9) fun N11 =>
    some (gi N11 a0 1, N11)
  else
    some ((-1), N)
def f_X7_keepPresent (Y : XY) (a0 : Nat) (N : XN) : Option XN :=
  if xb (gi N a0 9) 8 then
    bd (f_X6_copyOf Y (gp Y (gp Y a0 7) (gi N a0 9).toNatClampNeg) (gp Y a0 5) N) fun N10 =>
    if 8 ≤ ((gi N10 a0 9) + 1) then
      lt (si N10 a0 9 0) fun N12 =>
      if 8 ≤ (gi N12 a0 8) then
        some N12
      else
        lt (si N12 a0 8 ((gi N12 a0 8) + 1)) fun N14 =>
        some N14
    else
      lt (si N10 a0 9 ((gi N10 a0 9) + 1)) fun N15 =>
      if 8 ≤ (gi N15 a0 8) then
        some N15
      else
        lt (si N15 a0 8 ((gi N15 a0 8) + 1)) fun N17 =>
        some N17
  else none
def f_X7_errorOffset (Y : XY) (a0 : Nat) (N : XN) : Int32 :=
  gi N a0 2
def f_X7_state (Y : XY) (a0 : Nat) (a1 : Int32) (N : XN) : Option ((Int32 ⊕ String) × XN) :=
  if a1 = 0 then
    some (.inl (gi N (gp Y a0 5) 6), N)
  else
    if a1 = 1 then
      some (.inl (gi N (gp Y a0 5) 1), N)
    else
      if a1 = 2 then
        some (.inl (gi N (gp Y a0 5) 3), N)
      else
        if a1 = 3 then
          some (.inl (gi N (gp Y a0 5) 5), N)
        else
          if a1 = 4 then
            some (.inl (gi N (gp Y a0 5) 7), N)
          else
            if a1 = 5 then
              bd (f_X6_requestsIn Y (gp Y a0 5) 1 N) fun r20 =>
              some (.inl r20, N)
            else
              if a1 = 6 then
                bd (f_X6_requestsIn Y (gp Y a0 5) 2 N) fun r25 =>
                some (.inl r25, N)
              else
                if a1 = 7 then
                  bd (f_X6_requestsIn Y (gp Y a0 5) 3 N) fun r30 =>
                  some (.inl r30, N)
                else
                  if a1 = 8 then
                    bd (f_X6_bankruptHandlers Y (gp Y a0 5) N) fun r35 =>
                    some (.inl r35, N)
                  else
                    if a1 = 9 then
                      bd (f_X6_allCoins Y (gp Y a0 5) N) fun r40 =>
                      some (.inl r40, N)
                    else
                      some (.inr "java/lang/IllegalArgumentException", N)
def f_X7_handler (Y : XY) (a0 : Nat) (a1 : Int32) (a2 : Int32) (N : XN) : Option ((Int32 ⊕ String) × XN) :=
  if (f_X6_hasHandler Y (gp Y a0 5) a1 N) = 0 then
    some (.inr "java/lang/IndexOutOfBoundsException", N)
  else
    if xb a1 6 then
      lt (gp Y (gp Y (gp Y a0 5) 0) a1.toNatClampNeg) fun p10 =>
      if a2 = 0 then
        some (.inl (gi N p10 0), N)
      else
        if a2 = 1 then
          some (.inl (gi N p10 1), N)
        else
          if a2 = 2 then
            if (gi N p10 2) = 0 then
              some (.inl 0, N)
            else
              some (.inl 1, N)
          else
            if a2 = 3 then
              some (.inl (gi N p10 3), N)
            else
              if a2 = 4 then
                bd (f_X6_linesOf Y (gp Y a0 5) a1 N) fun r19 =>
                some (.inl r19, N)
              else
                if a2 = 5 then
                  some (.inl (gi N p10 4), N)
                else
                  if a2 = 6 then
                    some (.inl (gi N p10 5), N)
                  else
                    if a2 = 7 then
                      some (.inl (gi N p10 6), N)
                    else
                      some (.inr "java/lang/IllegalArgumentException", N)
    else none
def f_X7_line (Y : XY) (a0 : Nat) (a1 : Int32) (a2 : Int32) (N : XN) : Option ((Int32 ⊕ String) × XN) :=
  if (f_X6_hasLine Y (gp Y a0 5) a1 N) = 0 then
    some (.inr "java/lang/IndexOutOfBoundsException", N)
  else
    if xb a1 8 then
      lt (gp Y (gp Y (gp Y a0 5) 2) a1.toNatClampNeg) fun p10 =>
      if a2 = 0 then
        some (.inl (gi N p10 0), N)
      else
        if a2 = 1 then
          some (.inl (gi N p10 1), N)
        else
          if a2 = 2 then
            some (.inl (gi N p10 2), N)
          else
            if a2 = 3 then
              some (.inl (gi N p10 4), N)
            else
              if a2 = 4 then
                bd (f_X6_openOf Y (gp Y a0 5) a1 (-1) N) fun r18 =>
                some (.inl r18, N)
              else
                some (.inr "java/lang/IllegalArgumentException", N)
    else none
def f_X7_tenant (Y : XY) (a0 : Nat) (a1 : Int32) (a2 : Int32) (N : XN) : Option ((Int32 ⊕ String) × XN) :=
  if (f_X6_hasLine Y (gp Y a0 5) a1 N) = 0 then
    some (.inr "java/lang/IndexOutOfBoundsException", N)
  else
    if xb a1 8 then
      lt (gp Y (gp Y (gp Y a0 5) 2) a1.toNatClampNeg) fun p10 =>
      if a2 < 0 then
        some (.inr "java/util/NoSuchElementException", N)
      else
        if a2 < (gi N p10 4) then
          if xb a2 3 then
            some (.inl (gi N (gp Y p10 3) a2.toNatClampNeg), N)
          else none
        else
          some (.inr "java/util/NoSuchElementException", N)
    else none
def f_X7_request (Y : XY) (a0 : Nat) (a1 : Int32) (a2 : Int32) (N : XN) : Option ((Int32 ⊕ String) × XN) :=
  if (f_X6_hasRequest Y (gp Y a0 5) a1 N) = 0 then
    some (.inr "java/lang/IndexOutOfBoundsException", N)
  else
    if xb a1 60 then
      lt (gp Y (gp Y (gp Y a0 5) 4) a1.toNatClampNeg) fun p10 =>
      if a2 = 0 then
        some (.inl (gi N p10 0), N)
      else
        if a2 = 1 then
          some (.inl (gi N p10 1), N)
        else
          if a2 = 2 then
            some (.inl (gi N p10 2), N)
          else
            if a2 = 3 then
              some (.inl (gi N p10 3), N)
            else
              if a2 = 4 then
                some (.inl (gi N p10 4), N)
              else
                if a2 = 5 then
                  some (.inl (gi N p10 5), N)
                else
                  if a2 = 6 then
                    some (.inl (gi N p10 7), N)
                  else
                    some (.inr "java/lang/IllegalArgumentException", N)
    else none
def f_X7_calm (Y : XY) (a0 : Nat) (a1 : Int32) (N : XN) : Option ((Int32 ⊕ String) × XN) :=
  if (f_X6_hasLine Y (gp Y a0 5) a1 N) = 0 then
    some (.inr "java/lang/IndexOutOfBoundsException", N)
  else
    if xb a1 8 then
      bd (f_X6_raisedInWindow Y (gp Y a0 5) a1 N) fun r11 =>
      lt ((gi N (gp Y (gp Y (gp Y a0 5) 2) a1.toNatClampNeg) 1) - r11) fun v12 =>
      if 0 ≤ v12 then
        some (.inl v12, N)
      else
        some (.inl 0, N)
    else none
def f_X7_endsAt_44 (Y : XY) : Nat → Nat → Nat → Int32 → XN → Option ((Int32 ⊕ String) × XN)
  | 0, _, _, _, _ => none
  | D9 + 1, p_0, p_2, v_3, N =>
    if 1100 ≤ v_3 then
      some (.inl (gi N p_2 7), N)
    else
      if 0 ≤ (gi N p_2 7) then
        some (.inl (gi N p_2 7), N)
      else
        bd (f_X6_passTick Y (gp Y p_0 6) N) fun N6 =>
        f_X7_endsAt_44 Y D9 p_0 p_2 (v_3 + 1) N6
def f_X7_endsAt (Y : XY) (a0 : Nat) (a1 : Int32) (N : XN) : Option ((Int32 ⊕ String) × XN) :=
  if (f_X6_hasRequest Y (gp Y a0 5) a1 N) = 0 then
    some (.inr "java/lang/IndexOutOfBoundsException", N)
  else
    bd (f_X6_copyOf Y (gp Y a0 6) (gp Y a0 5) N) fun N7 =>
    if xb a1 60 then
      lt (gp Y (gp Y (gp Y a0 6) 4) a1.toNatClampNeg) fun p14 =>
      f_X7_endsAt_44 Y FU a0 p14 0 N7
    else none
def f_X7_bankruptIn_44 (Y : XY) : Nat → Nat → Nat → Int32 → XN → Option ((Int32 ⊕ String) × XN)
  | 0, _, _, _, _ => none
  | D9 + 1, p_0, p_2, v_3, N =>
    if 1100 ≤ v_3 then
      if (gi N p_2 2) = 0 then
        some (.inl (-1), N)
      else
        some (.inl v_3, N)
    else
      if (gi N p_2 2) = 0 then
        bd (f_X6_passTick Y (gp Y p_0 6) N) fun N7 =>
        f_X7_bankruptIn_44 Y D9 p_0 p_2 (v_3 + 1) N7
      else
        if (gi N p_2 2) = 0 then
          some (.inl (-1), N)
        else
          some (.inl v_3, N)
def f_X7_bankruptIn (Y : XY) (a0 : Nat) (a1 : Int32) (N : XN) : Option ((Int32 ⊕ String) × XN) :=
  if (f_X6_hasHandler Y (gp Y a0 5) a1 N) = 0 then
    some (.inr "java/lang/IndexOutOfBoundsException", N)
  else
    bd (f_X6_copyOf Y (gp Y a0 6) (gp Y a0 5) N) fun N7 =>
    if xb a1 6 then
      lt (gp Y (gp Y (gp Y a0 6) 0) a1.toNatClampNeg) fun p14 =>
      f_X7_bankruptIn_44 Y FU a0 p14 0 N7
    else none
def f_X7_finesIn (Y : XY) (a0 : Nat) (a1 : Int32) (N : XN) : Option ((Int32 ⊕ String) × XN) :=
  if a1 < 0 then
    some (.inr "java/lang/IllegalArgumentException", N)
  else
    if a1 ≤ 1100 then
      bd (f_X6_copyOf Y (gp Y a0 6) (gp Y a0 5) N) fun N8 =>
      bd2 (f_X6_finesWithin Y (gp Y a0 6) a1 N8) fun r10 N11 =>
      some (.inl r10, N11)
    else
      some (.inr "java/lang/IllegalArgumentException", N)
def f_X7_advise_47 (Y : XY) : Nat → Nat → Int32 → Int32 → Int32 → Int32 → XN → Option ((Int32 ⊕ String) × XN)
  | 0, _, _, _, _, _, _ => none
  | D9 + 1, p_0, v_1, v_2, v_3, v_4, N =>
    if (gi N (gp Y p_0 5) 1) ≤ v_4 then
      some (.inl v_3, N)
    else
      bd (f_X6_mayLease Y (gp Y p_0 5) v_4 v_1 N) fun r5 =>
      if r5 = 0 then
        f_X7_advise_47 Y D9 p_0 v_1 v_2 v_3 (v_4 + 1) N
      else
        bd (f_X6_copyOf Y (gp Y p_0 6) (gp Y p_0 5) N) fun N10 =>
        bd2 (f_X6_letLease Y (gp Y p_0 6) v_4 v_1 N10) fun r12 N13 =>
        bd2 (f_X6_finesWithin Y (gp Y p_0 6) 100 N13) fun r15 N16 =>
        if v_2 ≤ r15 then
          f_X7_advise_47 Y D9 p_0 v_1 v_2 v_3 (v_4 + 1) N16
        else
          f_X7_advise_47 Y D9 p_0 v_1 r15 v_4 (v_4 + 1) N16
def f_X7_advise (Y : XY) (a0 : Nat) (a1 : Int32) (N : XN) : Option ((Int32 ⊕ String) × XN) :=
  if (f_X6_hasLine Y (gp Y a0 5) a1 N) = 0 then
    some (.inr "java/lang/IndexOutOfBoundsException", N)
  else
    bd (f_X6_copyOf Y (gp Y a0 6) (gp Y a0 5) N) fun N7 =>
    bd2 (f_X6_finesWithin Y (gp Y a0 6) 100 N7) fun r9 N10 =>
    f_X7_advise_47 Y FU a0 a1 r9 (-1) 0 N10
def f_X7_pass_52 (Y : XY) : Nat → Nat → Int32 → Int32 → Int32 → XN → Option ((Int32 ⊕ String) × XN)
  | 0, _, _, _, _, _ => none
  | D9 + 1, p_0, v_1, v_2, v_3, N =>
    if v_1 ≤ v_3 then
      bd (f_X6_requestsIn Y (gp Y p_0 5) 2 N) fun r5 =>
      some (.inl (r5 - v_2), N)
    else
      bd (f_X6_passTick Y (gp Y p_0 5) N) fun N9 =>
      f_X7_pass_52 Y D9 p_0 v_1 v_2 (v_3 + 1) N9
def f_X7_pass (Y : XY) (a0 : Nat) (a1 : Int32) (N : XN) : Option ((Int32 ⊕ String) × XN) :=
  if a1 < 1 then
    some (.inr "java/lang/IllegalArgumentException", N)
  else
    if 200 < a1 then
      some (.inr "java/lang/IllegalArgumentException", N)
    else
      if ((gi N (gp Y a0 5) 6) + a1) ≤ 9999 then
        bd (f_X7_keepPresent Y a0 N) fun N7 =>
        bd (f_X6_requestsIn Y (gp Y a0 5) 2 N7) fun r9 =>
        f_X7_pass_52 Y FU a0 a1 r9 0 N7
      else
        some (.inr "java/lang/IllegalArgumentException", N)
def f_X7_raise (Y : XY) (a0 : Nat) (a1 : Int32) (a2 : Int32) (N : XN) : Option ((Int32 ⊕ String) × XN) :=
  if (f_X6_hasLine Y (gp Y a0 5) a1 N) = 0 then
    some (.inr "java/lang/IndexOutOfBoundsException", N)
  else
    if a2 < 1 then
      some (.inr "java/lang/IllegalArgumentException", N)
    else
      if a2 ≤ 99 then
        if (gi N (gp Y a0 5) 5) < 60 then
          bd (f_X7_keepPresent Y a0 N) fun N8 =>
          bd (f_X6_addRequest Y (gp Y a0 5) a1 (gi N8 (gp Y a0 5) 6) a2 N8) fun N10 =>
          if xb (gi N8 (gp Y a0 5) 5) 60 then
            bd (f_X6_openOrRefuse Y (gp Y a0 5) (gp Y (gp Y (gp Y a0 5) 4) (gi N8 (gp Y a0 5) 5).toNatClampNeg) N10) fun N18 =>
            some (.inl (gi N8 (gp Y a0 5) 5), N18)
          else none
        else
          some (.inr "java/lang/IllegalStateException", N)
      else
        some (.inr "java/lang/IllegalArgumentException", N)
def f_X7_lease (Y : XY) (a0 : Nat) (a1 : Int32) (a2 : Int32) (N : XN) : Option ((Int32 ⊕ String) × XN) :=
  if (f_X6_hasHandler Y (gp Y a0 5) a1 N) = 0 then
    some (.inr "java/lang/IndexOutOfBoundsException", N)
  else
    if (f_X6_hasLine Y (gp Y a0 5) a2 N) = 0 then
      some (.inr "java/lang/IndexOutOfBoundsException", N)
    else
      bd (f_X7_keepPresent Y a0 N) fun N6 =>
      bd (f_X6_mayLease Y (gp Y a0 5) a1 a2 N6) fun r8 =>
      if r8 = 0 then
        some (.inl (-1), N6)
      else
        bd2 (f_X6_letLease Y (gp Y a0 5) a1 a2 N6) fun r11 N12 =>
        some (.inl r11, N12)
def f_X7_release (Y : XY) (a0 : Nat) (a1 : Int32) (a2 : Int32) (N : XN) : Option ((Int32 ⊕ String) × XN) :=
  if (f_X6_hasHandler Y (gp Y a0 5) a1 N) = 0 then
    some (.inr "java/lang/IndexOutOfBoundsException", N)
  else
    if (f_X6_hasLine Y (gp Y a0 5) a2 N) = 0 then
      some (.inr "java/lang/IndexOutOfBoundsException", N)
    else
      bd (f_X7_keepPresent Y a0 N) fun N6 =>
      if xb a2 8 then
        bd (f_X2_placeOf Y (gp Y (gp Y (gp Y a0 5) 2) a2.toNatClampNeg) a1 N6) fun r14 =>
        if r14 < 0 then
          some (.inl (-1), N6)
        else
          bd2 (f_X6_letRelease Y (gp Y a0 5) a1 a2 N6) fun r17 N18 =>
          some (.inl r17, N18)
      else none
def f_X7_fund (Y : XY) (a0 : Nat) (a1 : Int32) (a2 : Int32) (N : XN) : Option ((Int32 ⊕ String) × XN) :=
  if (f_X6_hasHandler Y (gp Y a0 5) a1 N) = 0 then
    some (.inr "java/lang/IndexOutOfBoundsException", N)
  else
    if a2 < 1 then
      some (.inr "java/lang/IllegalArgumentException", N)
    else
      if a2 ≤ 9999 then
        bd (f_X7_keepPresent Y a0 N) fun N7 =>
        if xb a1 6 then
          lt (gp Y (gp Y (gp Y a0 5) 0) a1.toNatClampNeg) fun p14 =>
          lt (si N7 p14 0 ((gi N7 p14 0) + a2)) fun N16 =>
          lt (si N16 p14 2 0) fun N17 =>
          some (.inl (gi N17 p14 0), N17)
        else none
      else
        some (.inr "java/lang/IllegalArgumentException", N)
def f_X7_undo (Y : XY) (a0 : Nat) (N : XN) : Option (Int32 × XN) :=
  if (gi N a0 8) = 0 then
    some ((-1), N)
  else
    if (gi N a0 9) ≤ 0 then
      lt (si N a0 9 (8 - 1)) fun N6 =>
      lt (si N6 a0 8 ((gi N6 a0 8) - 1)) fun N7 =>
      if xb (gi N7 a0 9) 8 then
        bd (f_X6_copyOf Y (gp Y a0 5) (gp Y (gp Y a0 7) (gi N7 a0 9).toNatClampNeg) N7) fun N14 =>
        some (gi N14 a0 8, N14)
      else none
    else
      lt (si N a0 9 ((gi N a0 9) - 1)) fun N15 =>
      lt (si N15 a0 8 ((gi N15 a0 8) - 1)) fun N16 =>
      if xb (gi N16 a0 9) 8 then
        bd (f_X6_copyOf Y (gp Y a0 5) (gp Y (gp Y a0 7) (gi N16 a0 9).toNatClampNeg) N16) fun N26 =>
        some (gi N26 a0 8, N26)
      else none
def f_X7_checksum_185 (Y : XY) (k171 : Nat → Int64 → Int32 → XN → Option (Int64 × XN)) : Nat → Nat → Int64 → Int32 → Int32 → XN → Option (Int64 × XN)
  | 0, _, _, _, _, _ => none
  | D9 + 1, p_0, w_1, v_3, v_4, N =>
    if 7 ≤ v_4 then
      k171 p_0 w_1 (v_3 + 1) N
    else
      bdx (f_X7_request Y p_0 v_3 v_4 N) fun r3 N4 =>
      lt ((31 * w_1) + (Int32.toInt64 r3)) fun w5 =>
      f_X7_checksum_185 Y k171 D9 p_0 w5 v_3 (v_4 + 1) N4
def f_X7_checksum_171 (Y : XY) : Nat → Nat → Int64 → Int32 → XN → Option (Int64 × XN)
  | 0, _, _, _, _ => none
  | D9 + 1, p_0, w_1, v_3, N =>
    if (gi N (gp Y p_0 5) 5) ≤ v_3 then
      some (w_1, N)
    else
      f_X7_checksum_185 Y (f_X7_checksum_171 Y D9) FU p_0 w_1 v_3 0 N
def f_X7_checksum_125 (Y : XY) (k81 : Nat → Int64 → Int32 → XN → Option (Int64 × XN)) : Nat → Nat → Int64 → Int32 → Int32 → XN → Option (Int64 × XN)
  | 0, _, _, _, _, _ => none
  | D9 + 1, p_0, w_1, v_3, v_4, N =>
    if xb v_3 8 then
      if (gi N (gp Y (gp Y (gp Y p_0 5) 2) v_3.toNatClampNeg) 4) ≤ v_4 then
        k81 p_0 w_1 (v_3 + 1) N
      else
        bdx (f_X7_tenant Y p_0 v_3 v_4 N) fun r11 N12 =>
        lt ((31 * w_1) + (Int32.toInt64 r11)) fun w13 =>
        f_X7_checksum_125 Y k81 D9 p_0 w13 v_3 (v_4 + 1) N12
    else none
def f_X7_checksum_95 (Y : XY) (k81 : Nat → Int64 → Int32 → XN → Option (Int64 × XN)) : Nat → Nat → Int64 → Int32 → Int32 → XN → Option (Int64 × XN)
  | 0, _, _, _, _, _ => none
  | D9 + 1, p_0, w_1, v_3, v_4, N =>
    if 5 ≤ v_4 then
      f_X7_checksum_125 Y k81 FU p_0 w_1 v_3 0 N
    else
      bdx (f_X7_line Y p_0 v_3 v_4 N) fun r3 N4 =>
      lt ((31 * w_1) + (Int32.toInt64 r3)) fun w5 =>
      f_X7_checksum_95 Y k81 D9 p_0 w5 v_3 (v_4 + 1) N4
def f_X7_checksum_81 (Y : XY) : Nat → Nat → Int64 → Int32 → XN → Option (Int64 × XN)
  | 0, _, _, _, _ => none
  | D9 + 1, p_0, w_1, v_3, N =>
    if (gi N (gp Y p_0 5) 3) ≤ v_3 then
      f_X7_checksum_171 Y FU p_0 w_1 0 N
    else
      f_X7_checksum_95 Y (f_X7_checksum_81 Y D9) FU p_0 w_1 v_3 0 N
def f_X7_checksum_45 (Y : XY) (k31 : Nat → Int64 → Int32 → XN → Option (Int64 × XN)) : Nat → Nat → Int64 → Int32 → Int32 → XN → Option (Int64 × XN)
  | 0, _, _, _, _, _ => none
  | D9 + 1, p_0, w_1, v_3, v_4, N =>
    if 8 ≤ v_4 then
      k31 p_0 w_1 (v_3 + 1) N
    else
      bdx (f_X7_handler Y p_0 v_3 v_4 N) fun r3 N4 =>
      lt ((31 * w_1) + (Int32.toInt64 r3)) fun w5 =>
      f_X7_checksum_45 Y k31 D9 p_0 w5 v_3 (v_4 + 1) N4
def f_X7_checksum_31 (Y : XY) : Nat → Nat → Int64 → Int32 → XN → Option (Int64 × XN)
  | 0, _, _, _, _ => none
  | D9 + 1, p_0, w_1, v_3, N =>
    if (gi N (gp Y p_0 5) 1) ≤ v_3 then
      f_X7_checksum_81 Y FU p_0 w_1 0 N
    else
      f_X7_checksum_45 Y (f_X7_checksum_31 Y D9) FU p_0 w_1 v_3 0 N
def f_X7_checksum_4 (Y : XY) : Nat → Nat → Int64 → Int32 → XN → Option (Int64 × XN)
  | 0, _, _, _, _ => none
  | D9 + 1, p_0, w_1, v_3, N =>
    if 10 ≤ v_3 then
      f_X7_checksum_31 Y FU p_0 w_1 0 N
    else
      bdx (f_X7_state Y p_0 v_3 N) fun r3 N4 =>
      lt ((31 * w_1) + (Int32.toInt64 r3)) fun w5 =>
      f_X7_checksum_4 Y D9 p_0 w5 (v_3 + 1) N4
def f_X7_checksum (Y : XY) (a0 : Nat) (N : XN) : Option (Int64 × XN) :=
  f_X7_checksum_4 Y FU a0 0 0 N
