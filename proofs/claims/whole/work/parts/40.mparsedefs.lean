def f_X8_byteAt (Y : XY) (a0 : Nat) (a1 : Int32) (N : XN) : Option Int32 :=
  if (gi N a0 3) ≤ a1 then
    some (-1)
  else
    if xb a1 700 then
      some (gi N (gp Y a0 1) a1.toNatClampNeg)
    else none
def f_X8_next_0 (Y : XY) : Nat → Nat → XN → Option (Int32 × XN)
  | 0, _, _ => none
  | D9 + 1, p_0, N =>
    bd (f_X8_byteAt Y p_0 (gi N p_0 4) N) fun r2 =>
    if r2 = 32 then
      lt (si N p_0 4 ((gi N p_0 4) + 1)) fun N4 =>
      f_X8_next_0 Y D9 p_0 N4
    else
      bd (f_X8_byteAt Y p_0 (gi N p_0 4) N) fun r6 =>
      some (r6, N)
def f_X8_next (Y : XY) (a0 : Nat) (N : XN) : Option (Int32 × XN) :=
  f_X8_next_0 Y FU a0 N
def f_X8_isGood (Y : XY) (a0 : Nat) (N : XN) : Int32 :=
  if (gi N a0 5) = 0 then
    1
  else
    0
def f_X8_report (Y : XY) (a0 : Nat) (a1 : Int32) (a2 : Int32) (N : XN) : Option XN :=
  if (gi N a0 5) = 0 then
    lt (si N a0 5 a1) fun N2 =>
    lt (si N2 a0 6 a2) fun N3 =>
    some N3
  else
    some N
def f_X8_isDigit (Y : XY) (a0 : Int32) (N : XN) : Option Int32 :=
  if xz (f_X8_in Y a0 48 57 N) then
    some (f_X8_in Y a0 48 57 N)
  else none
def f_X8_takeWord_16 (Y : XY) : Nat → Nat → Nat → Int32 → XN → Option (Int32 × XN)
  | 0, _, _, _, _ => none
  | D9 + 1, p_0, t_1, v_2, N =>
    if t_1 < 13 then
      if (nI (xWo t_1).length) ≤ v_2 then
        if t_1 < 13 then
          if v_2 < (nI (xWo t_1).length) then
            some (0, N)
          else
            bd (f_X8_byteAt Y p_0 ((gi N p_0 4) + v_2) N) fun r6 =>
            if (f_X8_in Y r6 97 122 N) = 0 then
              lt (si N p_0 4 ((gi N p_0 4) + v_2)) fun N8 =>
              some (1, N8)
            else
              some (0, N)
        else none
      else
        bd (f_X8_byteAt Y p_0 ((gi N p_0 4) + v_2) N) fun r10 =>
        if t_1 < 13 ∧ xb v_2 (xWo t_1).length then
          if r10 = ((xWo t_1).getD v_2.toNatClampNeg 0) then
            f_X8_takeWord_16 Y D9 p_0 t_1 (v_2 + 1) N
          else
            if t_1 < 13 then
              if v_2 < (nI (xWo t_1).length) then
                some (0, N)
              else
                bd (f_X8_byteAt Y p_0 ((gi N p_0 4) + v_2) N) fun r16 =>
                if (f_X8_in Y r16 97 122 N) = 0 then
                  lt (si N p_0 4 ((gi N p_0 4) + v_2)) fun N18 =>
                  some (1, N18)
                else
                  some (0, N)
            else none
        else none
    else none
def f_X8_takeWord (Y : XY) (a0 : Nat) (a1 : Nat) (N : XN) : Option (Int32 × XN) :=
  if (f_X8_isGood Y a0 N) = 0 then
    some (0, N)
  else
    bd2 (f_X8_next Y a0 N) fun r3 N4 =>
    f_X8_takeWord_16 Y FU a0 a1 0 N4
def f_X8_expect (Y : XY) (a0 : Nat) (a1 : Int32) (N : XN) : Option XN :=
  if (f_X8_isGood Y a0 N) = 0 then
    some N
  else
    bd2 (f_X8_next Y a0 N) fun r3 N4 =>
    if r3 = a1 then
      lt (si N4 a0 4 ((gi N4 a0 4) + 1)) fun N6 =>
      some N6
    else
      bd (f_X8_report Y a0 (-2) (gi N4 a0 4) N4) fun N8 =>
      some N8
def f_X8_number_41 (Y : XY) : Nat → Nat → Int32 → Int32 → Int32 → XN → Option (Int32 × XN)
  | 0, _, _, _, _, _ => none
  | D9 + 1, p_0, v_1, v_2, v_3, N =>
    bd (f_X8_byteAt Y p_0 (gi N p_0 4) N) fun r2 =>
    bd (f_X8_isDigit Y r2 N) fun r4 =>
    if r4 = 0 then
      if (f_X8_in Y v_3 v_1 v_2 N) = 0 then
        bd (f_X8_report Y p_0 (-3) (gi N p_0 14) N) fun N8 =>
        some (v_3, N8)
      else
        some (v_3, N)
    else
      bd (f_X8_byteAt Y p_0 (gi N p_0 4) N) fun r10 =>
      lt (f_X8_min Y 1000000 (((10 * v_3) + r10) - 48) N) fun v11 =>
      lt (si N p_0 4 ((gi N p_0 4) + 1)) fun N12 =>
      f_X8_number_41 Y D9 p_0 v_1 v_2 v11 N12
def f_X8_number (Y : XY) (a0 : Nat) (a1 : Int32) (a2 : Int32) (N : XN) : Option (Int32 × XN) :=
  if (f_X8_isGood Y a0 N) = 0 then
    some (0, N)
  else
    bd2 (f_X8_next Y a0 N) fun r3 N4 =>
    bd (f_X8_isDigit Y r3 N4) fun r6 =>
    if r6 = 0 then
      bd (f_X8_report Y a0 (-2) (gi N4 a0 4) N4) fun N9 =>
      some (0, N9)
    else
      lt (si N4 a0 14 (gi N4 a0 4)) fun N10 =>
      f_X8_number_41 Y FU a0 a1 a2 0 N10
def f_X8_emit (Y : XY) (a0 : Nat) (a1 : Int32) (N : XN) : Option XN :=
  if (f_X8_isGood Y a0 N) = 0 then
    some N
  else
    if xb (584 + (gi N (gp Y a0 9) 11)) 1784 then
      lt (si N (gp Y a0 9) ((584 + (gi N (gp Y a0 9) 11)).toNatClampNeg) a1) fun N6 =>
      lt (si N6 (gp Y a0 9) 11 ((gi N6 (gp Y a0 9) 11) + 1)) fun N7 =>
      some N7
    else none
def f_X8_sum_4 (Y : XY) (rc : Nat → Nat → XN → Option XN) : Nat → Nat → XN → Option XN
  | 0, _, _ => none
  | D9 + 1, p_0, N =>
    if (f_X8_isGood Y p_0 N) = 0 then
      some N
    else
      bd2 (f_X8_next Y p_0 N) fun r3 N4 =>
      if r3 = 43 then
        bd2 (f_X8_next Y p_0 N4) fun r7 N8 =>
        if r7 = 43 then
          lt (si N8 p_0 4 ((gi N8 p_0 4) + 1)) fun N10 =>
          bd (rc 1 p_0 N10) fun N12 =>
          bd (f_X8_emit Y p_0 2 N12) fun N14 =>
          f_X8_sum_4 Y rc D9 p_0 N14
        else
          lt (si N8 p_0 4 ((gi N8 p_0 4) + 1)) fun N15 =>
          bd (rc 1 p_0 N15) fun N17 =>
          bd (f_X8_emit Y p_0 3 N17) fun N19 =>
          f_X8_sum_4 Y rc D9 p_0 N19
      else
        bd2 (f_X8_next Y p_0 N4) fun r21 N22 =>
        if r21 = 45 then
          bd2 (f_X8_next Y p_0 N22) fun r25 N26 =>
          if r25 = 43 then
            lt (si N26 p_0 4 ((gi N26 p_0 4) + 1)) fun N28 =>
            bd (rc 1 p_0 N28) fun N30 =>
            bd (f_X8_emit Y p_0 2 N30) fun N32 =>
            f_X8_sum_4 Y rc D9 p_0 N32
          else
            lt (si N26 p_0 4 ((gi N26 p_0 4) + 1)) fun N33 =>
            bd (rc 1 p_0 N33) fun N35 =>
            bd (f_X8_emit Y p_0 3 N35) fun N37 =>
            f_X8_sum_4 Y rc D9 p_0 N37
        else
          some N22
def b_X8_sum (Y : XY) (rc : Nat → Nat → XN → Option XN) (a0 : Nat) (N : XN) : Option XN :=
  bd (rc 1 a0 N) fun N2 =>
  f_X8_sum_4 Y rc FU a0 N2
def f_X8_term_4 (Y : XY) (rc : Nat → Nat → XN → Option XN) : Nat → Nat → XN → Option XN
  | 0, _, _ => none
  | D9 + 1, p_0, N =>
    if (f_X8_isGood Y p_0 N) = 0 then
      some N
    else
      bd2 (f_X8_next Y p_0 N) fun r3 N4 =>
      if r3 = 42 then
        bd2 (f_X8_next Y p_0 N4) fun r7 N8 =>
        if r7 = 42 then
          lt (si N8 p_0 4 ((gi N8 p_0 4) + 1)) fun N10 =>
          bd (rc 2 p_0 N10) fun N12 =>
          bd (f_X8_emit Y p_0 4 N12) fun N14 =>
          f_X8_term_4 Y rc D9 p_0 N14
        else
          lt (si N8 p_0 4 ((gi N8 p_0 4) + 1)) fun N15 =>
          bd (rc 2 p_0 N15) fun N17 =>
          bd (f_X8_emit Y p_0 5 N17) fun N19 =>
          f_X8_term_4 Y rc D9 p_0 N19
      else
        bd2 (f_X8_next Y p_0 N4) fun r21 N22 =>
        if r21 = 47 then
          bd2 (f_X8_next Y p_0 N22) fun r25 N26 =>
          if r25 = 42 then
            lt (si N26 p_0 4 ((gi N26 p_0 4) + 1)) fun N28 =>
            bd (rc 2 p_0 N28) fun N30 =>
            bd (f_X8_emit Y p_0 4 N30) fun N32 =>
            f_X8_term_4 Y rc D9 p_0 N32
          else
            lt (si N26 p_0 4 ((gi N26 p_0 4) + 1)) fun N33 =>
            bd (rc 2 p_0 N33) fun N35 =>
            bd (f_X8_emit Y p_0 5 N35) fun N37 =>
            f_X8_term_4 Y rc D9 p_0 N37
        else
          some N22
def b_X8_term (Y : XY) (rc : Nat → Nat → XN → Option XN) (a0 : Nat) (N : XN) : Option XN :=
  bd (rc 2 a0 N) fun N2 =>
  f_X8_term_4 Y rc FU a0 N2
def b_X8_factor (Y : XY) (rc : Nat → Nat → XN → Option XN) (a0 : Nat) (N : XN) : Option XN :=
  if (f_X8_isGood Y a0 N) = 0 then
    some N
  else
    bd2 (f_X8_next Y a0 N) fun r3 N4 =>
    if r3 = 40 then
      if (gi N4 a0 15) = 4 then
        bd (f_X8_report Y a0 (-6) (gi N4 a0 4) N4) fun N8 =>
        lt (si N8 a0 4 ((gi N8 a0 4) + 1)) fun N9 =>
        lt (si N9 a0 15 ((gi N9 a0 15) + 1)) fun N10 =>
        bd (rc 0 a0 N10) fun N12 =>
        bd (f_X8_expect Y a0 41 N12) fun N14 =>
        lt (si N14 a0 15 ((gi N14 a0 15) - 1)) fun N15 =>
        some N15
      else
        lt (si N4 a0 4 ((gi N4 a0 4) + 1)) fun N16 =>
        lt (si N16 a0 15 ((gi N16 a0 15) + 1)) fun N17 =>
        bd (rc 0 a0 N17) fun N19 =>
        bd (f_X8_expect Y a0 41 N19) fun N21 =>
        lt (si N21 a0 15 ((gi N21 a0 15) - 1)) fun N22 =>
        some N22
    else
      bd (f_X8_isDigit Y r3 N4) fun r24 =>
      if r24 = 0 then
        bd2 (f_X8_takeWord Y a0 2 N4) fun r27 N28 =>
        if r27 = 0 then
          bd2 (f_X8_takeWord Y a0 10 N28) fun r31 N32 =>
          if r31 = 0 then
            bd2 (f_X8_takeWord Y a0 11 N32) fun r35 N36 =>
            if r35 = 0 then
              bd2 (f_X8_takeWord Y a0 12 N36) fun r39 N40 =>
              if r39 = 0 then
                bd2 (f_X8_number Y a0 0 9999 N40) fun r43 N44 =>
                bd (f_X8_emit Y a0 0 N44) fun N46 =>
                bd (f_X8_emit Y a0 r43 N46) fun N48 =>
                some N48
              else
                bd (f_X8_emit Y a0 1 N40) fun N50 =>
                bd (f_X8_emit Y a0 3 N50) fun N52 =>
                some N52
            else
              bd (f_X8_emit Y a0 1 N36) fun N54 =>
              bd (f_X8_emit Y a0 2 N54) fun N56 =>
              some N56
          else
            bd (f_X8_emit Y a0 1 N32) fun N58 =>
            bd (f_X8_emit Y a0 1 N58) fun N60 =>
            some N60
        else
          bd (f_X8_emit Y a0 1 N28) fun N62 =>
          bd (f_X8_emit Y a0 0 N62) fun N64 =>
          some N64
      else
        bd2 (f_X8_number Y a0 0 9999 N4) fun r66 N67 =>
        bd (f_X8_emit Y a0 0 N67) fun N69 =>
        bd (f_X8_emit Y a0 r66 N69) fun N71 =>
        some N71
def f_X8_S (Y : XY) : Nat → Nat → Nat → XN → Option XN
  | 0, _, _, _ => none
  | D + 1, t, a0, N => if t = 0 then b_X8_sum Y (f_X8_S Y D) a0 N else if t = 1 then b_X8_term Y (f_X8_S Y D) a0 N else b_X8_factor Y (f_X8_S Y D) a0 N
def f_X8_once (Y : XY) (a0 : Nat) (a1 : Int32) (a2 : Int32) (N : XN) : Option XN :=
  if (((gi N a0 16) >>> (a1 &&& 31)) &&& 1) = 1 then
    bd (f_X8_report Y a0 (-2) a2 N) fun N3 =>
    lt (si N3 a0 16 ((gi N3 a0 16) ||| (1 <<< (a1 &&& 31)))) fun N4 =>
    some N4
  else
    lt (si N a0 16 ((gi N a0 16) ||| (1 <<< (a1 &&& 31)))) fun N5 =>
    some N5
def f_X8_readHandler (Y : XY) (a0 : Nat) (a1 : Int32) (N : XN) : Option XN :=
  if (gi N (gp Y a0 9) 1) = 6 then
    bd (f_X8_report Y a0 (-5) a1 N) fun N6 =>
    bd2 (f_X8_number Y a0 0 9999 N6) fun r8 N9 =>
    bd2 (f_X8_number Y a0 1 20 N9) fun r11 N12 =>
    if (f_X8_isGood Y a0 N12) = 0 then
      some N12
    else
      if xb ((12 + (6 * (gi N12 (gp Y a0 9) 1))) + 0) 1784 then
        lt (si N12 (gp Y a0 9) (((12 + (6 * (gi N12 (gp Y a0 9) 1))) + 0).toNatClampNeg) r8) fun N15 =>
        if xb ((12 + (6 * (gi N15 (gp Y a0 9) 1))) + 1) 1784 then
          lt (si N15 (gp Y a0 9) (((12 + (6 * (gi N15 (gp Y a0 9) 1))) + 1).toNatClampNeg) r11) fun N17 =>
          lt (si N17 (gp Y a0 9) 1 ((gi N17 (gp Y a0 9) 1) + 1)) fun N18 =>
          some N18
        else none
      else none
  else
    bd2 (f_X8_number Y a0 0 9999 N) fun r20 N21 =>
    bd2 (f_X8_number Y a0 1 20 N21) fun r23 N24 =>
    if (f_X8_isGood Y a0 N24) = 0 then
      some N24
    else
      if xb ((12 + (6 * (gi N24 (gp Y a0 9) 1))) + 0) 1784 then
        lt (si N24 (gp Y a0 9) (((12 + (6 * (gi N24 (gp Y a0 9) 1))) + 0).toNatClampNeg) r20) fun N27 =>
        if xb ((12 + (6 * (gi N27 (gp Y a0 9) 1))) + 1) 1784 then
          lt (si N27 (gp Y a0 9) (((12 + (6 * (gi N27 (gp Y a0 9) 1))) + 1).toNatClampNeg) r23) fun N29 =>
          lt (si N29 (gp Y a0 9) 1 ((gi N29 (gp Y a0 9) 1) + 1)) fun N30 =>
          some N30
        else none
      else none
def f_X8_readLine_101 (Y : XY) : Nat → Nat → Int32 → Int32 → XN → Option XN
  | 0, _, _, _, _ => none
  | D9 + 1, p_0, v_5, v_6, N =>
    if (f_X8_isGood Y p_0 N) = 0 then
      lt (si N (gp Y p_0 9) 2 ((gi N (gp Y p_0 9) 2) + 1)) fun N5 =>
      some N5
    else
      bd2 (f_X8_next Y p_0 N) fun r7 N8 =>
      bd (f_X8_isDigit Y r7 N8) fun r10 =>
      if r10 = 0 then
        lt (si N8 (gp Y p_0 9) 2 ((gi N8 (gp Y p_0 9) 2) + 1)) fun N15 =>
        some N15
      else
        bd2 (f_X8_number Y p_0 0 ((gi N8 (gp Y p_0 9) 1) - 1) N8) fun r20 N21 =>
        if (f_X8_isGood Y p_0 N21) = 0 then
          if (f_X8_isGood Y p_0 N21) = 0 then
            if (f_X8_isGood Y p_0 N21) = 0 then
              some N21
            else
              if xb (v_6 + 3) 1784 then
                if xb ((v_6 + 4) + (gi N21 (gp Y p_0 9) (v_6 + 3).toNatClampNeg)) 1784 then
                  lt (si N21 (gp Y p_0 9) (((v_6 + 4) + (gi N21 (gp Y p_0 9) (v_6 + 3).toNatClampNeg)).toNatClampNeg) r20) fun N27 =>
                  if xb (v_6 + 3) 1784 then
                    if xb (v_6 + 3) 1784 then
                      lt (si N27 (gp Y p_0 9) ((v_6 + 3).toNatClampNeg) ((gi N27 (gp Y p_0 9) (v_6 + 3).toNatClampNeg) + 1)) fun N30 =>
                      f_X8_readLine_101 Y D9 p_0 v_5 v_6 N30
                    else none
                  else none
                else none
              else none
          else
            if xb (v_6 + 3) 1784 then
              if (gi N21 (gp Y p_0 9) (v_6 + 3).toNatClampNeg) = 3 then
                bd (f_X8_report Y p_0 (-5) (gi N21 p_0 14) N21) fun N34 =>
                if (f_X8_isGood Y p_0 N34) = 0 then
                  some N34
                else
                  if xb (v_6 + 3) 1784 then
                    if xb ((v_6 + 4) + (gi N34 (gp Y p_0 9) (v_6 + 3).toNatClampNeg)) 1784 then
                      lt (si N34 (gp Y p_0 9) (((v_6 + 4) + (gi N34 (gp Y p_0 9) (v_6 + 3).toNatClampNeg)).toNatClampNeg) r20) fun N38 =>
                      if xb (v_6 + 3) 1784 then
                        if xb (v_6 + 3) 1784 then
                          lt (si N38 (gp Y p_0 9) ((v_6 + 3).toNatClampNeg) ((gi N38 (gp Y p_0 9) (v_6 + 3).toNatClampNeg) + 1)) fun N41 =>
                          f_X8_readLine_101 Y D9 p_0 v_5 v_6 N41
                        else none
                      else none
                    else none
                  else none
              else
                if (f_X8_isGood Y p_0 N21) = 0 then
                  some N21
                else
                  if xb (v_6 + 3) 1784 then
                    if xb ((v_6 + 4) + (gi N21 (gp Y p_0 9) (v_6 + 3).toNatClampNeg)) 1784 then
                      lt (si N21 (gp Y p_0 9) (((v_6 + 4) + (gi N21 (gp Y p_0 9) (v_6 + 3).toNatClampNeg)).toNatClampNeg) r20) fun N45 =>
                      if xb (v_6 + 3) 1784 then
                        if xb (v_6 + 3) 1784 then
                          lt (si N45 (gp Y p_0 9) ((v_6 + 3).toNatClampNeg) ((gi N45 (gp Y p_0 9) (v_6 + 3).toNatClampNeg) + 1)) fun N48 =>
                          f_X8_readLine_101 Y D9 p_0 v_5 v_6 N48
                        else none
                      else none
                    else none
                  else none
            else none
        else
          bd (f_X8_tenantPlace Y (gp Y p_0 9) v_5 r20 N21) fun r50 =>
          if r50 = (-1) then
            if (f_X8_isGood Y p_0 N21) = 0 then
              if (f_X8_isGood Y p_0 N21) = 0 then
                some N21
              else
                if xb (v_6 + 3) 1784 then
                  if xb ((v_6 + 4) + (gi N21 (gp Y p_0 9) (v_6 + 3).toNatClampNeg)) 1784 then
                    lt (si N21 (gp Y p_0 9) (((v_6 + 4) + (gi N21 (gp Y p_0 9) (v_6 + 3).toNatClampNeg)).toNatClampNeg) r20) fun N56 =>
                    if xb (v_6 + 3) 1784 then
                      if xb (v_6 + 3) 1784 then
                        lt (si N56 (gp Y p_0 9) ((v_6 + 3).toNatClampNeg) ((gi N56 (gp Y p_0 9) (v_6 + 3).toNatClampNeg) + 1)) fun N59 =>
                        f_X8_readLine_101 Y D9 p_0 v_5 v_6 N59
                      else none
                    else none
                  else none
                else none
            else
              if xb (v_6 + 3) 1784 then
                if (gi N21 (gp Y p_0 9) (v_6 + 3).toNatClampNeg) = 3 then
                  bd (f_X8_report Y p_0 (-5) (gi N21 p_0 14) N21) fun N63 =>
                  if (f_X8_isGood Y p_0 N63) = 0 then
                    some N63
                  else
                    if xb (v_6 + 3) 1784 then
                      if xb ((v_6 + 4) + (gi N63 (gp Y p_0 9) (v_6 + 3).toNatClampNeg)) 1784 then
                        lt (si N63 (gp Y p_0 9) (((v_6 + 4) + (gi N63 (gp Y p_0 9) (v_6 + 3).toNatClampNeg)).toNatClampNeg) r20) fun N67 =>
                        if xb (v_6 + 3) 1784 then
                          if xb (v_6 + 3) 1784 then
                            lt (si N67 (gp Y p_0 9) ((v_6 + 3).toNatClampNeg) ((gi N67 (gp Y p_0 9) (v_6 + 3).toNatClampNeg) + 1)) fun N70 =>
                            f_X8_readLine_101 Y D9 p_0 v_5 v_6 N70
                          else none
                        else none
                      else none
                    else none
                else
                  if (f_X8_isGood Y p_0 N21) = 0 then
                    some N21
                  else
                    if xb (v_6 + 3) 1784 then
                      if xb ((v_6 + 4) + (gi N21 (gp Y p_0 9) (v_6 + 3).toNatClampNeg)) 1784 then
                        lt (si N21 (gp Y p_0 9) (((v_6 + 4) + (gi N21 (gp Y p_0 9) (v_6 + 3).toNatClampNeg)).toNatClampNeg) r20) fun N74 =>
                        if xb (v_6 + 3) 1784 then
                          if xb (v_6 + 3) 1784 then
                            lt (si N74 (gp Y p_0 9) ((v_6 + 3).toNatClampNeg) ((gi N74 (gp Y p_0 9) (v_6 + 3).toNatClampNeg) + 1)) fun N77 =>
                            f_X8_readLine_101 Y D9 p_0 v_5 v_6 N77
                          else none
                        else none
                      else none
                    else none
              else none
          else
            bd (f_X8_report Y p_0 (-4) (gi N21 p_0 14) N21) fun N79 =>
            if (f_X8_isGood Y p_0 N79) = 0 then
              if (f_X8_isGood Y p_0 N79) = 0 then
                some N79
              else
                if xb (v_6 + 3) 1784 then
                  if xb ((v_6 + 4) + (gi N79 (gp Y p_0 9) (v_6 + 3).toNatClampNeg)) 1784 then
                    lt (si N79 (gp Y p_0 9) (((v_6 + 4) + (gi N79 (gp Y p_0 9) (v_6 + 3).toNatClampNeg)).toNatClampNeg) r20) fun N84 =>
                    if xb (v_6 + 3) 1784 then
                      if xb (v_6 + 3) 1784 then
                        lt (si N84 (gp Y p_0 9) ((v_6 + 3).toNatClampNeg) ((gi N84 (gp Y p_0 9) (v_6 + 3).toNatClampNeg) + 1)) fun N87 =>
                        f_X8_readLine_101 Y D9 p_0 v_5 v_6 N87
                      else none
                    else none
                  else none
                else none
            else
              if xb (v_6 + 3) 1784 then
                if (gi N79 (gp Y p_0 9) (v_6 + 3).toNatClampNeg) = 3 then
                  bd (f_X8_report Y p_0 (-5) (gi N79 p_0 14) N79) fun N91 =>
                  if (f_X8_isGood Y p_0 N91) = 0 then
                    some N91
                  else
                    if xb (v_6 + 3) 1784 then
                      if xb ((v_6 + 4) + (gi N91 (gp Y p_0 9) (v_6 + 3).toNatClampNeg)) 1784 then
                        lt (si N91 (gp Y p_0 9) (((v_6 + 4) + (gi N91 (gp Y p_0 9) (v_6 + 3).toNatClampNeg)).toNatClampNeg) r20) fun N95 =>
                        if xb (v_6 + 3) 1784 then
                          if xb (v_6 + 3) 1784 then
                            lt (si N95 (gp Y p_0 9) ((v_6 + 3).toNatClampNeg) ((gi N95 (gp Y p_0 9) (v_6 + 3).toNatClampNeg) + 1)) fun N98 =>
                            f_X8_readLine_101 Y D9 p_0 v_5 v_6 N98
                          else none
                        else none
                      else none
                    else none
                else
                  if (f_X8_isGood Y p_0 N79) = 0 then
                    some N79
                  else
                    if xb (v_6 + 3) 1784 then
                      if xb ((v_6 + 4) + (gi N79 (gp Y p_0 9) (v_6 + 3).toNatClampNeg)) 1784 then
                        lt (si N79 (gp Y p_0 9) (((v_6 + 4) + (gi N79 (gp Y p_0 9) (v_6 + 3).toNatClampNeg)).toNatClampNeg) r20) fun N102 =>
                        if xb (v_6 + 3) 1784 then
                          if xb (v_6 + 3) 1784 then
                            lt (si N102 (gp Y p_0 9) ((v_6 + 3).toNatClampNeg) ((gi N102 (gp Y p_0 9) (v_6 + 3).toNatClampNeg) + 1)) fun N105 =>
                            f_X8_readLine_101 Y D9 p_0 v_5 v_6 N105
                          else none
                        else none
                      else none
                    else none
              else none
def f_X8_readLine (Y : XY) (a0 : Nat) (a1 : Int32) (N : XN) : Option XN :=
  if (gi N (gp Y a0 9) 2) = 8 then
    bd (f_X8_report Y a0 (-5) a1 N) fun N6 =>
    bd2 (f_X8_number Y a0 0 99 N6) fun r8 N9 =>
    bd2 (f_X8_number Y a0 1 20 N9) fun r11 N12 =>
    bd2 (f_X8_number Y a0 0 9999 N12) fun r14 N15 =>
    if (f_X8_isGood Y a0 N15) = 0 then
      some N15
    else
      lt (48 + (7 * (gi N15 (gp Y a0 9) 2))) fun v17 =>
      if xb (v17 + 0) 1784 then
        lt (si N15 (gp Y a0 9) ((v17 + 0).toNatClampNeg) r8) fun N19 =>
        if xb (v17 + 1) 1784 then
          lt (si N19 (gp Y a0 9) ((v17 + 1).toNatClampNeg) r11) fun N21 =>
          if xb (v17 + 2) 1784 then
            lt (si N21 (gp Y a0 9) ((v17 + 2).toNatClampNeg) r14) fun N23 =>
            f_X8_readLine_101 Y FU a0 (gi N15 (gp Y a0 9) 2) v17 N23
          else none
        else none
      else none
  else
    bd2 (f_X8_number Y a0 0 99 N) fun r25 N26 =>
    bd2 (f_X8_number Y a0 1 20 N26) fun r28 N29 =>
    bd2 (f_X8_number Y a0 0 9999 N29) fun r31 N32 =>
    if (f_X8_isGood Y a0 N32) = 0 then
      some N32
    else
      lt (48 + (7 * (gi N32 (gp Y a0 9) 2))) fun v34 =>
      if xb (v34 + 0) 1784 then
        lt (si N32 (gp Y a0 9) ((v34 + 0).toNatClampNeg) r25) fun N36 =>
        if xb (v34 + 1) 1784 then
          lt (si N36 (gp Y a0 9) ((v34 + 1).toNatClampNeg) r28) fun N38 =>
          if xb (v34 + 2) 1784 then
            lt (si N38 (gp Y a0 9) ((v34 + 2).toNatClampNeg) r31) fun N40 =>
            f_X8_readLine_101 Y FU a0 (gi N32 (gp Y a0 9) 2) v34 N40
          else none
        else none
      else none
def f_X8_readRequest (Y : XY) (a0 : Nat) (a1 : Int32) (N : XN) : Option XN :=
  if (gi N (gp Y a0 9) 3) = 60 then
    bd (f_X8_report Y a0 (-5) a1 N) fun N6 =>
    bd2 (f_X8_number Y a0 0 ((gi N6 (gp Y a0 9) 2) - 1) N6) fun r8 N9 =>
    bd2 (f_X8_number Y a0 0 999 N9) fun r11 N12 =>
    bd2 (f_X8_number Y a0 1 99 N12) fun r14 N15 =>
    if (f_X8_isGood Y a0 N15) = 0 then
      some N15
    else
      bd (f_X8_putRequest Y (gp Y a0 9) r8 r11 r14 N15) fun N18 =>
      some N18
  else
    bd2 (f_X8_number Y a0 0 ((gi N (gp Y a0 9) 2) - 1) N) fun r20 N21 =>
    bd2 (f_X8_number Y a0 0 999 N21) fun r23 N24 =>
    bd2 (f_X8_number Y a0 1 99 N24) fun r26 N27 =>
    if (f_X8_isGood Y a0 N27) = 0 then
      some N27
    else
      bd (f_X8_putRequest Y (gp Y a0 9) r20 r23 r26 N27) fun N30 =>
      some N30
def f_X8_readOnce (Y : XY) (a0 : Nat) (a1 : Int32) (a2 : Int32) (a3 : Int32) (a4 : Int32) (a5 : Int32) (N : XN) : Option XN :=
  bd (f_X8_once Y a0 a1 a2 N) fun N2 =>
  bd2 (f_X8_number Y a0 a4 a5 N2) fun r7 N8 =>
  if xb a3 1784 then
    lt (si N8 (gp Y a0 9) a3.toNatClampNeg r7) fun N10 =>
    some N10
  else none
def f_X8_statement (Y : XY) (a0 : Nat) (N : XN) : Option XN :=
  bd2 (f_X8_next Y a0 N) fun r2 N3 =>
  bd2 (f_X8_takeWord Y a0 1 N3) fun r5 N6 =>
  if r5 = 0 then
    bd2 (f_X8_takeWord Y a0 2 N6) fun r9 N10 =>
    if r9 = 0 then
      bd2 (f_X8_takeWord Y a0 3 N10) fun r13 N14 =>
      if r13 = 0 then
        bd2 (f_X8_takeWord Y a0 4 N14) fun r17 N18 =>
        if r17 = 0 then
          bd2 (f_X8_takeWord Y a0 5 N18) fun r21 N22 =>
          if r21 = 0 then
            bd2 (f_X8_takeWord Y a0 6 N22) fun r25 N26 =>
            if r25 = 0 then
              bd2 (f_X8_takeWord Y a0 7 N26) fun r29 N30 =>
              if r29 = 0 then
                bd2 (f_X8_takeWord Y a0 8 N30) fun r33 N34 =>
                if r33 = 0 then
                  bd2 (f_X8_takeWord Y a0 9 N34) fun r37 N38 =>
                  if r37 = 0 then
                    bd (f_X8_report Y a0 (-2) (gi N3 a0 4) N38) fun N41 =>
                    bd (f_X8_expect Y a0 59 N41) fun N43 =>
                    some N43
                  else
                    bd (f_X8_once Y a0 5 (gi N3 a0 4) N38) fun N45 =>
                    lt (si N45 (gp Y a0 9) 10 1) fun N49 =>
                    bd (f_X8_S Y 24 0 a0 N49) fun N51 =>
                    bd (f_X8_expect Y a0 59 N51) fun N53 =>
                    some N53
                else
                  bd (f_X8_readOnce Y a0 4 (gi N3 a0 4) 9 0 99 N34) fun N55 =>
                  bd (f_X8_expect Y a0 59 N55) fun N57 =>
                  some N57
              else
                bd (f_X8_readOnce Y a0 3 (gi N3 a0 4) 8 1 99 N30) fun N59 =>
                bd (f_X8_expect Y a0 59 N59) fun N61 =>
                some N61
            else
              bd (f_X8_readOnce Y a0 2 (gi N3 a0 4) 7 0 999 N26) fun N63 =>
              bd (f_X8_expect Y a0 59 N63) fun N65 =>
              some N65
          else
            bd (f_X8_readOnce Y a0 1 (gi N3 a0 4) 6 1 99 N22) fun N67 =>
            bd (f_X8_expect Y a0 59 N67) fun N69 =>
            some N69
        else
          bd (f_X8_readOnce Y a0 0 (gi N3 a0 4) 5 1 99 N18) fun N71 =>
          bd (f_X8_expect Y a0 59 N71) fun N73 =>
          some N73
      else
        bd (f_X8_readRequest Y a0 (gi N3 a0 4) N14) fun N75 =>
        bd (f_X8_expect Y a0 59 N75) fun N77 =>
        some N77
    else
      bd (f_X8_readLine Y a0 (gi N3 a0 4) N10) fun N79 =>
      bd (f_X8_expect Y a0 59 N79) fun N81 =>
      some N81
  else
    bd (f_X8_readHandler Y a0 (gi N3 a0 4) N6) fun N83 =>
    bd (f_X8_expect Y a0 59 N83) fun N85 =>
    some N85
def f_X8_load_99 (Y : XY) : Nat → Nat → XN → Option (Int32 × XN)
  | 0, _, _ => none
  | D9 + 1, p_0, N =>
    if (f_X8_isGood Y p_0 N) = 0 then
      lt (si N p_0 7 (gi N p_0 6)) fun N2 =>
      if (f_X8_isGood Y p_0 N2) = 0 then
        some (gi N2 p_0 5, N2)
      else
        bd (f_X8_remember Y p_0 N2) fun N5 =>
        bd (f_X8_copy Y (gp Y p_0 9) (gp Y p_0 8) 1784 N5) fun N13 =>
        some (gi N13 (gp Y p_0 8) 3, N13)
    else
      bd2 (f_X8_next Y p_0 N) fun r15 N16 =>
      if r15 = (-1) then
        lt (si N16 p_0 7 (gi N16 p_0 6)) fun N18 =>
        if (f_X8_isGood Y p_0 N18) = 0 then
          some (gi N18 p_0 5, N18)
        else
          bd (f_X8_remember Y p_0 N18) fun N21 =>
          bd (f_X8_copy Y (gp Y p_0 9) (gp Y p_0 8) 1784 N21) fun N29 =>
          some (gi N29 (gp Y p_0 8) 3, N29)
      else
        bd (f_X8_statement Y p_0 N16) fun N31 =>
        f_X8_load_99 Y D9 p_0 N31
def f_X8_load (Y : XY) (a0 : Nat) (a1 : Int32) (N : XN) : Option (Int32 × XN) :=
  lt (si N a0 0 0) fun N1 =>
  if (f_X8_in Y a1 0 (gi N1 a0 2) N1) = 0 then
    bd2 (f_X8_fails Y a0 1 1 N1) fun r4 N5 =>
    if r4 = 0 then
      lt (si N5 a0 2 0) fun N7 =>
      lt (si N7 a0 3 a1) fun N8 =>
      lt (si N8 a0 4 0) fun N9 =>
      lt (si N9 a0 5 0) fun N10 =>
      lt (si N10 a0 6 (-1)) fun N11 =>
      lt (si N11 a0 15 0) fun N12 =>
      lt (si N12 a0 16 0) fun N13 =>
      bd (f_X8_layUsual Y (gp Y a0 9) N13) fun N18 =>
      bd2 (f_X8_takeWord Y a0 0 N18) fun r20 N21 =>
      if r20 = 0 then
        bd (f_X8_report Y a0 (-2) (gi N21 a0 4) N21) fun N24 =>
        bd (f_X8_expect Y a0 59 N24) fun N26 =>
        f_X8_load_99 Y FU a0 N26
      else
        bd (f_X8_expect Y a0 59 N21) fun N28 =>
        f_X8_load_99 Y FU a0 N28
    else
      some (0, N5)
  else
    bd2 (f_X8_fails Y a0 0 1 N1) fun r30 N31 =>
    if r30 = 0 then
      lt (si N31 a0 2 0) fun N33 =>
      lt (si N33 a0 3 a1) fun N34 =>
      lt (si N34 a0 4 0) fun N35 =>
      lt (si N35 a0 5 0) fun N36 =>
      lt (si N36 a0 6 (-1)) fun N37 =>
      lt (si N37 a0 15 0) fun N38 =>
      lt (si N38 a0 16 0) fun N39 =>
      bd (f_X8_layUsual Y (gp Y a0 9) N39) fun N44 =>
      bd2 (f_X8_takeWord Y a0 0 N44) fun r46 N47 =>
      if r46 = 0 then
        bd (f_X8_report Y a0 (-2) (gi N47 a0 4) N47) fun N50 =>
        bd (f_X8_expect Y a0 59 N50) fun N52 =>
        f_X8_load_99 Y FU a0 N52
      else
        bd (f_X8_expect Y a0 59 N47) fun N54 =>
        f_X8_load_99 Y FU a0 N54
    else
      some (0, N31)
