def f_X0_copyOf_10 (Y : XY) : Nat → Nat → Nat → Int32 → XN → Option XN
  | 0, _, _, _, _ => none
  | D9 + 1, p_0, p_1, v_2, N =>
    if (gi N p_0 1) ≤ v_2 then
      some N
    else
      if xb v_2 700 then
        if xb v_2 700 then
          lt (si N (gp Y p_0 0) v_2.toNatClampNeg (gi N (gp Y p_1 0) v_2.toNatClampNeg)) fun N10 =>
          f_X0_copyOf_10 Y D9 p_0 p_1 (v_2 + 1) N10
        else none
      else none
def f_X0_copyOf (Y : XY) (a0 : Nat) (a1 : Nat) (N : XN) : Option XN :=
  lt (si N a0 1 (gi N a1 1)) fun N1 =>
  f_X0_copyOf_10 Y FU a0 a1 0 N1
def f_X0_addStep (Y : XY) (a0 : Nat) (a1 : Int32) (N : XN) : Option XN :=
  if 700 ≤ (gi N a0 1) then
    some N
  else
    if xb (gi N a0 1) 700 then
      lt (si N (gp Y a0 0) ((gi N a0 1).toNatClampNeg) a1) fun N6 =>
      lt (si N6 a0 1 ((gi N6 a0 1) + 1)) fun N7 =>
      some N7
    else none
def f_X0_result (Y : XY) (a0 : Int32) (a1 : Int32) (a2 : Int32) (N : XN) : Option Int32 :=
  if a0 = 6 then
    lt ((Int32.toInt64 a1) + (Int32.toInt64 a2)) fun w2 =>
    if 0 ≤ (lg_cmp w2 (-1000000)) then
      if (lg_cmp w2 1000000) ≤ 0 then
        some (Int64.toInt32 w2)
      else
        some (Int64.toInt32 1000000)
    else
      some (Int64.toInt32 (-1000000))
  else
    if a0 = 7 then
      lt ((Int32.toInt64 a1) - (Int32.toInt64 a2)) fun w6 =>
      if 0 ≤ (lg_cmp w6 (-1000000)) then
        if (lg_cmp w6 1000000) ≤ 0 then
          some (Int64.toInt32 w6)
        else
          some (Int64.toInt32 1000000)
      else
        some (Int64.toInt32 (-1000000))
    else
      if a0 = 8 then
        lt ((Int32.toInt64 a1) * (Int32.toInt64 a2)) fun w10 =>
        if 0 ≤ (lg_cmp w10 (-1000000)) then
          if (lg_cmp w10 1000000) ≤ 0 then
            some (Int64.toInt32 w10)
          else
            some (Int64.toInt32 1000000)
        else
          some (Int64.toInt32 (-1000000))
      else
        if a2 = 0 then
          if 0 ≤ (lg_cmp 0 (-1000000)) then
            if (lg_cmp 0 1000000) ≤ 0 then
              some (Int64.toInt32 0)
            else
              some (Int64.toInt32 1000000)
          else
            some (Int64.toInt32 (-1000000))
        else
          if a2 = 0 then none else
          lt (Int32.toInt64 (a1 / a2)) fun w17 =>
          if 0 ≤ (lg_cmp w17 (-1000000)) then
            if (lg_cmp w17 1000000) ≤ 0 then
              some (Int64.toInt32 w17)
            else
              some (Int64.toInt32 1000000)
          else
            some (Int64.toInt32 (-1000000))
def f_X0_value_6 (Y : XY) : Nat → Nat → Int32 → Int32 → Int32 → Int32 → Int32 → Int32 → XN → Option (Int32 × XN)
  | 0, _, _, _, _, _, _, _, _ => none
  | D9 + 1, p_0, v_1, v_2, v_3, v_4, v_5, v_6, N =>
    if (gi N p_0 1) ≤ v_6 then
      if (gi N p_0 1) = 0 then
        if 0 ≤ v_2 then
          if v_2 ≤ 9999 then
            some (v_2, N)
          else
            some (9999, N)
        else
          some (0, N)
      else
        if 0 ≤ (gi N (gp Y p_0 2) 0) then
          if (gi N (gp Y p_0 2) 0) ≤ 9999 then
            some (gi N (gp Y p_0 2) 0, N)
          else
            some (9999, N)
        else
          some (0, N)
    else
      if xb v_6 700 then
        lt (gi N (gp Y p_0 0) v_6.toNatClampNeg) fun v14 =>
        if (-6) < v14 then
          if 16 ≤ v_5 then
            f_X0_value_6 Y D9 p_0 v_1 v_2 v_3 v_4 v_5 (v_6 + 1) N
          else
            if v14 < 0 then
              if v14 = (-12) then
                if xb v_5 16 then
                  lt (si N (gp Y p_0 2) v_5.toNatClampNeg v_1) fun N23 =>
                  f_X0_value_6 Y D9 p_0 v_1 v_2 v_3 v_4 (v_5 + 1) (v_6 + 1) N23
                else none
              else
                if v14 = (-20) then
                  if xb v_5 16 then
                    lt (si N (gp Y p_0 2) v_5.toNatClampNeg v_2) fun N26 =>
                    f_X0_value_6 Y D9 p_0 v_1 v_2 v_3 v_4 (v_5 + 1) (v_6 + 1) N26
                  else none
                else
                  if v14 = (-21) then
                    if xb v_5 16 then
                      lt (si N (gp Y p_0 2) v_5.toNatClampNeg v_3) fun N29 =>
                      f_X0_value_6 Y D9 p_0 v_1 v_2 v_3 v_4 (v_5 + 1) (v_6 + 1) N29
                    else none
                  else
                    if xb v_5 16 then
                      lt (si N (gp Y p_0 2) v_5.toNatClampNeg v_4) fun N31 =>
                      f_X0_value_6 Y D9 p_0 v_1 v_2 v_3 v_4 (v_5 + 1) (v_6 + 1) N31
                    else none
            else
              if xb v_5 16 then
                lt (si N (gp Y p_0 2) v_5.toNatClampNeg v14) fun N33 =>
                f_X0_value_6 Y D9 p_0 v_1 v_2 v_3 v_4 (v_5 + 1) (v_6 + 1) N33
              else none
        else
          if v14 < (-9) then
            if 16 ≤ v_5 then
              f_X0_value_6 Y D9 p_0 v_1 v_2 v_3 v_4 v_5 (v_6 + 1) N
            else
              if v14 < 0 then
                if v14 = (-12) then
                  if xb v_5 16 then
                    lt (si N (gp Y p_0 2) v_5.toNatClampNeg v_1) fun N42 =>
                    f_X0_value_6 Y D9 p_0 v_1 v_2 v_3 v_4 (v_5 + 1) (v_6 + 1) N42
                  else none
                else
                  if v14 = (-20) then
                    if xb v_5 16 then
                      lt (si N (gp Y p_0 2) v_5.toNatClampNeg v_2) fun N45 =>
                      f_X0_value_6 Y D9 p_0 v_1 v_2 v_3 v_4 (v_5 + 1) (v_6 + 1) N45
                    else none
                  else
                    if v14 = (-21) then
                      if xb v_5 16 then
                        lt (si N (gp Y p_0 2) v_5.toNatClampNeg v_3) fun N48 =>
                        f_X0_value_6 Y D9 p_0 v_1 v_2 v_3 v_4 (v_5 + 1) (v_6 + 1) N48
                      else none
                    else
                      if xb v_5 16 then
                        lt (si N (gp Y p_0 2) v_5.toNatClampNeg v_4) fun N50 =>
                        f_X0_value_6 Y D9 p_0 v_1 v_2 v_3 v_4 (v_5 + 1) (v_6 + 1) N50
                      else none
              else
                if xb v_5 16 then
                  lt (si N (gp Y p_0 2) v_5.toNatClampNeg v14) fun N52 =>
                  f_X0_value_6 Y D9 p_0 v_1 v_2 v_3 v_4 (v_5 + 1) (v_6 + 1) N52
                else none
          else
            if v_5 < 2 then
              f_X0_value_6 Y D9 p_0 v_1 v_2 v_3 v_4 v_5 (v_6 + 1) N
            else
              if 16 < v_5 then
                f_X0_value_6 Y D9 p_0 v_1 v_2 v_3 v_4 v_5 (v_6 + 1) N
              else
                if xb (v_5 - 2) 16 then
                  if xb (v_5 - 1) 16 then
                    bd (f_X0_result Y (-v14) (gi N (gp Y p_0 2) (v_5 - 2).toNatClampNeg) (gi N (gp Y p_0 2) (v_5 - 1).toNatClampNeg) N) fun r61 =>
                    if xb (v_5 - 2) 16 then
                      lt (si N (gp Y p_0 2) ((v_5 - 2).toNatClampNeg) r61) fun N63 =>
                      f_X0_value_6 Y D9 p_0 v_1 v_2 v_3 v_4 (v_5 + (-1)) (v_6 + 1) N63
                    else none
                  else none
                else none
      else none
def f_X0_value (Y : XY) (a0 : Nat) (a1 : Int32) (a2 : Int32) (a3 : Int32) (a4 : Int32) (N : XN) : Option (Int32 × XN) :=
  f_X0_value_6 Y FU a0 a1 a2 a3 a4 0 0 N
def f_X1_begin (Y : XY) (a0 : Nat) (a1 : Int32) (a2 : Int32) (N : XN) : Option XN :=
  lt (si N a0 0 a1) fun N1 =>
  lt (si N1 a0 1 a2) fun N2 =>
  lt (si N2 a0 2 0) fun N3 =>
  lt (si N3 a0 3 0) fun N4 =>
  lt (si N4 a0 4 0) fun N5 =>
  lt (si N5 a0 5 0) fun N6 =>
  lt (si N6 a0 6 0) fun N7 =>
  some N7
def f_X1_copyOf (Y : XY) (a0 : Nat) (a1 : Nat) (N : XN) : Option XN :=
  lt (si N a0 0 (gi N a1 0)) fun N1 =>
  lt (si N1 a0 1 (gi N1 a1 1)) fun N2 =>
  if xz (gi N2 a1 2) then
  lt (si N2 a0 2 (gi N2 a1 2)) fun N4 =>
    lt (si N4 a0 3 (gi N4 a1 3)) fun N5 =>
    lt (si N5 a0 4 (gi N5 a1 4)) fun N6 =>
    lt (si N6 a0 5 (gi N6 a1 5)) fun N7 =>
    lt (si N7 a0 6 (gi N7 a1 6)) fun N8 =>
    some N8
  else none
def f_X2_begin (Y : XY) (a0 : Nat) (a1 : Int32) (a2 : Int32) (a3 : Int32) (N : XN) : Option XN :=
  lt (si N a0 0 a1) fun N1 =>
  lt (si N1 a0 1 a2) fun N2 =>
  lt (si N2 a0 2 a3) fun N3 =>
  lt (si N3 a0 4 0) fun N4 =>
  some N4
def f_X2_copyOf_34 (Y : XY) : Nat → Nat → Nat → Int32 → XN → Option XN
  | 0, _, _, _, _ => none
  | D9 + 1, p_0, p_1, v_2, N =>
    if 3 ≤ v_2 then
      some N
    else
      if xb v_2 3 then
        if xb v_2 3 then
          lt (si N (gp Y p_0 3) v_2.toNatClampNeg (gi N (gp Y p_1 3) v_2.toNatClampNeg)) fun N10 =>
          f_X2_copyOf_34 Y D9 p_0 p_1 (v_2 + 1) N10
        else none
      else none
def f_X2_copyOf (Y : XY) (a0 : Nat) (a1 : Nat) (N : XN) : Option XN :=
  lt (si N a0 0 (gi N a1 0)) fun N1 =>
  lt (si N1 a0 1 (gi N1 a1 1)) fun N2 =>
  lt (si N2 a0 2 (gi N2 a1 2)) fun N3 =>
  lt (si N3 a0 4 (gi N3 a1 4)) fun N4 =>
  f_X2_copyOf_34 Y FU a0 a1 0 N4
def f_X2_placeOf_2 (Y : XY) : Nat → Nat → Int32 → Int32 → XN → Option Int32
  | 0, _, _, _, _ => none
  | D9 + 1, p_0, v_1, v_2, N =>
    if (gi N p_0 4) ≤ v_2 then
      some (-1)
    else
      if xb v_2 3 then
        if (gi N (gp Y p_0 3) v_2.toNatClampNeg) = v_1 then
          some v_2
        else
          f_X2_placeOf_2 Y D9 p_0 v_1 (v_2 + 1) N
      else none
def f_X2_placeOf (Y : XY) (a0 : Nat) (a1 : Int32) (N : XN) : Option Int32 :=
  f_X2_placeOf_2 Y FU a0 a1 0 N
def f_X2_addTenant (Y : XY) (a0 : Nat) (a1 : Int32) (N : XN) : Option XN :=
  if 3 ≤ (gi N a0 4) then
    some N
  else
    if xb (gi N a0 4) 3 then
      lt (si N (gp Y a0 3) ((gi N a0 4).toNatClampNeg) a1) fun N6 =>
      lt (si N6 a0 4 ((gi N6 a0 4) + 1)) fun N7 =>
      some N7
    else none
def f_X2_removeTenant_4 (Y : XY) : Nat → Nat → Int32 → Int32 → Int32 → XN → Option XN
  | 0, _, _, _, _, _ => none
  | D9 + 1, p_0, v_1, v_2, v_3, N =>
    if (gi N p_0 4) ≤ v_3 then
      lt (si N p_0 4 v_2) fun N2 =>
      some N2
    else
      if xb v_3 3 then
        if (gi N (gp Y p_0 3) v_3.toNatClampNeg) = v_1 then
          f_X2_removeTenant_4 Y D9 p_0 v_1 v_2 (v_3 + 1) N
        else
          if xb v_3 3 then
            if xb v_2 3 then
              lt (si N (gp Y p_0 3) v_2.toNatClampNeg (gi N (gp Y p_0 3) v_3.toNatClampNeg)) fun N10 =>
              f_X2_removeTenant_4 Y D9 p_0 v_1 (v_2 + 1) (v_3 + 1) N10
            else none
          else none
      else none
def f_X2_removeTenant (Y : XY) (a0 : Nat) (a1 : Int32) (N : XN) : Option XN :=
  f_X2_removeTenant_4 Y FU a0 a1 0 0 N
def f_X2_payAtMost (Y : XY) (a0 : Nat) (a1 : Int32) (N : XN) : Option (Int32 × XN) :=
  if (gi N a0 2) ≤ a1 then
    lt (si N a0 2 ((gi N a0 2) - (gi N a0 2))) fun N2 =>
    some (gi N a0 2, N2)
  else
    lt (si N a0 2 ((gi N a0 2) - a1)) fun N3 =>
    some (a1, N3)
def f_X3_begin (Y : XY) (a0 : Nat) (a1 : Int32) (a2 : Int32) (a3 : Int32) (N : XN) : Option XN :=
  lt (si N a0 0 a1) fun N1 =>
  lt (si N1 a0 1 a2) fun N2 =>
  lt (si N2 a0 2 a3) fun N3 =>
  lt (si N3 a0 3 0) fun N4 =>
  lt (si N4 a0 4 (-1)) fun N5 =>
  lt (si N5 a0 5 0) fun N6 =>
  lt (si N6 a0 6 0) fun N7 =>
  lt (si N7 a0 7 (-1)) fun N8 =>
  some N8
def f_X3_copyOf (Y : XY) (a0 : Nat) (a1 : Nat) (N : XN) : Option XN :=
  lt (si N a0 0 (gi N a1 0)) fun N1 =>
  lt (si N1 a0 1 (gi N1 a1 1)) fun N2 =>
  lt (si N2 a0 2 (gi N2 a1 2)) fun N3 =>
  lt (si N3 a0 3 (gi N3 a1 3)) fun N4 =>
  lt (si N4 a0 4 (gi N4 a1 4)) fun N5 =>
  lt (si N5 a0 5 (gi N5 a1 5)) fun N6 =>
  lt (si N6 a0 6 (gi N6 a1 6)) fun N7 =>
  lt (si N7 a0 7 (gi N7 a1 7)) fun N8 =>
  some N8
def f_X6_begin (Y : XY) (a0 : Nat) (N : XN) : Option XN :=
  lt (si N a0 1 0) fun N1 =>
  lt (si N1 a0 3 0) fun N2 =>
  lt (si N2 a0 5 0) fun N3 =>
  lt (si N3 a0 6 0) fun N4 =>
  lt (si N4 a0 7 0) fun N5 =>
  lt (si N5 a0 8 5) fun N6 =>
  lt (si N6 a0 9 10) fun N7 =>
  lt (si N7 a0 10 10) fun N8 =>
  lt (si N8 a0 11 10) fun N9 =>
  lt (si N9 a0 12 1) fun N10 =>
  lt (si N10 (gp Y a0 13) 1 0) fun N13 =>
  some N13
def f_X6_copyOf_88 (Y : XY) : Nat → Nat → Nat → Int32 → XN → Option XN
  | 0, _, _, _, _ => none
  | D9 + 1, p_0, p_1, v_2, N =>
    if (gi N p_0 5) ≤ v_2 then
      lt (si N p_0 6 (gi N p_1 6)) fun N2 =>
      lt (si N2 p_0 7 (gi N2 p_1 7)) fun N3 =>
      lt (si N3 p_0 8 (gi N3 p_1 8)) fun N4 =>
      lt (si N4 p_0 9 (gi N4 p_1 9)) fun N5 =>
      lt (si N5 p_0 10 (gi N5 p_1 10)) fun N6 =>
      lt (si N6 p_0 11 (gi N6 p_1 11)) fun N7 =>
      lt (si N7 p_0 12 (gi N7 p_1 12)) fun N8 =>
      bd (f_X0_copyOf Y (gp Y p_0 13) (gp Y p_1 13) N8) fun N14 =>
      some N14
    else
      if xb v_2 60 then
        if xb v_2 60 then
          bd (f_X3_copyOf Y (gp Y (gp Y p_0 4) v_2.toNatClampNeg) (gp Y (gp Y p_1 4) v_2.toNatClampNeg) N) fun N28 =>
          f_X6_copyOf_88 Y D9 p_0 p_1 (v_2 + 1) N28
        else none
      else none
def f_X6_copyOf_49 (Y : XY) : Nat → Nat → Nat → Int32 → XN → Option XN
  | 0, _, _, _, _ => none
  | D9 + 1, p_0, p_1, v_2, N =>
    if (gi N p_0 3) ≤ v_2 then
      lt (si N p_0 5 (gi N p_1 5)) fun N2 =>
      f_X6_copyOf_88 Y FU p_0 p_1 0 N2
    else
      if xb v_2 8 then
        if xb v_2 8 then
          bd (f_X2_copyOf Y (gp Y (gp Y p_0 2) v_2.toNatClampNeg) (gp Y (gp Y p_1 2) v_2.toNatClampNeg) N) fun N16 =>
          f_X6_copyOf_49 Y D9 p_0 p_1 (v_2 + 1) N16
        else none
      else none
def f_X6_copyOf_10 (Y : XY) : Nat → Nat → Nat → Int32 → XN → Option XN
  | 0, _, _, _, _ => none
  | D9 + 1, p_0, p_1, v_2, N =>
    if (gi N p_0 1) ≤ v_2 then
      lt (si N p_0 3 (gi N p_1 3)) fun N2 =>
      f_X6_copyOf_49 Y FU p_0 p_1 0 N2
    else
      if xb v_2 6 then
        if xb v_2 6 then
          bd (f_X1_copyOf Y (gp Y (gp Y p_0 0) v_2.toNatClampNeg) (gp Y (gp Y p_1 0) v_2.toNatClampNeg) N) fun N16 =>
          f_X6_copyOf_10 Y D9 p_0 p_1 (v_2 + 1) N16
        else none
      else none
def f_X6_copyOf (Y : XY) (a0 : Nat) (a1 : Nat) (N : XN) : Option XN :=
  lt (si N a0 1 (gi N a1 1)) fun N1 =>
  f_X6_copyOf_10 Y FU a0 a1 0 N1
def f_X6_hasHandler (Y : XY) (a0 : Nat) (a1 : Int32) (N : XN) : Int32 :=
  if a1 < 0 then
    0
  else
    if (gi N a0 1) ≤ a1 then
      0
    else
      1
def f_X6_hasLine (Y : XY) (a0 : Nat) (a1 : Int32) (N : XN) : Int32 :=
  if a1 < 0 then
    0
  else
    if (gi N a0 3) ≤ a1 then
      0
    else
      1
def f_X6_hasRequest (Y : XY) (a0 : Nat) (a1 : Int32) (N : XN) : Int32 :=
  if a1 < 0 then
    0
  else
    if (gi N a0 5) ≤ a1 then
      0
    else
      1
def f_X6_addHandler (Y : XY) (a0 : Nat) (a1 : Int32) (a2 : Int32) (N : XN) : Option XN :=
  if 6 ≤ (gi N a0 1) then
    some N
  else
    if xb (gi N a0 1) 6 then
      bd (f_X1_begin Y (gp Y (gp Y a0 0) (gi N a0 1).toNatClampNeg) a1 a2 N) fun N9 =>
      lt (si N9 a0 1 ((gi N9 a0 1) + 1)) fun N10 =>
      some N10
    else none
def f_X6_addLine (Y : XY) (a0 : Nat) (a1 : Int32) (a2 : Int32) (a3 : Int32) (N : XN) : Option XN :=
  if 8 ≤ (gi N a0 3) then
    some N
  else
    if xb (gi N a0 3) 8 then
      bd (f_X2_begin Y (gp Y (gp Y a0 2) (gi N a0 3).toNatClampNeg) a1 a2 a3 N) fun N9 =>
      lt (si N9 a0 3 ((gi N9 a0 3) + 1)) fun N10 =>
      some N10
    else none
def f_X6_addRequest (Y : XY) (a0 : Nat) (a1 : Int32) (a2 : Int32) (a3 : Int32) (N : XN) : Option XN :=
  if 60 ≤ (gi N a0 5) then
    some N
  else
    if xb (gi N a0 5) 60 then
      bd (f_X3_begin Y (gp Y (gp Y a0 4) (gi N a0 5).toNatClampNeg) a1 a2 a3 N) fun N9 =>
      lt (si N9 a0 5 ((gi N9 a0 5) + 1)) fun N10 =>
      some N10
    else none
def f_X6_requestsIn_4 (Y : XY) : Nat → Nat → Int32 → Int32 → Int32 → XN → Option Int32
  | 0, _, _, _, _, _ => none
  | D9 + 1, p_0, v_1, v_2, v_3, N =>
    if (gi N p_0 5) ≤ v_3 then
      some v_2
    else
      if xb v_3 60 then
        if (gi N (gp Y (gp Y p_0 4) v_3.toNatClampNeg) 3) = v_1 then
          f_X6_requestsIn_4 Y D9 p_0 v_1 (v_2 + 1) (v_3 + 1) N
        else
          f_X6_requestsIn_4 Y D9 p_0 v_1 v_2 (v_3 + 1) N
      else none
def f_X6_requestsIn (Y : XY) (a0 : Nat) (a1 : Int32) (N : XN) : Option Int32 :=
  f_X6_requestsIn_4 Y FU a0 a1 0 0 N
def f_X6_bankruptHandlers_4 (Y : XY) : Nat → Nat → Int32 → Int32 → XN → Option Int32
  | 0, _, _, _, _ => none
  | D9 + 1, p_0, v_1, v_2, N =>
    if (gi N p_0 1) ≤ v_2 then
      some v_1
    else
      if xb v_2 6 then
        if (gi N (gp Y (gp Y p_0 0) v_2.toNatClampNeg) 2) = 0 then
          f_X6_bankruptHandlers_4 Y D9 p_0 v_1 (v_2 + 1) N
        else
          f_X6_bankruptHandlers_4 Y D9 p_0 (v_1 + 1) (v_2 + 1) N
      else none
def f_X6_bankruptHandlers (Y : XY) (a0 : Nat) (N : XN) : Option Int32 :=
  f_X6_bankruptHandlers_4 Y FU a0 0 0 N
def f_X6_allCoins_35 (Y : XY) : Nat → Nat → Int32 → Int32 → XN → Option Int32
  | 0, _, _, _, _ => none
  | D9 + 1, p_0, v_1, v_2, N =>
    if (gi N p_0 3) ≤ v_2 then
      some v_1
    else
      if xb v_2 8 then
        lt (v_1 + (gi N (gp Y (gp Y p_0 2) v_2.toNatClampNeg) 2)) fun v8 =>
        f_X6_allCoins_35 Y D9 p_0 v8 (v_2 + 1) N
      else none
def f_X6_allCoins_7 (Y : XY) : Nat → Nat → Int32 → Int32 → XN → Option Int32
  | 0, _, _, _, _ => none
  | D9 + 1, p_0, v_1, v_2, N =>
    if (gi N p_0 1) ≤ v_2 then
      f_X6_allCoins_35 Y FU p_0 v_1 0 N
    else
      if xb v_2 6 then
        lt (v_1 + (gi N (gp Y (gp Y p_0 0) v_2.toNatClampNeg) 0)) fun v8 =>
        f_X6_allCoins_7 Y D9 p_0 v8 (v_2 + 1) N
      else none
def f_X6_allCoins (Y : XY) (a0 : Nat) (N : XN) : Option Int32 :=
  f_X6_allCoins_7 Y FU a0 (gi N a0 7) 0 N
def f_X6_allFines_4 (Y : XY) : Nat → Nat → Int32 → Int32 → XN → Option Int32
  | 0, _, _, _, _ => none
  | D9 + 1, p_0, v_1, v_2, N =>
    if (gi N p_0 1) ≤ v_2 then
      some v_1
    else
      if xb v_2 6 then
        lt (v_1 + (gi N (gp Y (gp Y p_0 0) v_2.toNatClampNeg) 4)) fun v8 =>
        f_X6_allFines_4 Y D9 p_0 v8 (v_2 + 1) N
      else none
def f_X6_allFines (Y : XY) (a0 : Nat) (N : XN) : Option Int32 :=
  f_X6_allFines_4 Y FU a0 0 0 N
def f_X6_linesOf_4 (Y : XY) : Nat → Nat → Int32 → Int32 → Int32 → XN → Option Int32
  | 0, _, _, _, _, _ => none
  | D9 + 1, p_0, v_1, v_2, v_3, N =>
    if (gi N p_0 3) ≤ v_3 then
      some v_2
    else
      if xb v_3 8 then
        bd (f_X2_placeOf Y (gp Y (gp Y p_0 2) v_3.toNatClampNeg) v_1 N) fun r9 =>
        if r9 < 0 then
          f_X6_linesOf_4 Y D9 p_0 v_1 v_2 (v_3 + 1) N
        else
          f_X6_linesOf_4 Y D9 p_0 v_1 (v_2 + 1) (v_3 + 1) N
      else none
def f_X6_linesOf (Y : XY) (a0 : Nat) (a1 : Int32) (N : XN) : Option Int32 :=
  f_X6_linesOf_4 Y FU a0 a1 0 0 N
def f_X6_openOf_5 (Y : XY) : Nat → Nat → Int32 → Int32 → Int32 → Int32 → XN → Option Int32
  | 0, _, _, _, _, _, _ => none
  | D9 + 1, p_0, v_1, v_2, v_3, v_4, N =>
    if (gi N p_0 5) ≤ v_4 then
      some v_3
    else
      if xb v_4 60 then
        lt (gp Y (gp Y p_0 4) v_4.toNatClampNeg) fun p8 =>
        if (gi N p8 3) = 1 then
          if (gi N p8 0) = v_1 then
            if (gi N p8 4) = v_2 then
              f_X6_openOf_5 Y D9 p_0 v_1 v_2 (v_3 + 1) (v_4 + 1) N
            else
              f_X6_openOf_5 Y D9 p_0 v_1 v_2 v_3 (v_4 + 1) N
          else
            f_X6_openOf_5 Y D9 p_0 v_1 v_2 v_3 (v_4 + 1) N
        else
          f_X6_openOf_5 Y D9 p_0 v_1 v_2 v_3 (v_4 + 1) N
      else none
def f_X6_openOf (Y : XY) (a0 : Nat) (a1 : Int32) (a2 : Int32) (N : XN) : Option Int32 :=
  f_X6_openOf_5 Y FU a0 a1 a2 0 0 N
def f_X6_raisedInWindow_4 (Y : XY) : Nat → Nat → Int32 → Int32 → Int32 → XN → Option Int32
  | 0, _, _, _, _, _ => none
  | D9 + 1, p_0, v_1, v_2, v_3, N =>
    if (gi N p_0 5) ≤ v_3 then
      some v_2
    else
      if xb v_3 60 then
        lt (gp Y (gp Y p_0 4) v_3.toNatClampNeg) fun p8 =>
        if (gi N p8 0) = v_1 then
          if (gi N p8 3) = 0 then
            f_X6_raisedInWindow_4 Y D9 p_0 v_1 v_2 (v_3 + 1) N
          else
            if (gi N p8 1) ≤ ((gi N p_0 6) - (gi N p_0 9)) then
              f_X6_raisedInWindow_4 Y D9 p_0 v_1 v_2 (v_3 + 1) N
            else
              f_X6_raisedInWindow_4 Y D9 p_0 v_1 (v_2 + 1) (v_3 + 1) N
        else
          f_X6_raisedInWindow_4 Y D9 p_0 v_1 v_2 (v_3 + 1) N
      else none
def f_X6_raisedInWindow (Y : XY) (a0 : Nat) (a1 : Int32) (N : XN) : Option Int32 :=
  f_X6_raisedInWindow_4 Y FU a0 a1 0 0 N
def f_X6_assign_27 (Y : XY) : Nat → Nat → Nat → Nat → Int32 → Int32 → XN → Option XN
  | 0, _, _, _, _, _, _ => none
  | D9 + 1, p_0, p_1, p_2, v_3, v_4, N =>
    if (gi N p_2 4) ≤ v_4 then
      if (f_X6_hasHandler Y p_0 (gi N p_1 4) N) = 0 then
        if v_3 < 0 then
          lt (si N p_1 4 v_3) fun N4 =>
          lt (si N4 p_1 6 (gi N4 p_0 6)) fun N5 =>
          some N5
        else
          if xb v_3 6 then
            lt (si N (gp Y (gp Y p_0 0) v_3.toNatClampNeg) 3 ((gi N (gp Y (gp Y p_0 0) v_3.toNatClampNeg) 3) + 1)) fun N12 =>
            lt (si N12 p_1 4 v_3) fun N13 =>
            lt (si N13 p_1 6 (gi N13 p_0 6)) fun N14 =>
            some N14
          else none
      else
        if xb (gi N p_1 4) 6 then
          lt (si N (gp Y (gp Y p_0 0) (gi N p_1 4).toNatClampNeg) 3 ((gi N (gp Y (gp Y p_0 0) (gi N p_1 4).toNatClampNeg) 3) - 1)) fun N21 =>
          if v_3 < 0 then
            lt (si N21 p_1 4 v_3) fun N23 =>
            lt (si N23 p_1 6 (gi N23 p_0 6)) fun N24 =>
            some N24
          else
            if xb v_3 6 then
              lt (si N21 (gp Y (gp Y p_0 0) v_3.toNatClampNeg) 3 ((gi N21 (gp Y (gp Y p_0 0) v_3.toNatClampNeg) 3) + 1)) fun N28 =>
              lt (si N28 p_1 4 v_3) fun N29 =>
              lt (si N29 p_1 6 (gi N29 p_0 6)) fun N30 =>
              some N30
            else none
        else none
    else
      if xb v_4 3 then
        lt (gi N (gp Y p_2 3) v_4.toNatClampNeg) fun v35 =>
        if (f_X6_hasHandler Y p_0 v35 N) = 0 then
          f_X6_assign_27 Y D9 p_0 p_1 p_2 v_3 (v_4 + 1) N
        else
          if v_3 < 0 then
            f_X6_assign_27 Y D9 p_0 p_1 p_2 v35 (v_4 + 1) N
          else
            if xb v35 6 then
              if xb v_3 6 then
                if (gi N (gp Y (gp Y p_0 0) v_3.toNatClampNeg) 3) ≤ (gi N (gp Y (gp Y p_0 0) v35.toNatClampNeg) 3) then
                  f_X6_assign_27 Y D9 p_0 p_1 p_2 v_3 (v_4 + 1) N
                else
                  f_X6_assign_27 Y D9 p_0 p_1 p_2 v35 (v_4 + 1) N
              else none
            else none
      else none
def f_X6_assign (Y : XY) (a0 : Nat) (a1 : Nat) (N : XN) : Option XN :=
  if (f_X6_hasLine Y a0 (gi N a1 0) N) = 0 then
    some N
  else
    if xb (gi N a1 0) 8 then
      lt (gp Y (gp Y a0 2) (gi N a1 0).toNatClampNeg) fun p8 =>
      f_X6_assign_27 Y FU a0 a1 p8 (-1) 0 N
    else none
def f_X6_openOrRefuse (Y : XY) (a0 : Nat) (a1 : Nat) (N : XN) : Option XN :=
  if (f_X6_hasLine Y a0 (gi N a1 0) N) = 0 then
    some N
  else
    if xb (gi N a1 0) 8 then
      lt (gp Y (gp Y a0 2) (gi N a1 0).toNatClampNeg) fun p8 =>
      bd (f_X6_raisedInWindow Y a0 (gi N a1 0) N) fun r11 =>
      if (r11 + 1) ≤ (gi N p8 1) then
        lt (si N a1 3 1) fun N13 =>
        lt (si N13 a1 5 (gi N13 a1 2)) fun N14 =>
        bd (f_X6_assign Y a0 a1 N14) fun N16 =>
        some N16
      else
        lt (si N a1 3 3) fun N17 =>
        lt (si N17 a1 7 (gi N17 a0 6)) fun N18 =>
        bd2 (f_X2_payAtMost Y p8 (gi N18 a0 10) N18) fun r20 N21 =>
        lt (si N21 a0 7 ((gi N18 a0 7) + r20)) fun N22 =>
        some N22
    else none
def f_X6_assignThoseOf_5 (Y : XY) : Nat → Nat → Int32 → Int32 → Int32 → Int32 → XN → Option (Int32 × XN)
  | 0, _, _, _, _, _, _ => none
  | D9 + 1, p_0, v_1, v_2, v_3, v_4, N =>
    if (gi N p_0 5) ≤ v_4 then
      some (v_3, N)
    else
      if xb v_4 60 then
        lt (gp Y (gp Y p_0 4) v_4.toNatClampNeg) fun p8 =>
        if (gi N p8 3) = 1 then
          if (gi N p8 0) = v_1 then
            if (gi N p8 4) = v_2 then
              bd (f_X6_assign Y p_0 p8 N) fun N14 =>
              f_X6_assignThoseOf_5 Y D9 p_0 v_1 v_2 (v_3 + 1) (v_4 + 1) N14
            else
              f_X6_assignThoseOf_5 Y D9 p_0 v_1 v_2 v_3 (v_4 + 1) N
          else
            f_X6_assignThoseOf_5 Y D9 p_0 v_1 v_2 v_3 (v_4 + 1) N
        else
          f_X6_assignThoseOf_5 Y D9 p_0 v_1 v_2 v_3 (v_4 + 1) N
      else none
def f_X6_assignThoseOf (Y : XY) (a0 : Nat) (a1 : Int32) (a2 : Int32) (N : XN) : Option (Int32 × XN) :=
  f_X6_assignThoseOf_5 Y FU a0 a1 a2 0 0 N
def f_X6_mayLease (Y : XY) (a0 : Nat) (a1 : Int32) (a2 : Int32) (N : XN) : Option Int32 :=
  if xb a1 6 then
    if (gi N (gp Y (gp Y a0 0) a1.toNatClampNeg) 2) = 0 then
      if xb a2 8 then
        bd (f_X2_placeOf Y (gp Y (gp Y a0 2) a2.toNatClampNeg) a1 N) fun r15 =>
        if 0 ≤ r15 then
          some 0
        else
          if xb a2 8 then
            if 3 ≤ (gi N (gp Y (gp Y a0 2) a2.toNatClampNeg) 4) then
              some 0
            else
              some 1
          else none
      else none
    else
      some 0
  else none
def f_X6_letLease (Y : XY) (a0 : Nat) (a1 : Int32) (a2 : Int32) (N : XN) : Option (Int32 × XN) :=
  if xb a2 8 then
    bd (f_X2_addTenant Y (gp Y (gp Y a0 2) a2.toNatClampNeg) a1 N) fun N8 =>
    bd2 (f_X6_assignThoseOf Y a0 a2 (-1) N8) fun r10 N11 =>
    some (r10, N11)
  else none
def f_X6_letRelease (Y : XY) (a0 : Nat) (a1 : Int32) (a2 : Int32) (N : XN) : Option (Int32 × XN) :=
  if xb a2 8 then
    bd (f_X2_removeTenant Y (gp Y (gp Y a0 2) a2.toNatClampNeg) a1 N) fun N8 =>
    bd2 (f_X6_assignThoseOf Y a0 a2 a1 N8) fun r10 N11 =>
    some (r10, N11)
  else none
def f_X6_answer (Y : XY) (a0 : Nat) (a1 : Nat) (N : XN) : Option XN :=
  if (f_X6_hasHandler Y a0 (gi N a1 4) N) = 0 then
    some N
  else
    if (f_X6_hasLine Y a0 (gi N a1 0) N) = 0 then
      some N
    else
      if xb (gi N a1 4) 6 then
        lt (gp Y (gp Y a0 0) (gi N a1 4).toNatClampNeg) fun p9 =>
        lt (si N p9 3 ((gi N p9 3) - 1)) fun N11 =>
        lt (si N11 a1 4 (-1)) fun N12 =>
        lt (si N12 a1 3 2) fun N13 =>
        lt (si N13 a1 7 (gi N13 a0 6)) fun N14 =>
        if xb (gi N14 a1 0) 8 then
          bd2 (f_X2_payAtMost Y (gp Y (gp Y a0 2) (gi N14 a1 0).toNatClampNeg) ((gi N14 a0 12) * (gi N14 a1 2)) N14) fun r22 N23 =>
          lt (si N23 p9 0 ((gi N23 p9 0) + r22)) fun N24 =>
          lt (si N24 p9 6 ((gi N24 p9 6) + r22)) fun N25 =>
          some N25
        else none
      else none
def f_X6_doWork_12 (Y : XY) : Nat → Nat → Int32 → Int32 → Int32 → XN → Option XN
  | 0, _, _, _, _, _ => none
  | D9 + 1, p_0, v_1, v_2, v_3, N =>
    if (gi N p_0 5) ≤ v_3 then
      some N
    else
      if v_2 ≤ 0 then
        some N
      else
        if xb v_3 60 then
          lt (gp Y (gp Y p_0 4) v_3.toNatClampNeg) fun p9 =>
          if (gi N p9 3) = 1 then
            if (gi N p9 4) = v_1 then
              if v_2 ≤ (gi N p9 5) then
                lt (si N p9 5 ((gi N p9 5) - v_2)) fun N14 =>
                lt (si N14 p9 6 (gi N14 p_0 6)) fun N15 =>
                if (gi N15 p9 5) = 0 then
                  bd (f_X6_answer Y p_0 p9 N15) fun N18 =>
                  f_X6_doWork_12 Y D9 p_0 v_1 (v_2 - v_2) (v_3 + 1) N18
                else
                  f_X6_doWork_12 Y D9 p_0 v_1 (v_2 - v_2) (v_3 + 1) N15
              else
                lt (si N p9 5 ((gi N p9 5) - (gi N p9 5))) fun N19 =>
                lt (si N19 p9 6 (gi N19 p_0 6)) fun N20 =>
                if (gi N20 p9 5) = 0 then
                  bd (f_X6_answer Y p_0 p9 N20) fun N23 =>
                  f_X6_doWork_12 Y D9 p_0 v_1 (v_2 - (gi N p9 5)) (v_3 + 1) N23
                else
                  f_X6_doWork_12 Y D9 p_0 v_1 (v_2 - (gi N p9 5)) (v_3 + 1) N20
            else
              f_X6_doWork_12 Y D9 p_0 v_1 v_2 (v_3 + 1) N
          else
            f_X6_doWork_12 Y D9 p_0 v_1 v_2 (v_3 + 1) N
        else none
def f_X6_doWork (Y : XY) (a0 : Nat) (a1 : Int32) (N : XN) : Option XN :=
  if xb a1 6 then
    lt (gi N (gp Y (gp Y a0 0) a1.toNatClampNeg) 1) fun v7 =>
    f_X6_doWork_12 Y FU a0 a1 v7 0 N
  else none
def f_X6_goBankrupt_38 (Y : XY) : Nat → Nat → Int32 → Int32 → XN → Option XN
  | 0, _, _, _, _ => none
  | D9 + 1, p_0, v_1, v_2, N =>
    if (gi N p_0 5) ≤ v_2 then
      some N
    else
      if xb v_2 60 then
        if (gi N (gp Y (gp Y p_0 4) v_2.toNatClampNeg) 3) = 1 then
          if xb v_2 60 then
            if (gi N (gp Y (gp Y p_0 4) v_2.toNatClampNeg) 4) = v_1 then
              if xb v_2 60 then
                bd (f_X6_assign Y p_0 (gp Y (gp Y p_0 4) v_2.toNatClampNeg) N) fun N13 =>
                f_X6_goBankrupt_38 Y D9 p_0 v_1 (v_2 + 1) N13
              else none
            else
              f_X6_goBankrupt_38 Y D9 p_0 v_1 (v_2 + 1) N
          else none
        else
          f_X6_goBankrupt_38 Y D9 p_0 v_1 (v_2 + 1) N
      else none
def f_X6_goBankrupt_12 (Y : XY) : Nat → Nat → Int32 → Int32 → XN → Option XN
  | 0, _, _, _, _ => none
  | D9 + 1, p_0, v_1, v_2, N =>
    if (gi N p_0 3) ≤ v_2 then
      f_X6_goBankrupt_38 Y FU p_0 v_1 0 N
    else
      if xb v_2 8 then
        bd (f_X2_removeTenant Y (gp Y (gp Y p_0 2) v_2.toNatClampNeg) v_1 N) fun N9 =>
        f_X6_goBankrupt_12 Y D9 p_0 v_1 (v_2 + 1) N9
      else none
def f_X6_goBankrupt (Y : XY) (a0 : Nat) (a1 : Int32) (N : XN) : Option XN :=
  if xb a1 6 then
    lt (si N (gp Y (gp Y a0 0) a1.toNatClampNeg) 2 1) fun N7 =>
    f_X6_goBankrupt_12 Y FU a0 a1 0 N7
  else none
def f_X6_takeFrom (Y : XY) (a0 : Nat) (a1 : Int32) (a2 : Int32) (N : XN) : Option (Int32 × XN) :=
  if xb a1 6 then
    lt (gp Y (gp Y a0 0) a1.toNatClampNeg) fun p7 =>
    if (gi N p7 0) < a2 then
      lt (si N p7 0 0) fun N10 =>
      bd (f_X6_goBankrupt Y a0 a1 N10) fun N12 =>
      some (gi N p7 0, N12)
    else
      lt (si N p7 0 ((gi N p7 0) - a2)) fun N13 =>
      some (a2, N13)
  else none
def f_X6_chargeFine (Y : XY) (a0 : Nat) (a1 : Nat) (N : XN) : Option XN :=
  if (f_X6_hasHandler Y a0 (gi N a1 4) N) = 0 then
    some N
  else
    if (f_X6_hasLine Y a0 (gi N a1 0) N) = 0 then
      some N
    else
      if xb (gi N a1 4) 6 then
        lt (gp Y (gp Y a0 0) (gi N a1 4).toNatClampNeg) fun p9 =>
        bd2 (f_X0_value Y (gp Y a0 13) (gi N a1 0) (gi N a1 5) (gi N p9 3) ((gi N a0 6) - (gi N a1 6)) N) fun r14 N15 =>
        bd2 (f_X6_takeFrom Y a0 (gi N15 a1 4) r14 N15) fun r17 N18 =>
        lt (si N18 p9 4 ((gi N18 p9 4) + r17)) fun N19 =>
        if xb (gi N19 a1 0) 8 then
          lt (si N19 (gp Y (gp Y a0 2) (gi N19 a1 0).toNatClampNeg) 2 ((gi N19 (gp Y (gp Y a0 2) (gi N19 a1 0).toNatClampNeg) 2) + r17)) fun N26 =>
          lt (si N26 a1 6 (gi N26 a0 6)) fun N27 =>
          some N27
        else none
      else none
def f_X6_chargeRent_57 (Y : XY) : Nat → Nat → Nat → Int32 → Int32 → Int32 → Int32 → XN → Option XN
  | 0, _, _, _, _, _, _, _ => none
  | D9 + 1, p_0, p_1, v_2, v_3, v_4, v_5, N =>
    if v_2 ≤ v_5 then
      some N
    else
      if xb v_5 3 then
        lt (gi N (gp Y p_0 14) v_5.toNatClampNeg) fun v6 =>
        if (f_X6_hasHandler Y p_0 v6 N) = 0 then
          f_X6_chargeRent_57 Y D9 p_0 p_1 v_2 v_3 v_4 (v_5 + 1) N
        else
          bd (f_X2_placeOf Y p_1 v6 N) fun r9 =>
          if r9 < 0 then
            f_X6_chargeRent_57 Y D9 p_0 p_1 v_2 v_3 v_4 (v_5 + 1) N
          else
            if v_4 ≤ v_5 then
              bd2 (f_X6_takeFrom Y p_0 v6 v_3 N) fun r13 N14 =>
              if xb v6 6 then
                lt (si N14 (gp Y (gp Y p_0 0) v6.toNatClampNeg) 5 ((gi N14 (gp Y (gp Y p_0 0) v6.toNatClampNeg) 5) + r13)) fun N21 =>
                lt (si N21 p_0 7 ((gi N21 p_0 7) + r13)) fun N22 =>
                f_X6_chargeRent_57 Y D9 p_0 p_1 v_2 v_3 v_4 (v_5 + 1) N22
              else none
            else
              bd2 (f_X6_takeFrom Y p_0 v6 (v_3 + 1) N) fun r24 N25 =>
              if xb v6 6 then
                lt (si N25 (gp Y (gp Y p_0 0) v6.toNatClampNeg) 5 ((gi N25 (gp Y (gp Y p_0 0) v6.toNatClampNeg) 5) + r24)) fun N32 =>
                lt (si N32 p_0 7 ((gi N32 p_0 7) + r24)) fun N33 =>
                f_X6_chargeRent_57 Y D9 p_0 p_1 v_2 v_3 v_4 (v_5 + 1) N33
              else none
      else none
def f_X6_chargeRent_28 (Y : XY) : Nat → Nat → Nat → Int32 → Int32 → Int32 → Int32 → XN → Option XN
  | 0, _, _, _, _, _, _, _ => none
  | D9 + 1, p_0, p_1, v_2, v_3, v_4, v_5, N =>
    if v_2 ≤ v_5 then
      f_X6_chargeRent_57 Y FU p_0 p_1 v_2 v_3 v_4 0 N
    else
      if xb v_5 3 then
        if xb v_5 3 then
          lt (si N (gp Y p_0 14) v_5.toNatClampNeg (gi N (gp Y p_1 3) v_5.toNatClampNeg)) fun N10 =>
          f_X6_chargeRent_28 Y D9 p_0 p_1 v_2 v_3 v_4 (v_5 + 1) N10
        else none
      else none
def f_X6_chargeRent (Y : XY) (a0 : Nat) (a1 : Nat) (N : XN) : Option XN :=
  if (gi N a1 4) = 0 then
    some N
  else
    if (gi N a1 4) = 0 then none else
    lt ((gi N a1 0) / (gi N a1 4)) fun v3 =>
    if (gi N a1 4) = 0 then none else
    lt ((gi N a1 0) - (gi N a1 0) / (gi N a1 4) * (gi N a1 4)) fun v5 =>
    f_X6_chargeRent_28 Y FU a0 a1 (gi N a1 4) v3 v5 0 N
def f_X6_passTick_181 (Y : XY) : Nat → Nat → Int32 → XN → Option XN
  | 0, _, _, _ => none
  | D9 + 1, p_0, v_1, N =>
    if (gi N p_0 3) ≤ v_1 then
      lt (si N p_0 6 ((gi N p_0 6) + 1)) fun N2 =>
      some N2
    else
      if xb v_1 8 then
        bd (f_X6_chargeRent Y p_0 (gp Y (gp Y p_0 2) v_1.toNatClampNeg) N) fun N10 =>
        f_X6_passTick_181 Y D9 p_0 (v_1 + 1) N10
      else none
def f_X6_passTick_101 (Y : XY) : Nat → Nat → Int32 → XN → Option XN
  | 0, _, _, _ => none
  | D9 + 1, p_0, v_1, N =>
    if (gi N p_0 5) ≤ v_1 then
      if (gi N p_0 11) ≤ 0 then
        lt (si N p_0 6 ((gi N p_0 6) + 1)) fun N3 =>
        some N3
      else
        if (gi N p_0 11) = 0 then none else
        if (((gi N p_0 6) + 1) - ((gi N p_0 6) + 1) / (gi N p_0 11) * (gi N p_0 11)) = 0 then
          f_X6_passTick_181 Y FU p_0 0 N
        else
          lt (si N p_0 6 ((gi N p_0 6) + 1)) fun N6 =>
          some N6
    else
      if xb v_1 60 then
        lt (gp Y (gp Y p_0 4) v_1.toNatClampNeg) fun p13 =>
        if (gi N p13 3) = 1 then
          if (gi N p13 4) < 0 then
            f_X6_passTick_101 Y D9 p_0 (v_1 + 1) N
          else
            if ((gi N p_0 6) - (gi N p13 6)) < (gi N p_0 8) then
              f_X6_passTick_101 Y D9 p_0 (v_1 + 1) N
            else
              bd (f_X6_chargeFine Y p_0 p13 N) fun N19 =>
              f_X6_passTick_101 Y D9 p_0 (v_1 + 1) N19
        else
          f_X6_passTick_101 Y D9 p_0 (v_1 + 1) N
      else none
def f_X6_passTick_56 (Y : XY) : Nat → Nat → Int32 → XN → Option XN
  | 0, _, _, _ => none
  | D9 + 1, p_0, v_1, N =>
    if (gi N p_0 1) ≤ v_1 then
      f_X6_passTick_101 Y FU p_0 0 N
    else
      if xb v_1 6 then
        if (gi N (gp Y (gp Y p_0 0) v_1.toNatClampNeg) 2) = 0 then
          if xb v_1 6 then
            if (gi N (gp Y (gp Y p_0 0) v_1.toNatClampNeg) 3) ≤ 0 then
              f_X6_passTick_56 Y D9 p_0 (v_1 + 1) N
            else
              bd (f_X6_doWork Y p_0 v_1 N) fun N12 =>
              f_X6_passTick_56 Y D9 p_0 (v_1 + 1) N12
          else none
        else
          f_X6_passTick_56 Y D9 p_0 (v_1 + 1) N
      else none
def f_X6_passTick_2 (Y : XY) : Nat → Nat → Int32 → XN → Option XN
  | 0, _, _, _ => none
  | D9 + 1, p_0, v_1, N =>
    if (gi N p_0 5) ≤ v_1 then
      f_X6_passTick_56 Y FU p_0 0 N
    else
      if xb v_1 60 then
        if (gi N (gp Y (gp Y p_0 4) v_1.toNatClampNeg) 3) = 0 then
          if xb v_1 60 then
            if (gi N (gp Y (gp Y p_0 4) v_1.toNatClampNeg) 1) = (gi N p_0 6) then
              if xb v_1 60 then
                bd (f_X6_openOrRefuse Y p_0 (gp Y (gp Y p_0 4) v_1.toNatClampNeg) N) fun N13 =>
                f_X6_passTick_2 Y D9 p_0 (v_1 + 1) N13
              else none
            else
              f_X6_passTick_2 Y D9 p_0 (v_1 + 1) N
          else none
        else
          f_X6_passTick_2 Y D9 p_0 (v_1 + 1) N
      else none
def f_X6_passTick (Y : XY) (a0 : Nat) (N : XN) : Option XN :=
  f_X6_passTick_2 Y FU a0 0 N
def f_X6_finesWithin_7 (Y : XY) : Nat → Nat → Int32 → Int32 → Int32 → XN → Option (Int32 × XN)
  | 0, _, _, _, _, _ => none
  | D9 + 1, p_0, v_1, v_2, v_3, N =>
    if v_1 ≤ v_3 then
      bd (f_X6_allFines Y p_0 N) fun r3 =>
      some (r3 - v_2, N)
    else
      bd (f_X6_passTick Y p_0 N) fun N5 =>
      f_X6_finesWithin_7 Y D9 p_0 v_1 v_2 (v_3 + 1) N5
def f_X6_finesWithin (Y : XY) (a0 : Nat) (a1 : Int32) (N : XN) : Option (Int32 × XN) :=
  bd (f_X6_allFines Y a0 N) fun r2 =>
  f_X6_finesWithin_7 Y FU a0 a1 r2 0 N
