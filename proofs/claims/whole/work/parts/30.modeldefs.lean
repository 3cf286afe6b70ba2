def f_X8_layUsual_2 (Y : XY) : Nat → Nat → Int32 → XN → Option XN
  | 0, _, _, _ => none
  | D9 + 1, p_0, v_1, N =>
    if 1784 ≤ v_1 then
      if xb 5 (kn Y p_0) then
        lt (si N p_0 ((5 : Int32).toNatClampNeg) 5) fun N3 =>
        if xb 6 (kn Y p_0) then
          lt (si N3 p_0 ((6 : Int32).toNatClampNeg) 10) fun N5 =>
          if xb 7 (kn Y p_0) then
            lt (si N5 p_0 ((7 : Int32).toNatClampNeg) 10) fun N7 =>
            if xb 8 (kn Y p_0) then
              lt (si N7 p_0 ((8 : Int32).toNatClampNeg) 10) fun N9 =>
              if xb 9 (kn Y p_0) then
                lt (si N9 p_0 ((9 : Int32).toNatClampNeg) 1) fun N11 =>
                some N11
              else none
            else none
          else none
        else none
      else none
    else
      if xb v_1 (kn Y p_0) then
        lt (si N p_0 v_1.toNatClampNeg 0) fun N13 =>
        f_X8_layUsual_2 Y D9 p_0 (v_1 + 1) N13
      else none
def f_X8_layUsual (Y : XY) (a0 : Nat) (N : XN) : Option XN :=
  f_X8_layUsual_2 Y FU a0 0 N
def f_X8_thrown (Y : XY) (a0 : Nat) (N : XN) : Int32 :=
  gi N a0 0
def f_X8_fails (Y : XY) (a0 : Nat) (a1 : Int32) (a2 : Int32) (N : XN) : Option (Int32 × XN) :=
  if a1 = 0 then
    if (gi N a0 0) = 0 then
      some (0, N)
    else
      some (1, N)
  else
    if (gi N a0 0) = 0 then
      lt (si N a0 0 a2) fun N4 =>
      if (gi N4 a0 0) = 0 then
        some (0, N4)
      else
        some (1, N4)
    else
      if (gi N a0 0) = 0 then
        some (0, N)
      else
        some (1, N)
def f_X8_in (Y : XY) (a0 : Int32) (a1 : Int32) (a2 : Int32) (N : XN) : Int32 :=
  if a0 < a1 then
    0
  else
    if a2 < a0 then
      0
    else
      1
def f_X8_min (Y : XY) (a0 : Int32) (a1 : Int32) (N : XN) : Int32 :=
  if a1 ≤ a0 then
    a1
  else
    a0
def f_X8_copy_2 (Y : XY) : Nat → Nat → Nat → Int32 → Int32 → XN → Option XN
  | 0, _, _, _, _, _ => none
  | D9 + 1, p_0, p_1, v_2, v_3, N =>
    if v_2 ≤ v_3 then
      some N
    else
      if xb v_3 (kn Y p_0) then
        if xb v_3 (kn Y p_1) then
          lt (si N p_1 v_3.toNatClampNeg (gi N p_0 v_3.toNatClampNeg)) fun N4 =>
          f_X8_copy_2 Y D9 p_0 p_1 v_2 (v_3 + 1) N4
        else none
      else none
def f_X8_copy (Y : XY) (a0 : Nat) (a1 : Nat) (a2 : Int32) (N : XN) : Option XN :=
  f_X8_copy_2 Y FU a0 a1 a2 0 N
def f_X8_append_23 (Y : XY) : Nat → Nat → Int32 → Int32 → Int32 → Int32 → Int32 → Int32 → XN → Option (Int32 × XN)
  | 0, _, _, _, _, _, _, _, _ => none
  | D9 + 1, p_0, v_1, v_2, v_3, v_4, v_5, v_6, N =>
    if 20 ≤ v_6 then
      some (gi N p_0 2, N)
    else
      if 4 ≤ v_6 then
        if 8 ≤ v_6 then
          if 12 ≤ v_6 then
            if 16 ≤ v_6 then
              if xb (gi N p_0 2) 700 then
                lt (si N (gp Y p_0 1) ((gi N p_0 2).toNatClampNeg) ((v_5 >>> ((24 - (8 * (v_6 - v_6 / 4 * 4))) &&& 31)) &&& 255)) fun N11 =>
                lt (si N11 p_0 2 ((gi N11 p_0 2) + 1)) fun N12 =>
                f_X8_append_23 Y D9 p_0 v_1 v_2 v_3 v_4 v_5 (v_6 + 1) N12
              else none
            else
              if xb (gi N p_0 2) 700 then
                lt (si N (gp Y p_0 1) ((gi N p_0 2).toNatClampNeg) ((v_4 >>> ((24 - (8 * (v_6 - v_6 / 4 * 4))) &&& 31)) &&& 255)) fun N18 =>
                lt (si N18 p_0 2 ((gi N18 p_0 2) + 1)) fun N19 =>
                f_X8_append_23 Y D9 p_0 v_1 v_2 v_3 v_4 v_5 (v_6 + 1) N19
              else none
          else
            if xb (gi N p_0 2) 700 then
              lt (si N (gp Y p_0 1) ((gi N p_0 2).toNatClampNeg) ((v_3 >>> ((24 - (8 * (v_6 - v_6 / 4 * 4))) &&& 31)) &&& 255)) fun N25 =>
              lt (si N25 p_0 2 ((gi N25 p_0 2) + 1)) fun N26 =>
              f_X8_append_23 Y D9 p_0 v_1 v_2 v_3 v_4 v_5 (v_6 + 1) N26
            else none
        else
          if xb (gi N p_0 2) 700 then
            lt (si N (gp Y p_0 1) ((gi N p_0 2).toNatClampNeg) ((v_2 >>> ((24 - (8 * (v_6 - v_6 / 4 * 4))) &&& 31)) &&& 255)) fun N32 =>
            lt (si N32 p_0 2 ((gi N32 p_0 2) + 1)) fun N33 =>
            f_X8_append_23 Y D9 p_0 v_1 v_2 v_3 v_4 v_5 (v_6 + 1) N33
          else none
      else
        if xb (gi N p_0 2) 700 then
          lt (si N (gp Y p_0 1) ((gi N p_0 2).toNatClampNeg) ((v_1 >>> ((24 - (8 * (v_6 - v_6 / 4 * 4))) &&& 31)) &&& 255)) fun N39 =>
          lt (si N39 p_0 2 ((gi N39 p_0 2) + 1)) fun N40 =>
          f_X8_append_23 Y D9 p_0 v_1 v_2 v_3 v_4 v_5 (v_6 + 1) N40
        else none
def f_X8_append (Y : XY) (a0 : Nat) (a1 : Int32) (a2 : Int32) (a3 : Int32) (a4 : Int32) (a5 : Int32) (N : XN) : Option (Int32 × XN) :=
  lt (si N a0 0 0) fun N1 =>
  if ((gi N1 a0 2) + 20) ≤ 700 then
    f_X8_append_23 Y FU a0 a1 a2 a3 a4 a5 0 N1
  else
    some ((-1), N1)
def f_X8_tenantPlace_11 (Y : XY) : Nat → Nat → Int32 → Int32 → Int32 → XN → Option Int32
  | 0, _, _, _, _, _ => none
  | D9 + 1, p_0, v_2, v_3, v_4, N =>
    if xb (v_3 + 3) (kn Y p_0) then
      if (gi N p_0 (v_3 + 3).toNatClampNeg) ≤ v_4 then
        some (-1)
      else
        if xb ((v_3 + 4) + v_4) (kn Y p_0) then
          if (gi N p_0 ((v_3 + 4) + v_4).toNatClampNeg) = v_2 then
            some v_4
          else
            f_X8_tenantPlace_11 Y D9 p_0 v_2 v_3 (v_4 + 1) N
        else none
    else none
def f_X8_tenantPlace (Y : XY) (a0 : Nat) (a1 : Int32) (a2 : Int32) (N : XN) : Option Int32 :=
  f_X8_tenantPlace_11 Y FU a0 a2 (48 + (7 * a1)) 0 N
def f_X8_putRequest (Y : XY) (a0 : Nat) (a1 : Int32) (a2 : Int32) (a3 : Int32) (N : XN) : Option XN :=
  if xb 3 (kn Y a0) then
    lt (104 + (8 * (gi N a0 (3 : Int32).toNatClampNeg))) fun v2 =>
    if xb (v2 + 0) (kn Y a0) then
      lt (si N a0 ((v2 + 0).toNatClampNeg) a1) fun N4 =>
      if xb (v2 + 1) (kn Y a0) then
        lt (si N4 a0 ((v2 + 1).toNatClampNeg) a2) fun N6 =>
        if xb (v2 + 2) (kn Y a0) then
          lt (si N6 a0 ((v2 + 2).toNatClampNeg) a3) fun N8 =>
          if xb (v2 + 3) (kn Y a0) then
            lt (si N8 a0 ((v2 + 3).toNatClampNeg) 0) fun N10 =>
            if xb (v2 + 4) (kn Y a0) then
              lt (si N10 a0 ((v2 + 4).toNatClampNeg) (-1)) fun N12 =>
              if xb (v2 + 5) (kn Y a0) then
                lt (si N12 a0 ((v2 + 5).toNatClampNeg) 0) fun N14 =>
                if xb (v2 + 6) (kn Y a0) then
                  lt (si N14 a0 ((v2 + 6).toNatClampNeg) (-1)) fun N16 =>
                  if xb (v2 + 7) (kn Y a0) then
                    lt (si N16 a0 ((v2 + 7).toNatClampNeg) 0) fun N18 =>
                    if xb 3 (kn Y a0) then
                      if xb 3 (kn Y a0) then
                        lt (si N18 a0 ((3 : Int32).toNatClampNeg) ((gi N18 a0 (3 : Int32).toNatClampNeg) + 1)) fun N21 =>
                        some N21
                      else none
                    else none
                  else none
                else none
              else none
            else none
          else none
        else none
      else none
    else none
  else none
def f_X8_errorOffset (Y : XY) (a0 : Nat) (N : XN) : Option (Int32 × XN) :=
  lt (si N a0 0 0) fun N1 =>
  some (gi N1 a0 7, N1)
def f_X8_handlerAt (Y : XY) (a0 : Int32) (N : XN) : Int32 :=
  12 + (6 * a0)
def f_X8_lineAt (Y : XY) (a0 : Int32) (N : XN) : Int32 :=
  48 + (7 * a0)
def f_X8_requestAt (Y : XY) (a0 : Int32) (N : XN) : Int32 :=
  104 + (8 * a0)
def f_X8_ofHandler (Y : XY) (a0 : Nat) (a1 : Int32) (a2 : Int32) (N : XN) : Option Int32 :=
  if xb ((f_X8_handlerAt Y a1 N) + a2) 1784 then
    some (gi N (gp Y a0 8) ((f_X8_handlerAt Y a1 N) + a2).toNatClampNeg)
  else none
def f_X8_ofLine (Y : XY) (a0 : Nat) (a1 : Int32) (a2 : Int32) (N : XN) : Option Int32 :=
  if xb ((f_X8_lineAt Y a1 N) + a2) 1784 then
    some (gi N (gp Y a0 8) ((f_X8_lineAt Y a1 N) + a2).toNatClampNeg)
  else none
def f_X8_ofRequest (Y : XY) (a0 : Nat) (a1 : Int32) (a2 : Int32) (N : XN) : Option Int32 :=
  if xb ((f_X8_requestAt Y a1 N) + a2) 1784 then
    some (gi N (gp Y a0 8) ((f_X8_requestAt Y a1 N) + a2).toNatClampNeg)
  else none
def f_X8_isOpen (Y : XY) (a0 : Nat) (a1 : Int32) (N : XN) : Option Int32 :=
  bd (f_X8_ofRequest Y a0 a1 3 N) fun r2 =>
  if r2 = 1 then
    some 1
  else
    some 0
def f_X8_holds (Y : XY) (a0 : Nat) (a1 : Int32) (a2 : Int32) (N : XN) : Option Int32 :=
  bd (f_X8_isOpen Y a0 a2 N) fun r2 =>
  if r2 = 0 then
    some 0
  else
    bd (f_X8_ofRequest Y a0 a2 4 N) fun r5 =>
    if r5 = a1 then
      some 1
    else
      some 0
def f_X8_heldBy_4 (Y : XY) : Nat → Nat → Int32 → Int32 → Int32 → XN → Option Int32
  | 0, _, _, _, _, _ => none
  | D9 + 1, p_0, v_1, v_2, v_3, N =>
    if (gi N (gp Y p_0 8) 3) ≤ v_3 then
      some v_2
    else
      bd (f_X8_holds Y p_0 v_1 v_3 N) fun r6 =>
      if r6 = 0 then
        f_X8_heldBy_4 Y D9 p_0 v_1 (v_2 + 0) (v_3 + 1) N
      else
        f_X8_heldBy_4 Y D9 p_0 v_1 (v_2 + 1) (v_3 + 1) N
def f_X8_heldBy (Y : XY) (a0 : Nat) (a1 : Int32) (N : XN) : Option Int32 :=
  f_X8_heldBy_4 Y FU a0 a1 0 0 N
def f_X8_isTenant (Y : XY) (a0 : Nat) (a1 : Int32) (a2 : Int32) (N : XN) : Option Int32 :=
  bd (f_X8_tenantPlace Y (gp Y a0 8) a2 a1 N) fun r5 =>
  if r5 = (-1) then
    some 0
  else
    some 1
def f_X8_leave_38 (Y : XY) : Nat → Nat → Int32 → Int32 → XN → Option XN
  | 0, _, _, _, _ => none
  | D9 + 1, p_0, v_4, v_5, N =>
    if xb (v_4 + 3) 1784 then
      if (gi N (gp Y p_0 8) (v_4 + 3).toNatClampNeg) ≤ v_5 then
        some N
      else
        if xb (((v_4 + 4) + v_5) + 1) 1784 then
          if xb ((v_4 + 4) + v_5) 1784 then
            lt (si N (gp Y p_0 8) (((v_4 + 4) + v_5).toNatClampNeg) (gi N (gp Y p_0 8) (((v_4 + 4) + v_5) + 1).toNatClampNeg)) fun N8 =>
            f_X8_leave_38 Y D9 p_0 v_4 (v_5 + 1) N8
          else none
        else none
    else none
def f_X8_leave (Y : XY) (a0 : Nat) (a1 : Int32) (a2 : Int32) (N : XN) : Option XN :=
  bd (f_X8_tenantPlace Y (gp Y a0 8) a2 a1 N) fun r5 =>
  if r5 = (-1) then
    some N
  else
    if xb ((f_X8_lineAt Y a2 N) + 3) 1784 then
      if xb ((f_X8_lineAt Y a2 N) + 3) 1784 then
        lt (si N (gp Y a0 8) (((f_X8_lineAt Y a2 N) + 3).toNatClampNeg) ((gi N (gp Y a0 8) ((f_X8_lineAt Y a2 N) + 3).toNatClampNeg) - 1)) fun N9 =>
        f_X8_leave_38 Y FU a0 (f_X8_lineAt Y a2 N) r5 N9
      else none
    else none
def f_X8_assign_35 (Y : XY) : Nat → Nat → Int32 → Int32 → Int32 → Int32 → Int32 → XN → Option XN
  | 0, _, _, _, _, _, _, _ => none
  | D9 + 1, p_0, v_2, v_3, v_4, v_5, v_6, N =>
    if xb (v_3 + 3) 1784 then
      if (gi N (gp Y p_0 8) (v_3 + 3).toNatClampNeg) ≤ v_6 then
        if xb (v_2 + 4) 1784 then
          lt (si N (gp Y p_0 8) ((v_2 + 4).toNatClampNeg) v_4) fun N7 =>
          if xb (v_2 + 7) 1784 then
            lt (si N7 (gp Y p_0 8) ((v_2 + 7).toNatClampNeg) (gi N7 (gp Y p_0 8) 0)) fun N9 =>
            some N9
          else none
        else none
      else
        if xb ((v_3 + 4) + v_6) 1784 then
          lt (gi N (gp Y p_0 8) ((v_3 + 4) + v_6).toNatClampNeg) fun v11 =>
          bd (f_X8_heldBy Y p_0 v11 N) fun r13 =>
          if v_4 = (-1) then
            f_X8_assign_35 Y D9 p_0 v_2 v_3 v11 r13 (v_6 + 1) N
          else
            if r13 < v_5 then
              f_X8_assign_35 Y D9 p_0 v_2 v_3 v11 r13 (v_6 + 1) N
            else
              f_X8_assign_35 Y D9 p_0 v_2 v_3 v_4 v_5 (v_6 + 1) N
        else none
    else none
def f_X8_assign (Y : XY) (a0 : Nat) (a1 : Int32) (N : XN) : Option XN :=
  if xb ((f_X8_requestAt Y a1 N) + 0) 1784 then
    lt (f_X8_lineAt Y (gi N (gp Y a0 8) ((f_X8_requestAt Y a1 N) + 0).toNatClampNeg) N) fun v5 =>
    if xb ((f_X8_requestAt Y a1 N) + 4) 1784 then
      lt (si N (gp Y a0 8) (((f_X8_requestAt Y a1 N) + 4).toNatClampNeg) (-1)) fun N7 =>
      f_X8_assign_35 Y FU a0 (f_X8_requestAt Y a1 N) v5 (-1) 0 0 N7
    else none
  else none
def f_X8_raisedOn_4 (Y : XY) : Nat → Nat → Int32 → Int32 → Int32 → XN → Option Int32
  | 0, _, _, _, _, _ => none
  | D9 + 1, p_0, v_1, v_2, v_3, N =>
    if (gi N (gp Y p_0 8) 3) ≤ v_3 then
      some v_2
    else
      bd (f_X8_ofRequest Y p_0 v_3 0 N) fun r6 =>
      if r6 = v_1 then
        bd (f_X8_ofRequest Y p_0 v_3 3 N) fun r9 =>
        if r9 = 0 then
          f_X8_raisedOn_4 Y D9 p_0 v_1 (v_2 + 0) (v_3 + 1) N
        else
          bd (f_X8_ofRequest Y p_0 v_3 1 N) fun r12 =>
          if r12 ≤ ((gi N (gp Y p_0 8) 0) - (gi N (gp Y p_0 8) 6)) then
            f_X8_raisedOn_4 Y D9 p_0 v_1 (v_2 + 0) (v_3 + 1) N
          else
            f_X8_raisedOn_4 Y D9 p_0 v_1 (v_2 + 1) (v_3 + 1) N
      else
        f_X8_raisedOn_4 Y D9 p_0 v_1 (v_2 + 0) (v_3 + 1) N
def f_X8_raisedOn (Y : XY) (a0 : Nat) (a1 : Int32) (N : XN) : Option Int32 :=
  f_X8_raisedOn_4 Y FU a0 a1 0 0 N
def f_X8_raiseNow (Y : XY) (a0 : Nat) (a1 : Int32) (N : XN) : Option XN :=
  if xb ((f_X8_requestAt Y a1 N) + 0) 1784 then
    lt (gi N (gp Y a0 8) ((f_X8_requestAt Y a1 N) + 0).toNatClampNeg) fun v5 =>
    lt ((f_X8_lineAt Y v5 N) + 2) fun v6 =>
    bd (f_X8_raisedOn Y a0 v5 N) fun r8 =>
    bd (f_X8_ofLine Y a0 v5 1 N) fun r10 =>
    if (r8 + 1) ≤ r10 then
      if xb ((f_X8_requestAt Y a1 N) + 3) 1784 then
        lt (si N (gp Y a0 8) (((f_X8_requestAt Y a1 N) + 3).toNatClampNeg) 1) fun N13 =>
        if xb ((f_X8_requestAt Y a1 N) + 2) 1784 then
          if xb ((f_X8_requestAt Y a1 N) + 5) 1784 then
            lt (si N13 (gp Y a0 8) (((f_X8_requestAt Y a1 N) + 5).toNatClampNeg) (gi N13 (gp Y a0 8) ((f_X8_requestAt Y a1 N) + 2).toNatClampNeg)) fun N16 =>
            bd (f_X8_assign Y a0 a1 N16) fun N18 =>
            some N18
          else none
        else none
      else none
    else
      if xb v6 1784 then
        lt (f_X8_min Y (gi N (gp Y a0 8) 7) (gi N (gp Y a0 8) v6.toNatClampNeg) N) fun v20 =>
        if xb v6 1784 then
          if xb v6 1784 then
            lt (si N (gp Y a0 8) v6.toNatClampNeg ((gi N (gp Y a0 8) v6.toNatClampNeg) - v20)) fun N23 =>
            lt (si N23 (gp Y a0 8) 4 ((gi N23 (gp Y a0 8) 4) + v20)) fun N24 =>
            if xb ((f_X8_requestAt Y a1 N) + 3) 1784 then
              lt (si N24 (gp Y a0 8) (((f_X8_requestAt Y a1 N) + 3).toNatClampNeg) 3) fun N26 =>
              if xb ((f_X8_requestAt Y a1 N) + 6) 1784 then
                lt (si N26 (gp Y a0 8) (((f_X8_requestAt Y a1 N) + 6).toNatClampNeg) (gi N26 (gp Y a0 8) 0)) fun N28 =>
                some N28
              else none
            else none
          else none
        else none
      else none
  else none
def f_X8_mustPay_108 (Y : XY) : Nat → Nat → Int32 → Int32 → XN → Option XN
  | 0, _, _, _, _ => none
  | D9 + 1, p_0, v_1, v_7, N =>
    if (gi N (gp Y p_0 8) 3) ≤ v_7 then
      some N
    else
      bd (f_X8_holds Y p_0 v_1 v_7 N) fun r6 =>
      if r6 = 0 then
        f_X8_mustPay_108 Y D9 p_0 v_1 (v_7 + 1) N
      else
        bd (f_X8_assign Y p_0 v_7 N) fun N9 =>
        f_X8_mustPay_108 Y D9 p_0 v_1 (v_7 + 1) N9
def f_X8_mustPay_81 (Y : XY) : Nat → Nat → Int32 → Int32 → XN → Option XN
  | 0, _, _, _, _ => none
  | D9 + 1, p_0, v_1, v_7, N =>
    if (gi N (gp Y p_0 8) 2) ≤ v_7 then
      f_X8_mustPay_108 Y FU p_0 v_1 0 N
    else
      bd (f_X8_leave Y p_0 v_1 v_7 N) fun N6 =>
      f_X8_mustPay_81 Y D9 p_0 v_1 (v_7 + 1) N6
def f_X8_mustPay (Y : XY) (a0 : Nat) (a1 : Int32) (a2 : Int32) (a3 : Int32) (a4 : Int32) (N : XN) : Option XN :=
  if xb ((f_X8_handlerAt Y a1 N) + 0) 1784 then
    lt (f_X8_min Y a2 (gi N (gp Y a0 8) ((f_X8_handlerAt Y a1 N) + 0).toNatClampNeg) N) fun v5 =>
    if xb ((f_X8_handlerAt Y a1 N) + 0) 1784 then
      if xb ((f_X8_handlerAt Y a1 N) + 0) 1784 then
        lt (si N (gp Y a0 8) (((f_X8_handlerAt Y a1 N) + 0).toNatClampNeg) ((gi N (gp Y a0 8) ((f_X8_handlerAt Y a1 N) + 0).toNatClampNeg) - v5)) fun N8 =>
        if xb ((f_X8_handlerAt Y a1 N) + a3) 1784 then
          if xb ((f_X8_handlerAt Y a1 N) + a3) 1784 then
            lt (si N8 (gp Y a0 8) (((f_X8_handlerAt Y a1 N) + a3).toNatClampNeg) ((gi N8 (gp Y a0 8) ((f_X8_handlerAt Y a1 N) + a3).toNatClampNeg) + v5)) fun N11 =>
            if xb a4 1784 then
              if xb a4 1784 then
                lt (si N11 (gp Y a0 8) a4.toNatClampNeg ((gi N11 (gp Y a0 8) a4.toNatClampNeg) + v5)) fun N14 =>
                if v5 = a2 then
                  some N14
                else
                  if xb ((f_X8_handlerAt Y a1 N) + 2) 1784 then
                    lt (si N14 (gp Y a0 8) (((f_X8_handlerAt Y a1 N) + 2).toNatClampNeg) 1) fun N17 =>
                    f_X8_mustPay_81 Y FU a0 a1 0 N17
                  else none
              else none
            else none
          else none
        else none
      else none
    else none
  else none
def f_X8_limited (Y : XY) (a0 : Int64) (N : XN) : Int64 :=
  if (lg_cmp a0 1000000) ≤ 0 then
    if 0 ≤ (lg_cmp a0 (-1000000)) then
      a0
    else
      (-1000000)
  else
    1000000
def f_X8_operate (Y : XY) (a0 : Int32) (a1 : Int64) (a2 : Int64) (N : XN) : Option Int64 :=
  if a0 = 5 then
    if (lg_cmp a2 0) = 0 then
      some 0
    else
      if a2 = 0 then none else
      some (a1 / a2)
  else
    if a0 = 2 then
      some (f_X8_limited Y (a1 + a2) N)
    else
      if a0 = 3 then
        some (f_X8_limited Y (a1 - a2) N)
      else
        some (f_X8_limited Y (a1 * a2) N)
def f_X8_fineOf_33 (Y : XY) : Nat → Nat → Int32 → Int32 → Int32 → Int32 → XN → Option (Int32 × XN)
  | 0, _, _, _, _, _, _ => none
  | D9 + 1, p_0, v_1, v_2, v_3, v_4, N =>
    if (gi N (gp Y p_0 8) 11) ≤ v_4 then
      if 0 ≤ (lg_cmp (gl N (gp Y p_0 17) 0) 0) then
        if (lg_cmp (gl N (gp Y p_0 17) 0) 9999) ≤ 0 then
          some (Int64.toInt32 (gl N (gp Y p_0 17) 0), N)
        else
          some (9999, N)
      else
        some (0, N)
    else
      if xb (584 + v_4) 1784 then
        lt (gi N (gp Y p_0 8) (584 + v_4).toNatClampNeg) fun v11 =>
        if 1 < v11 then
          if xb ((v_2 + (-1)) - 1) 1200 then
            if xb (v_2 + (-1)) 1200 then
              bd (f_X8_operate Y v11 (gl N (gp Y p_0 17) ((v_2 + (-1)) - 1).toNatClampNeg) (gl N (gp Y p_0 17) (v_2 + (-1)).toNatClampNeg) N) fun r19 =>
              if xb ((v_2 + (-1)) - 1) 1200 then
                lt (sl N (gp Y p_0 17) (((v_2 + (-1)) - 1).toNatClampNeg) r19) fun N21 =>
                f_X8_fineOf_33 Y D9 p_0 v_1 (v_2 + (-1)) v_3 (v_4 + 1) N21
              else none
            else none
          else none
        else
          if xb (584 + (v_4 + 1)) 1784 then
            lt (gi N (gp Y p_0 8) (584 + (v_4 + 1)).toNatClampNeg) fun v23 =>
            if v11 = 0 then
              if xb v_2 1200 then
                lt (sl N (gp Y p_0 17) v_2.toNatClampNeg (Int32.toInt64 v23)) fun N29 =>
                f_X8_fineOf_33 Y D9 p_0 v_1 (v_2 + 1) v_3 ((v_4 + 1) + 1) N29
              else none
            else
              if v23 = 0 then
                bd (f_X8_ofRequest Y p_0 v_1 0 N) fun r32 =>
                if xb v_2 1200 then
                  lt (sl N (gp Y p_0 17) v_2.toNatClampNeg (Int32.toInt64 r32)) fun N34 =>
                  f_X8_fineOf_33 Y D9 p_0 v_1 (v_2 + 1) v_3 ((v_4 + 1) + 1) N34
                else none
              else
                if v23 = 1 then
                  bd (f_X8_ofRequest Y p_0 v_1 5 N) fun r37 =>
                  if xb v_2 1200 then
                    lt (sl N (gp Y p_0 17) v_2.toNatClampNeg (Int32.toInt64 r37)) fun N39 =>
                    f_X8_fineOf_33 Y D9 p_0 v_1 (v_2 + 1) v_3 ((v_4 + 1) + 1) N39
                  else none
                else
                  if v23 = 2 then
                    bd (f_X8_ofRequest Y p_0 v_1 4 N) fun r42 =>
                    bd (f_X8_heldBy Y p_0 r42 N) fun r44 =>
                    if xb v_2 1200 then
                      lt (sl N (gp Y p_0 17) v_2.toNatClampNeg (Int32.toInt64 r44)) fun N46 =>
                      f_X8_fineOf_33 Y D9 p_0 v_1 (v_2 + 1) v_3 ((v_4 + 1) + 1) N46
                    else none
                  else
                    if xb v_2 1200 then
                      lt (sl N (gp Y p_0 17) v_2.toNatClampNeg (Int32.toInt64 v_3)) fun N48 =>
                      f_X8_fineOf_33 Y D9 p_0 v_1 (v_2 + 1) v_3 ((v_4 + 1) + 1) N48
                    else none
          else none
      else none
def f_X8_fineOf (Y : XY) (a0 : Nat) (a1 : Int32) (N : XN) : Option (Int32 × XN) :=
  bd (f_X8_ofRequest Y a0 a1 7 N) fun r5 =>
  lt ((gi N (gp Y a0 8) 0) - r5) fun v6 =>
  bd (f_X8_ofRequest Y a0 a1 5 N) fun r11 =>
  lt (sl N (gp Y a0 17) 0 (Int32.toInt64 r11)) fun N12 =>
  f_X8_fineOf_33 Y FU a0 a1 0 v6 0 N12
def f_X8_answer (Y : XY) (a0 : Nat) (a1 : Int32) (a2 : Int32) (N : XN) : Option XN :=
  if xb ((f_X8_requestAt Y a1 N) + 0) 1784 then
    lt ((f_X8_lineAt Y (gi N (gp Y a0 8) ((f_X8_requestAt Y a1 N) + 0).toNatClampNeg) N) + 2) fun v5 =>
    if xb v5 1784 then
      if xb ((f_X8_requestAt Y a1 N) + 2) 1784 then
        lt (f_X8_min Y (gi N (gp Y a0 8) v5.toNatClampNeg) ((gi N (gp Y a0 8) 9) * (gi N (gp Y a0 8) ((f_X8_requestAt Y a1 N) + 2).toNatClampNeg)) N) fun v8 =>
        if xb ((f_X8_requestAt Y a1 N) + 3) 1784 then
          lt (si N (gp Y a0 8) (((f_X8_requestAt Y a1 N) + 3).toNatClampNeg) 2) fun N10 =>
          if xb ((f_X8_requestAt Y a1 N) + 6) 1784 then
            lt (si N10 (gp Y a0 8) (((f_X8_requestAt Y a1 N) + 6).toNatClampNeg) (gi N10 (gp Y a0 8) 0)) fun N12 =>
            if xb ((f_X8_requestAt Y a1 N) + 4) 1784 then
              lt (si N12 (gp Y a0 8) (((f_X8_requestAt Y a1 N) + 4).toNatClampNeg) (-1)) fun N14 =>
              if xb v5 1784 then
                if xb v5 1784 then
                  lt (si N14 (gp Y a0 8) v5.toNatClampNeg ((gi N14 (gp Y a0 8) v5.toNatClampNeg) - v8)) fun N17 =>
                  if xb ((f_X8_handlerAt Y a2 N17) + 0) 1784 then
                    if xb ((f_X8_handlerAt Y a2 N17) + 0) 1784 then
                      lt (si N17 (gp Y a0 8) (((f_X8_handlerAt Y a2 N17) + 0).toNatClampNeg) ((gi N17 (gp Y a0 8) ((f_X8_handlerAt Y a2 N17) + 0).toNatClampNeg) + v8)) fun N20 =>
                      if xb ((f_X8_handlerAt Y a2 N20) + 5) 1784 then
                        if xb ((f_X8_handlerAt Y a2 N20) + 5) 1784 then
                          lt (si N20 (gp Y a0 8) (((f_X8_handlerAt Y a2 N20) + 5).toNatClampNeg) ((gi N20 (gp Y a0 8) ((f_X8_handlerAt Y a2 N20) + 5).toNatClampNeg) + v8)) fun N23 =>
                          some N23
                        else none
                      else none
                    else none
                  else none
                else none
              else none
            else none
          else none
        else none
      else none
    else none
  else none
def f_X8_work_9 (Y : XY) : Nat → Nat → Int32 → Int32 → Int32 → XN → Option XN
  | 0, _, _, _, _, _ => none
  | D9 + 1, p_0, v_1, v_2, v_3, N =>
    if (gi N (gp Y p_0 8) 3) ≤ v_3 then
      some N
    else
      if v_2 ≤ 0 then
        some N
      else
        bd (f_X8_holds Y p_0 v_1 v_3 N) fun r7 =>
        if r7 = 0 then
          f_X8_work_9 Y D9 p_0 v_1 v_2 (v_3 + 1) N
        else
          if xb ((f_X8_requestAt Y v_3 N) + 5) 1784 then
            lt (f_X8_min Y v_2 (gi N (gp Y p_0 8) ((f_X8_requestAt Y v_3 N) + 5).toNatClampNeg) N) fun v10 =>
            if xb ((f_X8_requestAt Y v_3 N) + 5) 1784 then
              if xb ((f_X8_requestAt Y v_3 N) + 5) 1784 then
                lt (si N (gp Y p_0 8) (((f_X8_requestAt Y v_3 N) + 5).toNatClampNeg) ((gi N (gp Y p_0 8) ((f_X8_requestAt Y v_3 N) + 5).toNatClampNeg) - v10)) fun N13 =>
                if xb ((f_X8_requestAt Y v_3 N) + 7) 1784 then
                  lt (si N13 (gp Y p_0 8) (((f_X8_requestAt Y v_3 N) + 7).toNatClampNeg) (gi N13 (gp Y p_0 8) 0)) fun N15 =>
                  if xb ((f_X8_requestAt Y v_3 N) + 5) 1784 then
                    if (gi N15 (gp Y p_0 8) ((f_X8_requestAt Y v_3 N) + 5).toNatClampNeg) = 0 then
                      bd (f_X8_answer Y p_0 v_3 v_1 N15) fun N19 =>
                      f_X8_work_9 Y D9 p_0 v_1 (v_2 - v10) (v_3 + 1) N19
                    else
                      f_X8_work_9 Y D9 p_0 v_1 (v_2 - v10) (v_3 + 1) N15
                  else none
                else none
              else none
            else none
          else none
def f_X8_work (Y : XY) (a0 : Nat) (a1 : Int32) (N : XN) : Option XN :=
  bd (f_X8_ofHandler Y a0 a1 1 N) fun r2 =>
  f_X8_work_9 Y FU a0 a1 r2 0 N
def f_X8_fine (Y : XY) (a0 : Nat) (a1 : Int32) (N : XN) : Option XN :=
  if xb ((f_X8_requestAt Y a1 N) + 7) 1784 then
    if (gi N (gp Y a0 8) 5) ≤ ((gi N (gp Y a0 8) 0) - (gi N (gp Y a0 8) ((f_X8_requestAt Y a1 N) + 7).toNatClampNeg)) then
      bd2 (f_X8_fineOf Y a0 a1 N) fun r7 N8 =>
      if xb ((f_X8_requestAt Y a1 N) + 4) 1784 then
        if xb ((f_X8_requestAt Y a1 N) + 0) 1784 then
          bd (f_X8_mustPay Y a0 (gi N8 (gp Y a0 8) ((f_X8_requestAt Y a1 N) + 4).toNatClampNeg) r7 3 ((f_X8_lineAt Y (gi N8 (gp Y a0 8) ((f_X8_requestAt Y a1 N) + 0).toNatClampNeg) N8) + 2) N8) fun N12 =>
          if xb ((f_X8_requestAt Y a1 N) + 7) 1784 then
            lt (si N12 (gp Y a0 8) (((f_X8_requestAt Y a1 N) + 7).toNatClampNeg) (gi N12 (gp Y a0 8) 0)) fun N14 =>
            some N14
          else none
        else none
      else none
    else
      some N
  else none
def f_X8_payRent_50 (Y : XY) : Nat → Nat → Int32 → Int32 → Int32 → Int32 → XN → Option XN
  | 0, _, _, _, _, _, _ => none
  | D9 + 1, p_0, v_1, v_2, v_3, v_4, N =>
    if v_3 ≤ v_4 then
      some N
    else
      if xb v_4 3 then
        bd (f_X8_isTenant Y p_0 (gi N (gp Y p_0 18) v_4.toNatClampNeg) v_1 N) fun r7 =>
        if r7 = 0 then
          f_X8_payRent_50 Y D9 p_0 v_1 v_2 v_3 (v_4 + 1) N
        else
          if xb v_4 3 then
            if xb (v_2 + 0) 1784 then
              if v_3 = 0 then none else
              if xb (v_2 + 0) 1784 then
                if v_3 = 0 then none else
                if ((gi N (gp Y p_0 8) (v_2 + 0).toNatClampNeg) - (gi N (gp Y p_0 8) (v_2 + 0).toNatClampNeg) / v_3 * v_3) ≤ v_4 then
                  bd (f_X8_mustPay Y p_0 (gi N (gp Y p_0 18) v_4.toNatClampNeg) (((gi N (gp Y p_0 8) (v_2 + 0).toNatClampNeg) / v_3) + 0) 4 4 N) fun N19 =>
                  f_X8_payRent_50 Y D9 p_0 v_1 v_2 v_3 (v_4 + 1) N19
                else
                  bd (f_X8_mustPay Y p_0 (gi N (gp Y p_0 18) v_4.toNatClampNeg) (((gi N (gp Y p_0 8) (v_2 + 0).toNatClampNeg) / v_3) + 1) 4 4 N) fun N21 =>
                  f_X8_payRent_50 Y D9 p_0 v_1 v_2 v_3 (v_4 + 1) N21
              else none
            else none
          else none
      else none
def f_X8_payRent_17 (Y : XY) : Nat → Nat → Int32 → Int32 → Int32 → Int32 → XN → Option XN
  | 0, _, _, _, _, _, _ => none
  | D9 + 1, p_0, v_1, v_2, v_3, v_4, N =>
    if v_3 ≤ v_4 then
      f_X8_payRent_50 Y FU p_0 v_1 v_2 v_3 0 N
    else
      if xb ((v_2 + 4) + v_4) 1784 then
        if xb v_4 3 then
          lt (si N (gp Y p_0 18) v_4.toNatClampNeg (gi N (gp Y p_0 8) ((v_2 + 4) + v_4).toNatClampNeg)) fun N10 =>
          f_X8_payRent_17 Y D9 p_0 v_1 v_2 v_3 (v_4 + 1) N10
        else none
      else none
def f_X8_payRent (Y : XY) (a0 : Nat) (a1 : Int32) (N : XN) : Option XN :=
  if xb ((f_X8_lineAt Y a1 N) + 3) 1784 then
    lt (gi N (gp Y a0 8) ((f_X8_lineAt Y a1 N) + 3).toNatClampNeg) fun v5 =>
    f_X8_payRent_17 Y FU a0 a1 (f_X8_lineAt Y a1 N) v5 0 N
  else none
def f_X8_tick_141 (Y : XY) : Nat → Nat → Int32 → XN → Option XN
  | 0, _, _, _ => none
  | D9 + 1, p_0, v_1, N =>
    if (gi N (gp Y p_0 8) 2) ≤ v_1 then
      lt (si N (gp Y p_0 8) 0 ((gi N (gp Y p_0 8) 0) + 1)) fun N5 =>
      some N5
    else
      bd (f_X8_payRent Y p_0 v_1 N) fun N7 =>
      f_X8_tick_141 Y D9 p_0 (v_1 + 1) N7
def f_X8_tick_81 (Y : XY) : Nat → Nat → Int32 → XN → Option XN
  | 0, _, _, _ => none
  | D9 + 1, p_0, v_1, N =>
    if (gi N (gp Y p_0 8) 3) ≤ v_1 then
      if (gi N (gp Y p_0 8) 8) = 0 then none else
      if (((gi N (gp Y p_0 8) 0) + 1) - ((gi N (gp Y p_0 8) 0) + 1) / (gi N (gp Y p_0 8) 8) * (gi N (gp Y p_0 8) 8)) = 0 then
        f_X8_tick_141 Y FU p_0 0 N
      else
        lt (si N (gp Y p_0 8) 0 ((gi N (gp Y p_0 8) 0) + 1)) fun N7 =>
        some N7
    else
      bd (f_X8_isOpen Y p_0 v_1 N) fun r9 =>
      if r9 = 0 then
        f_X8_tick_81 Y D9 p_0 (v_1 + 1) N
      else
        bd (f_X8_ofRequest Y p_0 v_1 4 N) fun r12 =>
        if r12 = (-1) then
          f_X8_tick_81 Y D9 p_0 (v_1 + 1) N
        else
          bd (f_X8_fine Y p_0 v_1 N) fun N15 =>
          f_X8_tick_81 Y D9 p_0 (v_1 + 1) N15
def f_X8_tick_49 (Y : XY) : Nat → Nat → Int32 → XN → Option XN
  | 0, _, _, _ => none
  | D9 + 1, p_0, v_1, N =>
    if (gi N (gp Y p_0 8) 1) ≤ v_1 then
      f_X8_tick_81 Y FU p_0 0 N
    else
      bd (f_X8_ofHandler Y p_0 v_1 2 N) fun r6 =>
      if r6 = 0 then
        bd (f_X8_work Y p_0 v_1 N) fun N9 =>
        f_X8_tick_49 Y D9 p_0 (v_1 + 1) N9
      else
        f_X8_tick_49 Y D9 p_0 (v_1 + 1) N
def f_X8_tick_2 (Y : XY) : Nat → Nat → Int32 → XN → Option XN
  | 0, _, _, _ => none
  | D9 + 1, p_0, v_1, N =>
    if (gi N (gp Y p_0 8) 3) ≤ v_1 then
      f_X8_tick_49 Y FU p_0 0 N
    else
      bd (f_X8_ofRequest Y p_0 v_1 3 N) fun r6 =>
      if r6 = 0 then
        bd (f_X8_ofRequest Y p_0 v_1 1 N) fun r9 =>
        if r9 = (gi N (gp Y p_0 8) 0) then
          bd (f_X8_raiseNow Y p_0 v_1 N) fun N12 =>
          f_X8_tick_2 Y D9 p_0 (v_1 + 1) N12
        else
          f_X8_tick_2 Y D9 p_0 (v_1 + 1) N
      else
        f_X8_tick_2 Y D9 p_0 (v_1 + 1) N
def f_X8_tick (Y : XY) (a0 : Nat) (N : XN) : Option XN :=
  f_X8_tick_2 Y FU a0 0 N
def f_X8_noHandler (Y : XY) (a0 : Nat) (a1 : Int32) (N : XN) : Option (Int32 × XN) :=
  if (f_X8_in Y a1 0 ((gi N (gp Y a0 8) 1) - 1) N) = 0 then
    bd2 (f_X8_fails Y a0 1 1 N) fun r6 N7 =>
    if xz r6 then
      some (r6, N7)
    else none
  else
    bd2 (f_X8_fails Y a0 0 1 N) fun r10 N11 =>
    if xz r10 then
      some (r10, N11)
    else none
def f_X8_noLine (Y : XY) (a0 : Nat) (a1 : Int32) (N : XN) : Option (Int32 × XN) :=
  if (f_X8_in Y a1 0 ((gi N (gp Y a0 8) 2) - 1) N) = 0 then
    bd2 (f_X8_fails Y a0 1 1 N) fun r6 N7 =>
    if xz r6 then
      some (r6, N7)
    else none
  else
    bd2 (f_X8_fails Y a0 0 1 N) fun r10 N11 =>
    if xz r10 then
      some (r10, N11)
    else none
def f_X8_noRequest (Y : XY) (a0 : Nat) (a1 : Int32) (N : XN) : Option (Int32 × XN) :=
  if (f_X8_in Y a1 0 ((gi N (gp Y a0 8) 3) - 1) N) = 0 then
    bd2 (f_X8_fails Y a0 1 1 N) fun r6 N7 =>
    if xz r6 then
      some (r6, N7)
    else none
  else
    bd2 (f_X8_fails Y a0 0 1 N) fun r10 N11 =>
    if xz r10 then
      some (r10, N11)
    else none
def f_X8_noNumber (Y : XY) (a0 : Nat) (a1 : Int32) (a2 : Int32) (a3 : Int32) (N : XN) : Option (Int32 × XN) :=
  if (f_X8_in Y a1 a2 a3 N) = 0 then
    bd2 (f_X8_fails Y a0 1 2 N) fun r3 N4 =>
    if xz r3 then
      some (r3, N4)
    else none
  else
    bd2 (f_X8_fails Y a0 0 2 N) fun r7 N8 =>
    if xz r7 then
      some (r7, N8)
    else none
def f_X8_countOf_4 (Y : XY) : Nat → Nat → Int32 → Int32 → Int32 → XN → Option Int32
  | 0, _, _, _, _, _ => none
  | D9 + 1, p_0, v_1, v_2, v_3, N =>
    if (gi N (gp Y p_0 8) 3) ≤ v_3 then
      some v_2
    else
      bd (f_X8_ofRequest Y p_0 v_3 3 N) fun r6 =>
      if r6 = v_1 then
        f_X8_countOf_4 Y D9 p_0 v_1 (v_2 + 1) (v_3 + 1) N
      else
        f_X8_countOf_4 Y D9 p_0 v_1 (v_2 + 0) (v_3 + 1) N
def f_X8_countOf (Y : XY) (a0 : Nat) (a1 : Int32) (N : XN) : Option Int32 :=
  f_X8_countOf_4 Y FU a0 a1 0 0 N
def f_X8_broken_4 (Y : XY) : Nat → Nat → Int32 → Int32 → XN → Option Int32
  | 0, _, _, _, _ => none
  | D9 + 1, p_0, v_1, v_2, N =>
    if (gi N (gp Y p_0 8) 1) ≤ v_2 then
      some v_1
    else
      bd (f_X8_ofHandler Y p_0 v_2 2 N) fun r6 =>
      f_X8_broken_4 Y D9 p_0 (v_1 + r6) (v_2 + 1) N
def f_X8_broken (Y : XY) (a0 : Nat) (N : XN) : Option Int32 :=
  f_X8_broken_4 Y FU a0 0 0 N
def f_X8_coins_36 (Y : XY) : Nat → Nat → Int32 → Int32 → XN → Option Int32
  | 0, _, _, _, _ => none
  | D9 + 1, p_0, v_1, v_2, N =>
    if (gi N (gp Y p_0 8) 2) ≤ v_2 then
      some v_1
    else
      bd (f_X8_ofLine Y p_0 v_2 2 N) fun r6 =>
      f_X8_coins_36 Y D9 p_0 (v_1 + r6) (v_2 + 1) N
def f_X8_coins_9 (Y : XY) : Nat → Nat → Int32 → Int32 → XN → Option Int32
  | 0, _, _, _, _ => none
  | D9 + 1, p_0, v_1, v_2, N =>
    if (gi N (gp Y p_0 8) 1) ≤ v_2 then
      f_X8_coins_36 Y FU p_0 v_1 0 N
    else
      bd (f_X8_ofHandler Y p_0 v_2 0 N) fun r6 =>
      f_X8_coins_9 Y D9 p_0 (v_1 + r6) (v_2 + 1) N
def f_X8_coins (Y : XY) (a0 : Nat) (N : XN) : Option Int32 :=
  f_X8_coins_9 Y FU a0 (gi N (gp Y a0 8) 4) 0 N
def f_X8_told (Y : XY) (a0 : Nat) (a1 : Int32) (N : XN) : Option Int32 :=
  if 5 ≤ a1 then
    if 8 ≤ a1 then
      if a1 = 8 then
        bd (f_X8_broken Y a0 N) fun r5 =>
        some r5
      else
        bd (f_X8_coins Y a0 N) fun r7 =>
        some r7
    else
      bd (f_X8_countOf Y a0 (a1 - 4) N) fun r9 =>
      some r9
  else
    if xb a1 1784 then
      some (gi N (gp Y a0 8) a1.toNatClampNeg)
    else none
def f_X8_state (Y : XY) (a0 : Nat) (a1 : Int32) (N : XN) : Option (Int32 × XN) :=
  lt (si N a0 0 0) fun N1 =>
  if (f_X8_in Y a1 0 9 N1) = 0 then
    bd2 (f_X8_fails Y a0 1 1 N1) fun r4 N5 =>
    if r4 = 0 then
      bd (f_X8_told Y a0 a1 N5) fun r8 =>
      some (r8, N5)
    else
      some (0, N5)
  else
    bd2 (f_X8_fails Y a0 0 1 N1) fun r10 N11 =>
    if r10 = 0 then
      bd (f_X8_told Y a0 a1 N11) fun r14 =>
      some (r14, N11)
    else
      some (0, N11)
def f_X8_linesOf_4 (Y : XY) : Nat → Nat → Int32 → Int32 → Int32 → XN → Option Int32
  | 0, _, _, _, _, _ => none
  | D9 + 1, p_0, v_1, v_2, v_3, N =>
    if (gi N (gp Y p_0 8) 2) ≤ v_3 then
      some v_2
    else
      bd (f_X8_isTenant Y p_0 v_1 v_3 N) fun r6 =>
      if r6 = 0 then
        f_X8_linesOf_4 Y D9 p_0 v_1 (v_2 + 0) (v_3 + 1) N
      else
        f_X8_linesOf_4 Y D9 p_0 v_1 (v_2 + 1) (v_3 + 1) N
def f_X8_linesOf (Y : XY) (a0 : Nat) (a1 : Int32) (N : XN) : Option Int32 :=
  f_X8_linesOf_4 Y FU a0 a1 0 0 N
def f_X8_toldHandler (Y : XY) (a0 : Nat) (a1 : Int32) (a2 : Int32) (N : XN) : Option Int32 :=
  if 3 ≤ a2 then
    if a2 = 3 then
      bd (f_X8_heldBy Y a0 a1 N) fun r4 =>
      some r4
    else
      if a2 = 4 then
        bd (f_X8_linesOf Y a0 a1 N) fun r7 =>
        some r7
      else
        bd (f_X8_ofHandler Y a0 a1 (a2 - 2) N) fun r9 =>
        some r9
  else
    bd (f_X8_ofHandler Y a0 a1 a2 N) fun r11 =>
    some r11
def f_X8_handler (Y : XY) (a0 : Nat) (a1 : Int32) (a2 : Int32) (N : XN) : Option (Int32 × XN) :=
  lt (si N a0 0 0) fun N1 =>
  bd2 (f_X8_noHandler Y a0 a1 N1) fun r3 N4 =>
  if r3 = 0 then
    bd2 (f_X8_noNumber Y a0 a2 0 7 N4) fun r7 N8 =>
    if r7 = 0 then
      bd (f_X8_toldHandler Y a0 a1 a2 N8) fun r11 =>
      some (r11, N8)
    else
      some (0, N8)
  else
    some (0, N4)
def f_X8_toldLine_17 (Y : XY) : Nat → Nat → Int32 → Int32 → Int32 → XN → Option Int32
  | 0, _, _, _, _, _ => none
  | D9 + 1, p_0, v_1, v_3, v_4, N =>
    if (gi N (gp Y p_0 8) 3) ≤ v_4 then
      some v_3
    else
      bd (f_X8_isOpen Y p_0 v_4 N) fun r6 =>
      if r6 = 0 then
        f_X8_toldLine_17 Y D9 p_0 v_1 (v_3 + 0) (v_4 + 1) N
      else
        bd (f_X8_ofRequest Y p_0 v_4 0 N) fun r9 =>
        if r9 = v_1 then
          bd (f_X8_ofRequest Y p_0 v_4 4 N) fun r12 =>
          if r12 = (-1) then
            f_X8_toldLine_17 Y D9 p_0 v_1 (v_3 + 1) (v_4 + 1) N
          else
            f_X8_toldLine_17 Y D9 p_0 v_1 (v_3 + 0) (v_4 + 1) N
        else
          f_X8_toldLine_17 Y D9 p_0 v_1 (v_3 + 0) (v_4 + 1) N
def f_X8_toldLine (Y : XY) (a0 : Nat) (a1 : Int32) (a2 : Int32) (N : XN) : Option Int32 :=
  if 4 ≤ a2 then
    f_X8_toldLine_17 Y FU a0 a1 0 0 N
  else
    bd (f_X8_ofLine Y a0 a1 a2 N) fun r3 =>
    some r3
def f_X8_line (Y : XY) (a0 : Nat) (a1 : Int32) (a2 : Int32) (N : XN) : Option (Int32 × XN) :=
  lt (si N a0 0 0) fun N1 =>
  bd2 (f_X8_noLine Y a0 a1 N1) fun r3 N4 =>
  if r3 = 0 then
    bd2 (f_X8_noNumber Y a0 a2 0 4 N4) fun r7 N8 =>
    if r7 = 0 then
      bd (f_X8_toldLine Y a0 a1 a2 N8) fun r11 =>
      some (r11, N8)
    else
      some (0, N8)
  else
    some (0, N4)
def f_X8_tenant (Y : XY) (a0 : Nat) (a1 : Int32) (a2 : Int32) (N : XN) : Option (Int32 × XN) :=
  lt (si N a0 0 0) fun N1 =>
  bd2 (f_X8_noLine Y a0 a1 N1) fun r3 N4 =>
  if r3 = 0 then
    bd (f_X8_ofLine Y a0 a1 3 N4) fun r7 =>
    bd2 (f_X8_noNumber Y a0 a2 0 (r7 - 1) N4) fun r9 N10 =>
    if r9 = 0 then
      bd (f_X8_ofLine Y a0 a1 (4 + a2) N10) fun r13 =>
      some (r13, N10)
    else
      some (0, N10)
  else
    some (0, N4)
def f_X8_request (Y : XY) (a0 : Nat) (a1 : Int32) (a2 : Int32) (N : XN) : Option (Int32 × XN) :=
  lt (si N a0 0 0) fun N1 =>
  bd2 (f_X8_noRequest Y a0 a1 N1) fun r3 N4 =>
  if r3 = 0 then
    bd2 (f_X8_noNumber Y a0 a2 0 6 N4) fun r7 N8 =>
    if r7 = 0 then
      bd (f_X8_ofRequest Y a0 a1 a2 N8) fun r11 =>
      some (r11, N8)
    else
      some (0, N8)
  else
    some (0, N4)
def f_X8_calm (Y : XY) (a0 : Nat) (a1 : Int32) (N : XN) : Option (Int32 × XN) :=
  lt (si N a0 0 0) fun N1 =>
  bd2 (f_X8_noLine Y a0 a1 N1) fun r3 N4 =>
  if r3 = 0 then
    bd (f_X8_ofLine Y a0 a1 1 N4) fun r7 =>
    bd (f_X8_raisedOn Y a0 a1 N4) fun r9 =>
    if (r7 - r9) ≤ 0 then
      some (0, N4)
    else
      some (r7 - r9, N4)
  else
    some (0, N4)
def f_X8_endsAt_31 (Y : XY) : Nat → Nat → Int32 → Int32 → XN → Option (Int32 × XN)
  | 0, _, _, _, _ => none
  | D9 + 1, p_0, v_1, v_2, N =>
    if 1100 ≤ v_2 then
      bd (f_X8_ofRequest Y p_0 v_1 6 N) fun r3 =>
      bd (f_X8_copy Y (gp Y p_0 10) (gp Y p_0 8) 584 N) fun N11 =>
      some (r3, N11)
    else
      bd (f_X8_ofRequest Y p_0 v_1 3 N) fun r13 =>
      if 2 ≤ r13 then
        bd (f_X8_ofRequest Y p_0 v_1 6 N) fun r16 =>
        bd (f_X8_copy Y (gp Y p_0 10) (gp Y p_0 8) 584 N) fun N24 =>
        some (r16, N24)
      else
        bd (f_X8_tick Y p_0 N) fun N26 =>
        f_X8_endsAt_31 Y D9 p_0 v_1 (v_2 + 1) N26
def f_X8_endsAt (Y : XY) (a0 : Nat) (a1 : Int32) (N : XN) : Option (Int32 × XN) :=
  lt (si N a0 0 0) fun N1 =>
  bd2 (f_X8_noRequest Y a0 a1 N1) fun r3 N4 =>
  if r3 = 0 then
    bd (f_X8_copy Y (gp Y a0 8) (gp Y a0 10) 584 N4) fun N13 =>
    f_X8_endsAt_31 Y FU a0 a1 0 N13
  else
    some (0, N4)
def f_X8_bankruptIn_31 (Y : XY) : Nat → Nat → Int32 → Int32 → XN → Option (Int32 × XN)
  | 0, _, _, _, _ => none
  | D9 + 1, p_0, v_1, v_2, N =>
    if 1100 ≤ v_2 then
      bd (f_X8_ofHandler Y p_0 v_1 2 N) fun r3 =>
      if r3 = 1 then
        bd (f_X8_copy Y (gp Y p_0 10) (gp Y p_0 8) 584 N) fun N12 =>
        some (v_2, N12)
      else
        bd (f_X8_copy Y (gp Y p_0 10) (gp Y p_0 8) 584 N) fun N20 =>
        some ((-1), N20)
    else
      bd (f_X8_ofHandler Y p_0 v_1 2 N) fun r22 =>
      if r22 = 0 then
        bd (f_X8_tick Y p_0 N) fun N25 =>
        f_X8_bankruptIn_31 Y D9 p_0 v_1 (v_2 + 1) N25
      else
        bd (f_X8_ofHandler Y p_0 v_1 2 N) fun r27 =>
        if r27 = 1 then
          bd (f_X8_copy Y (gp Y p_0 10) (gp Y p_0 8) 584 N) fun N36 =>
          some (v_2, N36)
        else
          bd (f_X8_copy Y (gp Y p_0 10) (gp Y p_0 8) 584 N) fun N44 =>
          some ((-1), N44)
def f_X8_bankruptIn (Y : XY) (a0 : Nat) (a1 : Int32) (N : XN) : Option (Int32 × XN) :=
  lt (si N a0 0 0) fun N1 =>
  bd2 (f_X8_noHandler Y a0 a1 N1) fun r3 N4 =>
  if r3 = 0 then
    bd (f_X8_copy Y (gp Y a0 8) (gp Y a0 10) 584 N4) fun N13 =>
    f_X8_bankruptIn_31 Y FU a0 a1 0 N13
  else
    some (0, N4)
def f_X8_finesPaid_4 (Y : XY) : Nat → Nat → Int32 → Int32 → XN → Option Int32
  | 0, _, _, _, _ => none
  | D9 + 1, p_0, v_1, v_2, N =>
    if (gi N (gp Y p_0 8) 1) ≤ v_2 then
      some v_1
    else
      bd (f_X8_ofHandler Y p_0 v_2 3 N) fun r6 =>
      f_X8_finesPaid_4 Y D9 p_0 (v_1 + r6) (v_2 + 1) N
def f_X8_finesPaid (Y : XY) (a0 : Nat) (N : XN) : Option Int32 :=
  f_X8_finesPaid_4 Y FU a0 0 0 N
def f_X8_finesWithin_21 (Y : XY) : Nat → Nat → Int32 → Int32 → Int32 → XN → Option (Int32 × XN)
  | 0, _, _, _, _, _ => none
  | D9 + 1, p_0, v_1, v_2, v_3, N =>
    if v_1 ≤ v_3 then
      bd (f_X8_finesPaid Y p_0 N) fun r3 =>
      bd (f_X8_copy Y (gp Y p_0 11) (gp Y p_0 8) 584 N) fun N11 =>
      some (r3 - v_2, N11)
    else
      bd (f_X8_tick Y p_0 N) fun N13 =>
      f_X8_finesWithin_21 Y D9 p_0 v_1 v_2 (v_3 + 1) N13
def f_X8_finesWithin (Y : XY) (a0 : Nat) (a1 : Int32) (N : XN) : Option (Int32 × XN) :=
  bd (f_X8_copy Y (gp Y a0 8) (gp Y a0 11) 584 N) fun N8 =>
  bd (f_X8_finesPaid Y a0 N8) fun r10 =>
  f_X8_finesWithin_21 Y FU a0 a1 r10 0 N8
def f_X8_finesIn (Y : XY) (a0 : Nat) (a1 : Int32) (N : XN) : Option (Int32 × XN) :=
  lt (si N a0 0 0) fun N1 =>
  if (f_X8_in Y a1 0 1100 N1) = 0 then
    bd2 (f_X8_fails Y a0 1 1 N1) fun r4 N5 =>
    if r4 = 0 then
      bd2 (f_X8_finesWithin Y a0 a1 N5) fun r8 N9 =>
      some (r8, N9)
    else
      some (0, N5)
  else
    bd2 (f_X8_fails Y a0 0 1 N1) fun r11 N12 =>
    if r11 = 0 then
      bd2 (f_X8_finesWithin Y a0 a1 N12) fun r15 N16 =>
      some (r15, N16)
    else
      some (0, N12)
def f_X8_mayLease (Y : XY) (a0 : Nat) (a1 : Int32) (a2 : Int32) (N : XN) : Option Int32 :=
  bd (f_X8_ofHandler Y a0 a1 2 N) fun r2 =>
  if r2 = 0 then
    bd (f_X8_isTenant Y a0 a1 a2 N) fun r5 =>
    if r5 = 0 then
      bd (f_X8_ofLine Y a0 a2 3 N) fun r8 =>
      if 3 ≤ r8 then
        some 0
      else
        some 1
    else
      some 0
  else
    some 0
def f_X8_leaseNow_41 (Y : XY) : Nat → Nat → Int32 → Int32 → Int32 → XN → Option (Int32 × XN)
  | 0, _, _, _, _, _ => none
  | D9 + 1, p_0, v_2, v_4, v_5, N =>
    if (gi N (gp Y p_0 8) 3) ≤ v_5 then
      some (v_4, N)
    else
      bd (f_X8_isOpen Y p_0 v_5 N) fun r6 =>
      if r6 = 0 then
        f_X8_leaseNow_41 Y D9 p_0 v_2 v_4 (v_5 + 1) N
      else
        bd (f_X8_ofRequest Y p_0 v_5 0 N) fun r9 =>
        if r9 = v_2 then
          bd (f_X8_ofRequest Y p_0 v_5 4 N) fun r12 =>
          if r12 = (-1) then
            bd (f_X8_assign Y p_0 v_5 N) fun N15 =>
            f_X8_leaseNow_41 Y D9 p_0 v_2 (v_4 + 1) (v_5 + 1) N15
          else
            f_X8_leaseNow_41 Y D9 p_0 v_2 v_4 (v_5 + 1) N
        else
          f_X8_leaseNow_41 Y D9 p_0 v_2 v_4 (v_5 + 1) N
def f_X8_leaseNow (Y : XY) (a0 : Nat) (a1 : Int32) (a2 : Int32) (N : XN) : Option (Int32 × XN) :=
  if xb ((f_X8_lineAt Y a2 N) + 3) 1784 then
    if xb (((f_X8_lineAt Y a2 N) + 4) + (gi N (gp Y a0 8) ((f_X8_lineAt Y a2 N) + 3).toNatClampNeg)) 1784 then
      lt (si N (gp Y a0 8) ((((f_X8_lineAt Y a2 N) + 4) + (gi N (gp Y a0 8) ((f_X8_lineAt Y a2 N) + 3).toNatClampNeg)).toNatClampNeg) a1) fun N6 =>
      if xb ((f_X8_lineAt Y a2 N) + 3) 1784 then
        if xb ((f_X8_lineAt Y a2 N) + 3) 1784 then
          lt (si N6 (gp Y a0 8) (((f_X8_lineAt Y a2 N) + 3).toNatClampNeg) ((gi N6 (gp Y a0 8) ((f_X8_lineAt Y a2 N) + 3).toNatClampNeg) + 1)) fun N9 =>
          f_X8_leaseNow_41 Y FU a0 a2 0 0 N9
        else none
      else none
    else none
  else none
def f_X8_advise_27 (Y : XY) : Nat → Nat → Int32 → Int32 → Int32 → Int32 → XN → Option (Int32 × XN)
  | 0, _, _, _, _, _, _ => none
  | D9 + 1, p_0, v_1, v_2, v_3, v_4, N =>
    if (gi N (gp Y p_0 8) 1) ≤ v_4 then
      some (v_2, N)
    else
      bd (f_X8_mayLease Y p_0 v_4 v_1 N) fun r6 =>
      if r6 = 0 then
        f_X8_advise_27 Y D9 p_0 v_1 v_2 v_3 (v_4 + 1) N
      else
        bd (f_X8_copy Y (gp Y p_0 8) (gp Y p_0 10) 584 N) fun N12 =>
        bd2 (f_X8_leaseNow Y p_0 v_4 v_1 N12) fun r14 N15 =>
        bd2 (f_X8_finesWithin Y p_0 100 N15) fun r17 N18 =>
        bd (f_X8_copy Y (gp Y p_0 10) (gp Y p_0 8) 584 N18) fun N20 =>
        if r17 < v_3 then
          f_X8_advise_27 Y D9 p_0 v_1 v_4 r17 (v_4 + 1) N20
        else
          f_X8_advise_27 Y D9 p_0 v_1 v_2 v_3 (v_4 + 1) N20
def f_X8_advise (Y : XY) (a0 : Nat) (a1 : Int32) (N : XN) : Option (Int32 × XN) :=
  lt (si N a0 0 0) fun N1 =>
  bd2 (f_X8_noLine Y a0 a1 N1) fun r3 N4 =>
  if r3 = 0 then
    bd2 (f_X8_finesWithin Y a0 100 N4) fun r7 N8 =>
    f_X8_advise_27 Y FU a0 a1 (-1) r7 0 N8
  else
    some (0, N4)
def f_X8_remember_11 (Y : XY) : Nat → Nat → Int32 → XN → Option XN
  | 0, _, _, _ => none
  | D9 + 1, p_0, v_1, N =>
    if 8 ≤ v_1 then
      lt (si N p_0 13 ((gi N p_0 13) - 1)) fun N2 =>
      if xb (gi N2 p_0 13) 8 then
        bd (f_X8_copy Y (gp Y p_0 8) (gp Y (gp Y p_0 12) (gi N2 p_0 13).toNatClampNeg) 1784 N2) fun N14 =>
        lt (si N14 p_0 13 ((gi N14 p_0 13) + 1)) fun N15 =>
        some N15
      else none
    else
      if xb v_1 8 then
        if xb (v_1 - 1) 8 then
          bd (f_X8_copy Y (gp Y (gp Y p_0 12) v_1.toNatClampNeg) (gp Y (gp Y p_0 12) (v_1 - 1).toNatClampNeg) 1784 N) fun N28 =>
          f_X8_remember_11 Y D9 p_0 (v_1 + 1) N28
        else none
      else none
def f_X8_remember (Y : XY) (a0 : Nat) (N : XN) : Option XN :=
  if (gi N a0 13) = 8 then
    f_X8_remember_11 Y FU a0 1 N
  else
    if xb (gi N a0 13) 8 then
      bd (f_X8_copy Y (gp Y a0 8) (gp Y (gp Y a0 12) (gi N a0 13).toNatClampNeg) 1784 N) fun N13 =>
      lt (si N13 a0 13 ((gi N13 a0 13) + 1)) fun N14 =>
      some N14
    else none
def f_X8_pass_57 (Y : XY) : Nat → Nat → Int32 → Int32 → Int32 → XN → Option (Int32 × XN)
  | 0, _, _, _, _, _ => none
  | D9 + 1, p_0, v_1, v_2, v_3, N =>
    if v_1 ≤ v_3 then
      bd (f_X8_countOf Y p_0 2 N) fun r3 =>
      some (r3 - v_2, N)
    else
      bd (f_X8_tick Y p_0 N) fun N5 =>
      f_X8_pass_57 Y D9 p_0 v_1 v_2 (v_3 + 1) N5
def f_X8_pass (Y : XY) (a0 : Nat) (a1 : Int32) (N : XN) : Option (Int32 × XN) :=
  lt (si N a0 0 0) fun N1 =>
  if (f_X8_in Y a1 1 200 N1) = 0 then
    bd2 (f_X8_fails Y a0 1 1 N1) fun r4 N5 =>
    if r4 = 0 then
      bd (f_X8_remember Y a0 N5) fun N8 =>
      bd (f_X8_countOf Y a0 2 N8) fun r10 =>
      f_X8_pass_57 Y FU a0 a1 r10 0 N8
    else
      some (0, N5)
  else
    if ((gi N1 (gp Y a0 8) 0) + a1) ≤ 9999 then
      bd2 (f_X8_fails Y a0 0 1 N1) fun r16 N17 =>
      if r16 = 0 then
        bd (f_X8_remember Y a0 N17) fun N20 =>
        bd (f_X8_countOf Y a0 2 N20) fun r22 =>
        f_X8_pass_57 Y FU a0 a1 r22 0 N20
      else
        some (0, N17)
    else
      bd2 (f_X8_fails Y a0 1 1 N1) fun r24 N25 =>
      if r24 = 0 then
        bd (f_X8_remember Y a0 N25) fun N28 =>
        bd (f_X8_countOf Y a0 2 N28) fun r30 =>
        f_X8_pass_57 Y FU a0 a1 r30 0 N28
      else
        some (0, N25)
def f_X8_raise (Y : XY) (a0 : Nat) (a1 : Int32) (a2 : Int32) (N : XN) : Option (Int32 × XN) :=
  lt (si N a0 0 0) fun N1 =>
  bd2 (f_X8_noLine Y a0 a1 N1) fun r3 N4 =>
  if r3 = 0 then
    bd2 (f_X8_noNumber Y a0 a2 1 99 N4) fun r7 N8 =>
    if r7 = 0 then
      if (gi N8 (gp Y a0 8) 3) = 60 then
        bd2 (f_X8_fails Y a0 1 3 N8) fun r15 N16 =>
        if r15 = 0 then
          bd (f_X8_remember Y a0 N16) fun N19 =>
          bd (f_X8_putRequest Y (gp Y a0 8) a1 (gi N19 (gp Y a0 8) 0) a2 N19) fun N21 =>
          bd (f_X8_raiseNow Y a0 ((gi N21 (gp Y a0 8) 3) - 1) N21) fun N23 =>
          some ((gi N23 (gp Y a0 8) 3) - 1, N23)
        else
          some (0, N16)
      else
        bd2 (f_X8_fails Y a0 0 3 N8) fun r25 N26 =>
        if r25 = 0 then
          bd (f_X8_remember Y a0 N26) fun N29 =>
          bd (f_X8_putRequest Y (gp Y a0 8) a1 (gi N29 (gp Y a0 8) 0) a2 N29) fun N31 =>
          bd (f_X8_raiseNow Y a0 ((gi N31 (gp Y a0 8) 3) - 1) N31) fun N33 =>
          some ((gi N33 (gp Y a0 8) 3) - 1, N33)
        else
          some (0, N26)
    else
      some (0, N8)
  else
    some (0, N4)
def f_X8_lease (Y : XY) (a0 : Nat) (a1 : Int32) (a2 : Int32) (N : XN) : Option (Int32 × XN) :=
  lt (si N a0 0 0) fun N1 =>
  bd2 (f_X8_noHandler Y a0 a1 N1) fun r3 N4 =>
  if r3 = 0 then
    bd2 (f_X8_noLine Y a0 a2 N4) fun r7 N8 =>
    if r7 = 0 then
      bd (f_X8_remember Y a0 N8) fun N11 =>
      bd (f_X8_mayLease Y a0 a1 a2 N11) fun r13 =>
      if r13 = 0 then
        some ((-1), N11)
      else
        bd2 (f_X8_leaseNow Y a0 a1 a2 N11) fun r16 N17 =>
        some (r16, N17)
    else
      some (0, N8)
  else
    some (0, N4)
def f_X8_release_49 (Y : XY) : Nat → Nat → Int32 → Int32 → Int32 → Int32 → XN → Option (Int32 × XN)
  | 0, _, _, _, _, _, _ => none
  | D9 + 1, p_0, v_1, v_2, v_3, v_4, N =>
    if (gi N (gp Y p_0 8) 3) ≤ v_4 then
      some (v_3, N)
    else
      bd (f_X8_holds Y p_0 v_1 v_4 N) fun r6 =>
      if r6 = 0 then
        f_X8_release_49 Y D9 p_0 v_1 v_2 v_3 (v_4 + 1) N
      else
        bd (f_X8_ofRequest Y p_0 v_4 0 N) fun r9 =>
        if r9 = v_2 then
          bd (f_X8_assign Y p_0 v_4 N) fun N12 =>
          f_X8_release_49 Y D9 p_0 v_1 v_2 (v_3 + 1) (v_4 + 1) N12
        else
          f_X8_release_49 Y D9 p_0 v_1 v_2 v_3 (v_4 + 1) N
def f_X8_release (Y : XY) (a0 : Nat) (a1 : Int32) (a2 : Int32) (N : XN) : Option (Int32 × XN) :=
  lt (si N a0 0 0) fun N1 =>
  bd2 (f_X8_noHandler Y a0 a1 N1) fun r3 N4 =>
  if r3 = 0 then
    bd2 (f_X8_noLine Y a0 a2 N4) fun r7 N8 =>
    if r7 = 0 then
      bd (f_X8_remember Y a0 N8) fun N11 =>
      bd (f_X8_isTenant Y a0 a1 a2 N11) fun r13 =>
      if r13 = 0 then
        some ((-1), N11)
      else
        bd (f_X8_leave Y a0 a1 a2 N11) fun N16 =>
        f_X8_release_49 Y FU a0 a1 a2 0 0 N16
    else
      some (0, N8)
  else
    some (0, N4)
def f_X8_fund (Y : XY) (a0 : Nat) (a1 : Int32) (a2 : Int32) (N : XN) : Option (Int32 × XN) :=
  lt (si N a0 0 0) fun N1 =>
  bd2 (f_X8_noHandler Y a0 a1 N1) fun r3 N4 =>
  if r3 = 0 then
    bd2 (f_X8_noNumber Y a0 a2 1 9999 N4) fun r7 N8 =>
    if r7 = 0 then
      bd (f_X8_remember Y a0 N8) fun N11 =>
      if xb ((f_X8_handlerAt Y a1 N11) + 0) 1784 then
        if xb ((f_X8_handlerAt Y a1 N11) + 0) 1784 then
          lt (si N11 (gp Y a0 8) (((f_X8_handlerAt Y a1 N11) + 0).toNatClampNeg) ((gi N11 (gp Y a0 8) ((f_X8_handlerAt Y a1 N11) + 0).toNatClampNeg) + a2)) fun N17 =>
          if xb ((f_X8_handlerAt Y a1 N17) + 2) 1784 then
            lt (si N17 (gp Y a0 8) (((f_X8_handlerAt Y a1 N17) + 2).toNatClampNeg) 0) fun N19 =>
            bd (f_X8_ofHandler Y a0 a1 0 N19) fun r21 =>
            some (r21, N19)
          else none
        else none
      else none
    else
      some (0, N8)
  else
    some (0, N4)
def f_X8_undo (Y : XY) (a0 : Nat) (N : XN) : Option (Int32 × XN) :=
  lt (si N a0 0 0) fun N1 =>
  if (gi N1 a0 13) = 0 then
    some ((-1), N1)
  else
    lt (si N1 a0 13 ((gi N1 a0 13) - 1)) fun N3 =>
    if xb (gi N3 a0 13) 8 then
      bd (f_X8_copy Y (gp Y (gp Y a0 12) (gi N3 a0 13).toNatClampNeg) (gp Y a0 8) 1784 N3) fun N15 =>
      some (gi N15 a0 13, N15)
    else none
def f_X8_checksum_183 (Y : XY) (k170 : Nat → Int64 → Int32 → XN → Option (Int64 × XN)) : Nat → Nat → Int64 → Int32 → Int32 → XN → Option (Int64 × XN)
  | 0, _, _, _, _, _ => none
  | D9 + 1, p_0, w_1, v_3, v_4, N =>
    if 7 ≤ v_4 then
      k170 p_0 w_1 (v_3 + 1) N
    else
      bd (f_X8_ofRequest Y p_0 v_3 v_4 N) fun r3 =>
      lt ((31 * w_1) + (Int32.toInt64 r3)) fun w4 =>
      f_X8_checksum_183 Y k170 D9 p_0 w4 v_3 (v_4 + 1) N
def f_X8_checksum_170 (Y : XY) : Nat → Nat → Int64 → Int32 → XN → Option (Int64 × XN)
  | 0, _, _, _, _ => none
  | D9 + 1, p_0, w_1, v_3, N =>
    if (gi N (gp Y p_0 8) 3) ≤ v_3 then
      some (w_1, N)
    else
      f_X8_checksum_183 Y (f_X8_checksum_170 Y D9) FU p_0 w_1 v_3 0 N
def f_X8_checksum_128 (Y : XY) (k85 : Nat → Int64 → Int32 → XN → Option (Int64 × XN)) : Nat → Nat → Int64 → Int32 → Int32 → XN → Option (Int64 × XN)
  | 0, _, _, _, _, _ => none
  | D9 + 1, p_0, w_1, v_3, v_4, N =>
    bd (f_X8_ofLine Y p_0 v_3 3 N) fun r2 =>
    if r2 ≤ v_4 then
      k85 p_0 w_1 (v_3 + 1) N
    else
      bd (f_X8_ofLine Y p_0 v_3 (4 + v_4) N) fun r5 =>
      lt ((31 * w_1) + (Int32.toInt64 r5)) fun w6 =>
      f_X8_checksum_128 Y k85 D9 p_0 w6 v_3 (v_4 + 1) N
def f_X8_checksum_98 (Y : XY) (k85 : Nat → Int64 → Int32 → XN → Option (Int64 × XN)) : Nat → Nat → Int64 → Int32 → Int32 → XN → Option (Int64 × XN)
  | 0, _, _, _, _, _ => none
  | D9 + 1, p_0, w_1, v_3, v_4, N =>
    if 5 ≤ v_4 then
      f_X8_checksum_128 Y k85 FU p_0 w_1 v_3 0 N
    else
      bd (f_X8_toldLine Y p_0 v_3 v_4 N) fun r3 =>
      lt ((31 * w_1) + (Int32.toInt64 r3)) fun w4 =>
      f_X8_checksum_98 Y k85 D9 p_0 w4 v_3 (v_4 + 1) N
def f_X8_checksum_85 (Y : XY) : Nat → Nat → Int64 → Int32 → XN → Option (Int64 × XN)
  | 0, _, _, _, _ => none
  | D9 + 1, p_0, w_1, v_3, N =>
    if (gi N (gp Y p_0 8) 2) ≤ v_3 then
      f_X8_checksum_170 Y FU p_0 w_1 0 N
    else
      f_X8_checksum_98 Y (f_X8_checksum_85 Y D9) FU p_0 w_1 v_3 0 N
def f_X8_checksum_49 (Y : XY) (k36 : Nat → Int64 → Int32 → XN → Option (Int64 × XN)) : Nat → Nat → Int64 → Int32 → Int32 → XN → Option (Int64 × XN)
  | 0, _, _, _, _, _ => none
  | D9 + 1, p_0, w_1, v_3, v_4, N =>
    if 8 ≤ v_4 then
      k36 p_0 w_1 (v_3 + 1) N
    else
      bd (f_X8_toldHandler Y p_0 v_3 v_4 N) fun r3 =>
      lt ((31 * w_1) + (Int32.toInt64 r3)) fun w4 =>
      f_X8_checksum_49 Y k36 D9 p_0 w4 v_3 (v_4 + 1) N
def f_X8_checksum_36 (Y : XY) : Nat → Nat → Int64 → Int32 → XN → Option (Int64 × XN)
  | 0, _, _, _, _ => none
  | D9 + 1, p_0, w_1, v_3, N =>
    if (gi N (gp Y p_0 8) 1) ≤ v_3 then
      f_X8_checksum_85 Y FU p_0 w_1 0 N
    else
      f_X8_checksum_49 Y (f_X8_checksum_36 Y D9) FU p_0 w_1 v_3 0 N
def f_X8_checksum_9 (Y : XY) : Nat → Nat → Int64 → Int32 → XN → Option (Int64 × XN)
  | 0, _, _, _, _ => none
  | D9 + 1, p_0, w_1, v_3, N =>
    if 10 ≤ v_3 then
      f_X8_checksum_36 Y FU p_0 w_1 0 N
    else
      bd (f_X8_told Y p_0 v_3 N) fun r3 =>
      lt ((31 * w_1) + (Int32.toInt64 r3)) fun w4 =>
      f_X8_checksum_9 Y D9 p_0 w4 (v_3 + 1) N
def f_X8_checksum (Y : XY) (a0 : Nat) (N : XN) : Option (Int64 × XN) :=
  lt (si N a0 0 0) fun N1 =>
  f_X8_checksum_9 Y FU a0 0 0 N1
