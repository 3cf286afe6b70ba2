def f_X4_kind (Y : XY) (a0 : Nat) (N : XN) : Option Int32 :=
  if (gi N (gp Y a0 2) 3) ≤ (gi N a0 4) then
    some 0
  else
    if xb (gi N a0 4) 701 then
      some (gi N (gp Y (gp Y a0 2) 0) (gi N a0 4).toNatClampNeg)
    else none
def f_X4_fails (Y : XY) (a0 : Nat) (a1 : Int32) (N : XN) : Option (Int32 × XN) :=
  lt (si N a0 0 a1) fun N1 =>
  if (gi N1 (gp Y a0 2) 3) ≤ (gi N1 a0 4) then
    lt (si N1 a0 1 0) fun N5 =>
    some (0, N5)
  else
    if xb (gi N1 a0 4) 701 then
      lt (si N1 a0 1 (gi N1 (gp Y (gp Y a0 2) 1) (gi N1 a0 4).toNatClampNeg)) fun N10 =>
      some (0, N10)
    else none
def f_X4_takes (Y : XY) (a0 : Nat) (a1 : Int32) (N : XN) : Option (Int32 × XN) :=
  bd (f_X4_kind Y a0 N) fun r2 =>
  if r2 = a1 then
    lt (si N a0 4 ((gi N a0 4) + 1)) fun N4 =>
    some (1, N4)
  else
    bd2 (f_X4_fails Y a0 (-2) N) fun r6 N7 =>
    if xz r6 then
      some (r6, N7)
    else none
def f_X4_readsNumber (Y : XY) (a0 : Nat) (a1 : Int32) (a2 : Int32) (N : XN) : Option (Int32 × XN) :=
  bd (f_X4_kind Y a0 N) fun r2 =>
  if r2 = 2 then
    if (gi N a0 4) < (gi N (gp Y a0 2) 3) then
      if xb (gi N a0 4) 701 then
        lt (si N a0 5 (gi N (gp Y (gp Y a0 2) 2) (gi N a0 4).toNatClampNeg)) fun N11 =>
        if (gi N11 a0 5) < a1 then
          bd2 (f_X4_fails Y a0 (-3) N11) fun r14 N15 =>
          if xz r14 then
            some (r14, N15)
          else none
        else
          if (gi N11 a0 5) ≤ a2 then
            lt (si N11 a0 4 ((gi N11 a0 4) + 1)) fun N18 =>
            some (1, N18)
          else
            bd2 (f_X4_fails Y a0 (-3) N11) fun r20 N21 =>
            if xz r20 then
              some (r20, N21)
            else none
      else none
    else
      bd2 (f_X4_fails Y a0 (-2) N) fun r24 N25 =>
      if xz r24 then
        some (r24, N25)
      else none
  else
    bd2 (f_X4_fails Y a0 (-2) N) fun r28 N29 =>
    if xz r28 then
      some (r28, N29)
    else none
def f_X4_readsHandler (Y : XY) (a0 : Nat) (N : XN) : Option (Int32 × XN) :=
  if (gi N (gp Y a0 3) 1) < 6 then
    lt (si N a0 4 ((gi N a0 4) + 1)) fun N4 =>
    bd2 (f_X4_readsNumber Y a0 0 9999 N4) fun r6 N7 =>
    if r6 = 0 then
      some (0, N7)
    else
      bd2 (f_X4_readsNumber Y a0 1 20 N7) fun r10 N11 =>
      if r10 = 0 then
        some (0, N11)
      else
        bd (f_X6_addHandler Y (gp Y a0 3) (gi N7 a0 5) (gi N11 a0 5) N11) fun N14 =>
        some (1, N14)
  else
    bd2 (f_X4_fails Y a0 (-5) N) fun r16 N17 =>
    if xz r16 then
      some (r16, N17)
    else none
def f_X4_readsTenant (Y : XY) (a0 : Nat) (a1 : Nat) (N : XN) : Option (Int32 × XN) :=
  bd2 (f_X4_readsNumber Y a0 0 ((gi N (gp Y a0 3) 1) - 1) N) fun r4 N5 =>
  if r4 = 0 then
    some (0, N5)
  else
    bd (f_X2_placeOf Y a1 (gi N5 a0 5) N5) fun r8 =>
    if r8 < 0 then
      if (gi N5 a1 4) < 3 then
        bd (f_X2_addTenant Y a1 (gi N5 a0 5) N5) fun N12 =>
        some (1, N12)
      else
        lt (si N5 a0 4 (gi N a0 4)) fun N13 =>
        bd2 (f_X4_fails Y a0 (-5) N13) fun r15 N16 =>
        if xz r15 then
          some (r15, N16)
        else none
    else
      lt (si N5 a0 4 (gi N a0 4)) fun N18 =>
      bd2 (f_X4_fails Y a0 (-4) N18) fun r20 N21 =>
      if xz r20 then
        some (r20, N21)
      else none
def f_X4_readsLine_111 (Y : XY) : Nat → Nat → Nat → Int32 → Int32 → XN → Option (Int32 × XN)
  | 0, _, _, _, _, _ => none
  | D9 + 1, p_0, p_3, v_4, v_5, N =>
    if 700 ≤ v_5 then
      if xz v_4 then
        some (v_4, N)
      else none
    else
      if v_4 = 0 then
        if xz v_4 then
          some (v_4, N)
        else none
      else
        bd (f_X4_kind Y p_0 N) fun r6 =>
        if r6 = 2 then
          bd2 (f_X4_readsTenant Y p_0 p_3 N) fun r9 N10 =>
          f_X4_readsLine_111 Y D9 p_0 p_3 r9 (v_5 + 1) N10
        else
          if xz v_4 then
            some (v_4, N)
          else none
def f_X4_readsLine (Y : XY) (a0 : Nat) (N : XN) : Option (Int32 × XN) :=
  if (gi N (gp Y a0 3) 3) < 8 then
    lt (si N a0 4 ((gi N a0 4) + 1)) fun N4 =>
    bd2 (f_X4_readsNumber Y a0 0 99 N4) fun r6 N7 =>
    if r6 = 0 then
      some (0, N7)
    else
      bd2 (f_X4_readsNumber Y a0 1 20 N7) fun r10 N11 =>
      if r10 = 0 then
        some (0, N11)
      else
        bd2 (f_X4_readsNumber Y a0 0 9999 N11) fun r14 N15 =>
        if r14 = 0 then
          some (0, N15)
        else
          if xb (gi N15 (gp Y a0 3) 3) 8 then
            lt (gp Y (gp Y (gp Y a0 3) 2) (gi N15 (gp Y a0 3) 3).toNatClampNeg) fun p23 =>
            bd (f_X6_addLine Y (gp Y a0 3) (gi N7 a0 5) (gi N11 a0 5) (gi N15 a0 5) N15) fun N26 =>
            f_X4_readsLine_111 Y FU a0 p23 1 0 N26
          else none
  else
    bd2 (f_X4_fails Y a0 (-5) N) fun r28 N29 =>
    if xz r28 then
      some (r28, N29)
    else none
def f_X4_readsRaise (Y : XY) (a0 : Nat) (N : XN) : Option (Int32 × XN) :=
  if (gi N (gp Y a0 3) 5) < 60 then
    lt (si N a0 4 ((gi N a0 4) + 1)) fun N4 =>
    bd2 (f_X4_readsNumber Y a0 0 ((gi N4 (gp Y a0 3) 3) - 1) N4) fun r6 N7 =>
    if r6 = 0 then
      some (0, N7)
    else
      bd2 (f_X4_readsNumber Y a0 0 999 N7) fun r10 N11 =>
      if r10 = 0 then
        some (0, N11)
      else
        bd2 (f_X4_readsNumber Y a0 1 99 N11) fun r14 N15 =>
        if r14 = 0 then
          some (0, N15)
        else
          bd (f_X6_addRequest Y (gp Y a0 3) (gi N7 a0 5) (gi N11 a0 5) (gi N15 a0 5) N15) fun N18 =>
          some (1, N18)
  else
    bd2 (f_X4_fails Y a0 (-5) N) fun r20 N21 =>
    if xz r20 then
      some (r20, N21)
    else none
def f_X4_beginsOnce (Y : XY) (a0 : Nat) (a1 : Int32) (N : XN) : Option (Int32 × XN) :=
  if ((gi N a0 6) &&& (1 <<< (a1 &&& 31))) = 0 then
    lt (si N a0 6 ((gi N a0 6) ||| (1 <<< (a1 &&& 31)))) fun N2 =>
    lt (si N2 a0 4 ((gi N2 a0 4) + 1)) fun N3 =>
    some (1, N3)
  else
    bd2 (f_X4_fails Y a0 (-2) N) fun r5 N6 =>
    if xz r5 then
      some (r5, N6)
    else none
def f_X4_readsRule (Y : XY) (a0 : Nat) (a1 : Int32) (N : XN) : Option (Int32 × XN) :=
  if a1 = 16 then
    if a1 = 16 then
      bd2 (f_X4_readsNumber Y a0 0 999 N) fun r4 N5 =>
      if r4 = 0 then
        some (0, N5)
      else
        if a1 = 14 then
          lt (si N5 (gp Y a0 3) 8 (gi N5 a0 5)) fun N10 =>
          some (1, N10)
        else
          if a1 = 15 then
            lt (si N5 (gp Y a0 3) 9 (gi N5 a0 5)) fun N14 =>
            some (1, N14)
          else
            if a1 = 16 then
              lt (si N5 (gp Y a0 3) 10 (gi N5 a0 5)) fun N18 =>
              some (1, N18)
            else
              if a1 = 17 then
                lt (si N5 (gp Y a0 3) 11 (gi N5 a0 5)) fun N22 =>
                some (1, N22)
              else
                lt (si N5 (gp Y a0 3) 12 (gi N5 a0 5)) fun N25 =>
                some (1, N25)
    else
      bd2 (f_X4_readsNumber Y a0 0 99 N) fun r27 N28 =>
      if r27 = 0 then
        some (0, N28)
      else
        if a1 = 14 then
          lt (si N28 (gp Y a0 3) 8 (gi N28 a0 5)) fun N33 =>
          some (1, N33)
        else
          if a1 = 15 then
            lt (si N28 (gp Y a0 3) 9 (gi N28 a0 5)) fun N37 =>
            some (1, N37)
          else
            if a1 = 16 then
              lt (si N28 (gp Y a0 3) 10 (gi N28 a0 5)) fun N41 =>
              some (1, N41)
            else
              if a1 = 17 then
                lt (si N28 (gp Y a0 3) 11 (gi N28 a0 5)) fun N45 =>
                some (1, N45)
              else
                lt (si N28 (gp Y a0 3) 12 (gi N28 a0 5)) fun N48 =>
                some (1, N48)
  else
    if a1 = 18 then
      if a1 = 16 then
        bd2 (f_X4_readsNumber Y a0 0 999 N) fun r52 N53 =>
        if r52 = 0 then
          some (0, N53)
        else
          if a1 = 14 then
            lt (si N53 (gp Y a0 3) 8 (gi N53 a0 5)) fun N58 =>
            some (1, N58)
          else
            if a1 = 15 then
              lt (si N53 (gp Y a0 3) 9 (gi N53 a0 5)) fun N62 =>
              some (1, N62)
            else
              if a1 = 16 then
                lt (si N53 (gp Y a0 3) 10 (gi N53 a0 5)) fun N66 =>
                some (1, N66)
              else
                if a1 = 17 then
                  lt (si N53 (gp Y a0 3) 11 (gi N53 a0 5)) fun N70 =>
                  some (1, N70)
                else
                  lt (si N53 (gp Y a0 3) 12 (gi N53 a0 5)) fun N73 =>
                  some (1, N73)
      else
        bd2 (f_X4_readsNumber Y a0 0 99 N) fun r75 N76 =>
        if r75 = 0 then
          some (0, N76)
        else
          if a1 = 14 then
            lt (si N76 (gp Y a0 3) 8 (gi N76 a0 5)) fun N81 =>
            some (1, N81)
          else
            if a1 = 15 then
              lt (si N76 (gp Y a0 3) 9 (gi N76 a0 5)) fun N85 =>
              some (1, N85)
            else
              if a1 = 16 then
                lt (si N76 (gp Y a0 3) 10 (gi N76 a0 5)) fun N89 =>
                some (1, N89)
              else
                if a1 = 17 then
                  lt (si N76 (gp Y a0 3) 11 (gi N76 a0 5)) fun N93 =>
                  some (1, N93)
                else
                  lt (si N76 (gp Y a0 3) 12 (gi N76 a0 5)) fun N96 =>
                  some (1, N96)
    else
      if a1 = 16 then
        bd2 (f_X4_readsNumber Y a0 1 999 N) fun r99 N100 =>
        if r99 = 0 then
          some (0, N100)
        else
          if a1 = 14 then
            lt (si N100 (gp Y a0 3) 8 (gi N100 a0 5)) fun N105 =>
            some (1, N105)
          else
            if a1 = 15 then
              lt (si N100 (gp Y a0 3) 9 (gi N100 a0 5)) fun N109 =>
              some (1, N109)
            else
              if a1 = 16 then
                lt (si N100 (gp Y a0 3) 10 (gi N100 a0 5)) fun N113 =>
                some (1, N113)
              else
                if a1 = 17 then
                  lt (si N100 (gp Y a0 3) 11 (gi N100 a0 5)) fun N117 =>
                  some (1, N117)
                else
                  lt (si N100 (gp Y a0 3) 12 (gi N100 a0 5)) fun N120 =>
                  some (1, N120)
      else
        bd2 (f_X4_readsNumber Y a0 1 99 N) fun r122 N123 =>
        if r122 = 0 then
          some (0, N123)
        else
          if a1 = 14 then
            lt (si N123 (gp Y a0 3) 8 (gi N123 a0 5)) fun N128 =>
            some (1, N128)
          else
            if a1 = 15 then
              lt (si N123 (gp Y a0 3) 9 (gi N123 a0 5)) fun N132 =>
              some (1, N132)
            else
              if a1 = 16 then
                lt (si N123 (gp Y a0 3) 10 (gi N123 a0 5)) fun N136 =>
                some (1, N136)
              else
                if a1 = 17 then
                  lt (si N123 (gp Y a0 3) 11 (gi N123 a0 5)) fun N140 =>
                  some (1, N140)
                else
                  lt (si N123 (gp Y a0 3) 12 (gi N123 a0 5)) fun N143 =>
                  some (1, N143)
def f_X4_readsSum_8 (Y : XY) (rc : Nat → Nat → Int32 → XN → Option (Int32 × XN)) : Nat → Nat → Int32 → Int32 → Int32 → XN → Option (Int32 × XN)
  | 0, _, _, _, _, _ => none
  | D9 + 1, p_0, v_1, v_2, v_3, N =>
    if 700 ≤ v_3 then
      if xz v_2 then
        some (v_2, N)
      else none
    else
      if v_2 = 0 then
        if xz v_2 then
          some (v_2, N)
        else none
      else
        bd (f_X4_kind Y p_0 N) fun r6 =>
        if r6 = 6 then
          bd (f_X4_kind Y p_0 N) fun r9 =>
          lt (si N p_0 4 ((gi N p_0 4) + 1)) fun N10 =>
          bd2 (rc 1 p_0 v_1 N10) fun r12 N13 =>
          bd (f_X0_addStep Y (gp Y (gp Y p_0 3) 13) (-r9) N13) fun N19 =>
          f_X4_readsSum_8 Y rc D9 p_0 v_1 r12 (v_3 + 1) N19
        else
          bd (f_X4_kind Y p_0 N) fun r21 =>
          if r21 = 7 then
            bd (f_X4_kind Y p_0 N) fun r24 =>
            lt (si N p_0 4 ((gi N p_0 4) + 1)) fun N25 =>
            bd2 (rc 1 p_0 v_1 N25) fun r27 N28 =>
            bd (f_X0_addStep Y (gp Y (gp Y p_0 3) 13) (-r24) N28) fun N34 =>
            f_X4_readsSum_8 Y rc D9 p_0 v_1 r27 (v_3 + 1) N34
          else
            if xz v_2 then
              some (v_2, N)
            else none
def b_X4_readsSum (Y : XY) (rc : Nat → Nat → Int32 → XN → Option (Int32 × XN)) (a0 : Nat) (a1 : Int32) (N : XN) : Option (Int32 × XN) :=
  bd2 (rc 1 a0 a1 N) fun r2 N3 =>
  f_X4_readsSum_8 Y rc FU a0 a1 r2 0 N3
def f_X4_readsTerm_8 (Y : XY) (rc : Nat → Nat → Int32 → XN → Option (Int32 × XN)) : Nat → Nat → Int32 → Int32 → Int32 → XN → Option (Int32 × XN)
  | 0, _, _, _, _, _ => none
  | D9 + 1, p_0, v_1, v_2, v_3, N =>
    if 700 ≤ v_3 then
      if xz v_2 then
        some (v_2, N)
      else none
    else
      if v_2 = 0 then
        if xz v_2 then
          some (v_2, N)
        else none
      else
        bd (f_X4_kind Y p_0 N) fun r6 =>
        if r6 = 8 then
          bd (f_X4_kind Y p_0 N) fun r9 =>
          lt (si N p_0 4 ((gi N p_0 4) + 1)) fun N10 =>
          bd2 (rc 2 p_0 v_1 N10) fun r12 N13 =>
          bd (f_X0_addStep Y (gp Y (gp Y p_0 3) 13) (-r9) N13) fun N19 =>
          f_X4_readsTerm_8 Y rc D9 p_0 v_1 r12 (v_3 + 1) N19
        else
          bd (f_X4_kind Y p_0 N) fun r21 =>
          if r21 = 9 then
            bd (f_X4_kind Y p_0 N) fun r24 =>
            lt (si N p_0 4 ((gi N p_0 4) + 1)) fun N25 =>
            bd2 (rc 2 p_0 v_1 N25) fun r27 N28 =>
            bd (f_X0_addStep Y (gp Y (gp Y p_0 3) 13) (-r24) N28) fun N34 =>
            f_X4_readsTerm_8 Y rc D9 p_0 v_1 r27 (v_3 + 1) N34
          else
            if xz v_2 then
              some (v_2, N)
            else none
def b_X4_readsTerm (Y : XY) (rc : Nat → Nat → Int32 → XN → Option (Int32 × XN)) (a0 : Nat) (a1 : Int32) (N : XN) : Option (Int32 × XN) :=
  bd2 (rc 2 a0 a1 N) fun r2 N3 =>
  f_X4_readsTerm_8 Y rc FU a0 a1 r2 0 N3
def b_X4_readsFactor (Y : XY) (rc : Nat → Nat → Int32 → XN → Option (Int32 × XN)) (a0 : Nat) (a1 : Int32) (N : XN) : Option (Int32 × XN) :=
  bd (f_X4_kind Y a0 N) fun r2 =>
  if r2 = 2 then
    bd2 (f_X4_readsNumber Y a0 0 9999 N) fun r5 N6 =>
    if r5 = 0 then
      some (0, N6)
    else
      bd (f_X0_addStep Y (gp Y (gp Y a0 3) 13) (gi N6 a0 5) N6) fun N13 =>
      some (1, N13)
  else
    if r2 = 4 then
      if a1 < 4 then
        lt (si N a0 4 ((gi N a0 4) + 1)) fun N16 =>
        bd2 (rc 0 a0 (a1 + 1) N16) fun r18 N19 =>
        if r18 = 0 then
          some (0, N19)
        else
          bd2 (f_X4_takes Y a0 5 N19) fun r22 N23 =>
          if r22 = 0 then
            some (0, N23)
          else
            some (1, N23)
      else
        bd2 (f_X4_fails Y a0 (-6) N) fun r26 N27 =>
        if xz r26 then
          some (r26, N27)
        else none
    else
      if r2 = 12 then
        bd (f_X0_addStep Y (gp Y (gp Y a0 3) 13) (-r2) N) fun N35 =>
        lt (si N35 a0 4 ((gi N35 a0 4) + 1)) fun N36 =>
        some (1, N36)
      else
        if r2 = 20 then
          bd (f_X0_addStep Y (gp Y (gp Y a0 3) 13) (-r2) N) fun N43 =>
          lt (si N43 a0 4 ((gi N43 a0 4) + 1)) fun N44 =>
          some (1, N44)
        else
          if r2 = 21 then
            bd (f_X0_addStep Y (gp Y (gp Y a0 3) 13) (-r2) N) fun N51 =>
            lt (si N51 a0 4 ((gi N51 a0 4) + 1)) fun N52 =>
            some (1, N52)
          else
            if r2 = 22 then
              bd (f_X0_addStep Y (gp Y (gp Y a0 3) 13) (-r2) N) fun N59 =>
              lt (si N59 a0 4 ((gi N59 a0 4) + 1)) fun N60 =>
              some (1, N60)
            else
              bd2 (f_X4_fails Y a0 (-2) N) fun r62 N63 =>
              if xz r62 then
                some (r62, N63)
              else none
def f_X4_S (Y : XY) : Nat → Nat → Nat → Int32 → XN → Option (Int32 × XN)
  | 0, _, _, _, _ => none
  | D + 1, t, a0, a1, N => if t = 0 then b_X4_readsSum Y (f_X4_S Y D) a0 a1 N else if t = 1 then b_X4_readsTerm Y (f_X4_S Y D) a0 a1 N else b_X4_readsFactor Y (f_X4_S Y D) a0 a1 N
def f_X4_readsStatement (Y : XY) (a0 : Nat) (N : XN) : Option (Int32 × XN) :=
  bd (f_X4_kind Y a0 N) fun r2 =>
  if r2 = 11 then
    bd2 (f_X4_readsHandler Y a0 N) fun r5 N6 =>
    if xz r5 then
      some (r5, N6)
    else none
  else
    if r2 = 12 then
      bd2 (f_X4_readsLine Y a0 N) fun r10 N11 =>
      if xz r10 then
        some (r10, N11)
      else none
    else
      if r2 = 13 then
        bd2 (f_X4_readsRaise Y a0 N) fun r15 N16 =>
        if xz r15 then
          some (r15, N16)
        else none
      else
        if r2 = 14 then
          bd2 (f_X4_beginsOnce Y a0 r2 N) fun r20 N21 =>
          if r20 = 0 then
            some (0, N21)
          else
            bd2 (f_X4_readsRule Y a0 r2 N21) fun r24 N25 =>
            if r24 = 0 then
              some (0, N25)
            else
              some (1, N25)
        else
          if r2 = 15 then
            bd2 (f_X4_beginsOnce Y a0 r2 N) fun r29 N30 =>
            if r29 = 0 then
              some (0, N30)
            else
              bd2 (f_X4_readsRule Y a0 r2 N30) fun r33 N34 =>
              if r33 = 0 then
                some (0, N34)
              else
                some (1, N34)
          else
            if r2 = 16 then
              bd2 (f_X4_beginsOnce Y a0 r2 N) fun r38 N39 =>
              if r38 = 0 then
                some (0, N39)
              else
                bd2 (f_X4_readsRule Y a0 r2 N39) fun r42 N43 =>
                if r42 = 0 then
                  some (0, N43)
                else
                  some (1, N43)
            else
              if r2 = 17 then
                bd2 (f_X4_beginsOnce Y a0 r2 N) fun r47 N48 =>
                if r47 = 0 then
                  some (0, N48)
                else
                  bd2 (f_X4_readsRule Y a0 r2 N48) fun r51 N52 =>
                  if r51 = 0 then
                    some (0, N52)
                  else
                    some (1, N52)
              else
                if r2 = 18 then
                  bd2 (f_X4_beginsOnce Y a0 r2 N) fun r56 N57 =>
                  if r56 = 0 then
                    some (0, N57)
                  else
                    bd2 (f_X4_readsRule Y a0 r2 N57) fun r60 N61 =>
                    if r60 = 0 then
                      some (0, N61)
                    else
                      some (1, N61)
                else
                  if r2 = 19 then
                    bd2 (f_X4_beginsOnce Y a0 r2 N) fun r65 N66 =>
                    if r65 = 0 then
                      some (0, N66)
                    else
                      bd2 (f_X4_S Y 24 0 a0 0 N66) fun r69 N70 =>
                      if r69 = 0 then
                        some (0, N70)
                      else
                        some (1, N70)
                  else
                    bd2 (f_X4_fails Y a0 (-2) N) fun r73 N74 =>
                    if xz r73 then
                      some (r73, N74)
                    else none
def f_X5_endOfRun_5 (Y : XY) : Nat → Nat → Int32 → Int32 → Int32 → Int32 → XN → Option Int32
  | 0, _, _, _, _, _, _ => none
  | D9 + 1, p_0, v_1, v_3, v_4, v_5, N =>
    if v_1 ≤ v_5 then
      some v_5
    else
      if (Int32.ofNat (kn Y p_0)) ≤ v_5 then
        some v_5
      else
        if xb v_5 (kn Y p_0) then
          if (gi N p_0 v_5.toNatClampNeg) < v_3 then
            some v_5
          else
            if xb v_5 (kn Y p_0) then
              if v_4 < (gi N p_0 v_5.toNatClampNeg) then
                some v_5
              else
                f_X5_endOfRun_5 Y D9 p_0 v_1 v_3 v_4 (v_5 + 1) N
            else none
        else none
def f_X5_endOfRun (Y : XY) (a0 : Nat) (a1 : Int32) (a2 : Int32) (a3 : Int32) (a4 : Int32) (N : XN) : Option Int32 :=
  f_X5_endOfRun_5 Y FU a0 a1 a3 a4 (a2 + 1) N
def f_X5_spelling (Y : XY) (a0 : Int32) (N : XN) : Nat :=
  if a0 = 10 then
    0
  else
    if a0 = 11 then
      1
    else
      if a0 = 12 then
        2
      else
        if a0 = 13 then
          3
        else
          if a0 = 14 then
            4
          else
            if a0 = 15 then
              5
            else
              if a0 = 16 then
                6
              else
                if a0 = 17 then
                  7
                else
                  if a0 = 18 then
                    8
                  else
                    if a0 = 19 then
                      9
                    else
                      if a0 = 20 then
                        10
                      else
                        if a0 = 21 then
                          11
                        else
                          12
def f_X5_isWord_15 (Y : XY) : Nat → Nat → Int32 → Nat → Int32 → XN → Option Int32
  | 0, _, _, _, _, _ => none
  | D9 + 1, p_0, v_1, t_3, v_4, N =>
    if t_3 < 13 then
      if (nI (xWo t_3).length) ≤ v_4 then
        some 1
      else
        if xb (v_1 + v_4) (kn Y p_0) then
          if t_3 < 13 ∧ xb v_4 (xWo t_3).length then
            if (gi N p_0 (v_1 + v_4).toNatClampNeg) = ((xWo t_3).getD v_4.toNatClampNeg 0) then
              f_X5_isWord_15 Y D9 p_0 v_1 t_3 (v_4 + 1) N
            else
              some 0
          else none
        else none
    else none
def f_X5_isWord (Y : XY) (a0 : Nat) (a1 : Int32) (a2 : Int32) (a3 : Nat) (N : XN) : Option Int32 :=
  if a3 < 13 then
    if (a2 - a1) = (nI (xWo a3).length) then
      f_X5_isWord_15 Y FU a0 a1 a3 0 N
    else
      some 0
  else none
def f_X5_wordKind_3 (Y : XY) : Nat → Nat → Int32 → Int32 → Int32 → XN → Option Int32
  | 0, _, _, _, _, _ => none
  | D9 + 1, p_0, v_1, v_2, v_3, N =>
    if 23 ≤ v_3 then
      some 23
    else
      bd (f_X5_isWord Y p_0 v_1 v_2 (f_X5_spelling Y v_3 N) N) fun r3 =>
      if r3 = 0 then
        f_X5_wordKind_3 Y D9 p_0 v_1 v_2 (v_3 + 1) N
      else
        some v_3
def f_X5_wordKind (Y : XY) (a0 : Nat) (a1 : Int32) (a2 : Int32) (N : XN) : Option Int32 :=
  f_X5_wordKind_3 Y FU a0 a1 a2 10 N
def f_X5_addToken (Y : XY) (a0 : Nat) (a1 : Int32) (a2 : Int32) (a3 : Int32) (N : XN) : Option XN :=
  if 701 ≤ (gi N a0 3) then
    some N
  else
    if xb (gi N a0 3) 701 then
      lt (si N (gp Y a0 0) ((gi N a0 3).toNatClampNeg) a1) fun N6 =>
      if xb (gi N6 a0 3) 701 then
        lt (si N6 (gp Y a0 1) ((gi N6 a0 3).toNatClampNeg) a2) fun N11 =>
        if xb (gi N11 a0 3) 701 then
          lt (si N11 (gp Y a0 2) ((gi N11 a0 3).toNatClampNeg) a3) fun N16 =>
          lt (si N16 a0 3 ((gi N16 a0 3) + 1)) fun N17 =>
          some N17
        else none
      else none
    else none
def f_X5_numberIn_5 (Y : XY) : Nat → Nat → Int32 → Int32 → Int32 → XN → Option Int32
  | 0, _, _, _, _, _ => none
  | D9 + 1, p_0, v_2, v_3, v_4, N =>
    if v_2 ≤ v_4 then
      some v_3
    else
      if xb v_4 (kn Y p_0) then
        lt ((v_3 * 10) + ((gi N p_0 v_4.toNatClampNeg) - 48)) fun v3 =>
        if v3 ≤ 100000 then
          f_X5_numberIn_5 Y D9 p_0 v_2 v3 (v_4 + 1) N
        else
          f_X5_numberIn_5 Y D9 p_0 v_2 100000 (v_4 + 1) N
      else none
def f_X5_numberIn (Y : XY) (a0 : Nat) (a1 : Int32) (a2 : Int32) (N : XN) : Option Int32 :=
  f_X5_numberIn_5 Y FU a0 a2 0 a1 N
def f_X5_signKind (Y : XY) (a0 : Int32) (N : XN) : Int32 :=
  if a0 = 40 then
    4
  else
    if a0 = 41 then
      5
    else
      if a0 = 42 then
        8
      else
        if a0 = 43 then
          6
        else
          if a0 = 44 then
            1
          else
            if a0 = 45 then
              7
            else
              if a0 = 46 then
                1
              else
                if a0 = 47 then
                  9
                else
                  if a0 = 48 then
                    1
                  else
                    if a0 = 49 then
                      1
                    else
                      if a0 = 50 then
                        1
                      else
                        if a0 = 51 then
                          1
                        else
                          if a0 = 52 then
                            1
                          else
                            if a0 = 53 then
                              1
                            else
                              if a0 = 54 then
                                1
                              else
                                if a0 = 55 then
                                  1
                                else
                                  if a0 = 56 then
                                    1
                                  else
                                    if a0 = 57 then
                                      1
                                    else
                                      if a0 = 58 then
                                        1
                                      else
                                        if a0 = 59 then
                                          3
                                        else
                                          1
def f_X5_split_10 (Y : XY) : Nat → Nat → Nat → Int32 → Int32 → Int32 → XN → Option XN
  | 0, _, _, _, _, _, _ => none
  | D9 + 1, p_0, p_1, v_2, v_3, v_4, N =>
    if 700 ≤ v_4 then
      bd (f_X5_addToken Y p_0 0 v_2 0 N) fun N3 =>
      some N3
    else
      if v_2 ≤ v_3 then
        bd (f_X5_addToken Y p_0 0 v_2 0 N) fun N6 =>
        some N6
      else
        if (Int32.ofNat (kn Y p_1)) ≤ v_3 then
          bd (f_X5_addToken Y p_0 0 v_2 0 N) fun N9 =>
          some N9
        else
          if xb v_3 (kn Y p_1) then
            if (gi N p_1 v_3.toNatClampNeg) < 97 then
              if xb v_3 (kn Y p_1) then
                if (gi N p_1 v_3.toNatClampNeg) < 48 then
                  if xb v_3 (kn Y p_1) then
                    if (gi N p_1 v_3.toNatClampNeg) = 32 then
                      f_X5_split_10 Y D9 p_0 p_1 v_2 (v_3 + 1) (v_4 + 1) N
                    else
                      if xb v_3 (kn Y p_1) then
                        bd (f_X5_addToken Y p_0 (f_X5_signKind Y (gi N p_1 v_3.toNatClampNeg) N) v_3 0 N) fun N18 =>
                        f_X5_split_10 Y D9 p_0 p_1 v_2 (v_3 + 1) (v_4 + 1) N18
                      else none
                  else none
                else
                  if xb v_3 (kn Y p_1) then
                    if 57 < (gi N p_1 v_3.toNatClampNeg) then
                      if xb v_3 (kn Y p_1) then
                        if (gi N p_1 v_3.toNatClampNeg) = 32 then
                          f_X5_split_10 Y D9 p_0 p_1 v_2 (v_3 + 1) (v_4 + 1) N
                        else
                          if xb v_3 (kn Y p_1) then
                            bd (f_X5_addToken Y p_0 (f_X5_signKind Y (gi N p_1 v_3.toNatClampNeg) N) v_3 0 N) fun N25 =>
                            f_X5_split_10 Y D9 p_0 p_1 v_2 (v_3 + 1) (v_4 + 1) N25
                          else none
                      else none
                    else
                      bd (f_X5_endOfRun Y p_1 v_2 v_3 48 57 N) fun r27 =>
                      bd (f_X5_numberIn Y p_1 v_3 r27 N) fun r29 =>
                      bd (f_X5_addToken Y p_0 2 v_3 r29 N) fun N31 =>
                      f_X5_split_10 Y D9 p_0 p_1 v_2 r27 (v_4 + 1) N31
                  else none
              else none
            else
              if xb v_3 (kn Y p_1) then
                if 122 < (gi N p_1 v_3.toNatClampNeg) then
                  if xb v_3 (kn Y p_1) then
                    if (gi N p_1 v_3.toNatClampNeg) < 48 then
                      if xb v_3 (kn Y p_1) then
                        if (gi N p_1 v_3.toNatClampNeg) = 32 then
                          f_X5_split_10 Y D9 p_0 p_1 v_2 (v_3 + 1) (v_4 + 1) N
                        else
                          if xb v_3 (kn Y p_1) then
                            bd (f_X5_addToken Y p_0 (f_X5_signKind Y (gi N p_1 v_3.toNatClampNeg) N) v_3 0 N) fun N40 =>
                            f_X5_split_10 Y D9 p_0 p_1 v_2 (v_3 + 1) (v_4 + 1) N40
                          else none
                      else none
                    else
                      if xb v_3 (kn Y p_1) then
                        if 57 < (gi N p_1 v_3.toNatClampNeg) then
                          if xb v_3 (kn Y p_1) then
                            if (gi N p_1 v_3.toNatClampNeg) = 32 then
                              f_X5_split_10 Y D9 p_0 p_1 v_2 (v_3 + 1) (v_4 + 1) N
                            else
                              if xb v_3 (kn Y p_1) then
                                bd (f_X5_addToken Y p_0 (f_X5_signKind Y (gi N p_1 v_3.toNatClampNeg) N) v_3 0 N) fun N47 =>
                                f_X5_split_10 Y D9 p_0 p_1 v_2 (v_3 + 1) (v_4 + 1) N47
                              else none
                          else none
                        else
                          bd (f_X5_endOfRun Y p_1 v_2 v_3 48 57 N) fun r49 =>
                          bd (f_X5_numberIn Y p_1 v_3 r49 N) fun r51 =>
                          bd (f_X5_addToken Y p_0 2 v_3 r51 N) fun N53 =>
                          f_X5_split_10 Y D9 p_0 p_1 v_2 r49 (v_4 + 1) N53
                      else none
                  else none
                else
                  bd (f_X5_endOfRun Y p_1 v_2 v_3 97 122 N) fun r55 =>
                  bd (f_X5_wordKind Y p_1 v_3 r55 N) fun r57 =>
                  bd (f_X5_addToken Y p_0 r57 v_3 0 N) fun N59 =>
                  f_X5_split_10 Y D9 p_0 p_1 v_2 r55 (v_4 + 1) N59
              else none
          else none
def f_X5_split (Y : XY) (a0 : Nat) (a1 : Nat) (a2 : Int32) (N : XN) : Option XN :=
  lt (si N a0 3 0) fun N1 =>
  f_X5_split_10 Y FU a0 a1 a2 0 0 N1
