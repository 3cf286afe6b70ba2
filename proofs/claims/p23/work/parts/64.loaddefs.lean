def yrd (Y : XY) (rd tk wd : Nat) : XY := sr (sr Y rd 2 (some tk)) rd 3 (some wd)
def f_X4_reads_63 (Y : XY) : Nat → Nat → Int32 → Int32 → XN → Option (Int32 × XN)
  | 0, _, _, _, _ => none
  | D9 + 1, p_0, v_3, v_4, N =>
    if 700 ≤ v_4 then
      if xz v_3 then
        some (v_3, N)
      else none
    else
      if v_3 = 0 then
        if xz v_3 then
          some (v_3, N)
        else none
      else
        bd (f_X4_kind Y p_0 N) fun r6 =>
        if r6 = 0 then
          if xz v_3 then
            some (v_3, N)
          else none
        else
          bd2 (f_X4_readsStatement Y p_0 N) fun r10 N11 =>
          if r10 = 0 then
            f_X4_reads_63 Y D9 p_0 0 (v_4 + 1) N11
          else
            bd2 (f_X4_takes Y p_0 3 N11) fun r14 N15 =>
            if r14 = 0 then
              f_X4_reads_63 Y D9 p_0 0 (v_4 + 1) N15
            else
              f_X4_reads_63 Y D9 p_0 1 (v_4 + 1) N15
def f_X4_reads (Y : XY) (a0 : Nat) (N : XN) : Option (Int32 × XN) :=
  bd (f_X6_begin Y (gp Y a0 3) N) fun N4 =>
  lt (si N4 a0 4 0) fun N5 =>
  lt (si N5 a0 6 0) fun N6 =>
  lt (si N6 a0 0 0) fun N7 =>
  lt (si N7 a0 1 (-1)) fun N8 =>
  bd2 (f_X4_takes Y a0 10 N8) fun r10 N11 =>
  if r10 = 0 then
    f_X4_reads_63 Y FU a0 0 0 N11
  else
    bd2 (f_X4_takes Y a0 3 N11) fun r14 N15 =>
    if r14 = 0 then
      f_X4_reads_63 Y FU a0 0 0 N15
    else
      f_X4_reads_63 Y FU a0 1 0 N15
def f_X7_loadB (Y : XY) (a0 : Nat) (b0 : Int32) (N : XN) : Option ((Int32 ⊕ String) × XN) :=
  if b0 = 0 then
    lt (si N a0 2 (gi N (gp Y a0 4) 1)) fun N4 =>
    some (.inl (gi N4 (gp Y a0 4) 0), N4)
  else
    lt (si N a0 2 (-1)) fun N5 =>
    bd (f_X7_keepPresent Y a0 N5) fun N7 =>
    bd (f_X6_copyOf Y (gp Y a0 5) (gp Y a0 6) N7) fun N13 =>
    some (.inl (gi N13 (gp Y a0 5) 5), N13)
def f_X7_load (Y : XY) (a0 : Nat) (a1 : Int32) (N : XN) : Option ((Int32 ⊕ String) × XN) :=
  if a1 < 0 then
    some (.inr "java/lang/IllegalArgumentException", N)
  else
    if a1 ≤ (gi N a0 1) then
      lt (si N a0 1 0) fun N3 =>
      bd (f_X5_split Y (gp Y a0 3) (gp Y a0 0) a1 N3) fun N10 =>
      bd2 (f_X4_reads (yrd Y (gp Y a0 4) (gp Y a0 3) (gp Y a0 6)) (gp Y a0 4) N10) fun r15 N16 =>
      f_X7_loadB (yrd Y (gp Y a0 4) (gp Y a0 3) (gp Y a0 6)) a0 r15 N16
    else
      some (.inr "java/lang/IllegalArgumentException", N)
