/-! CHECKSUMS: the class's (gen_ck.py) -/
def ckS (v : Int64) (x : Int32) : Int64 := 31 * v + Int32.toInt64 x
def ckR (d : XD) (r : Nat) (v : Int64) : Int64 := fo (fun k v => ckS v (sReq d r k)) 0 7 v
def ckTn (d : XD) (l : Nat) (v : Int64) : Int64 := fo (fun k v => ckS v (d (52 + 7 * l + k))) 0 (nT d l) v
def ckL (d : XD) (l : Nat) (v : Int64) : Int64 := ckTn d l (fo (fun k v => ckS v (sToldL d l k)) 0 5 v)
def ckH (d : XD) (h : Nat) (v : Int64) : Int64 := fo (fun k v => ckS v (sToldH d h k)) 0 8 v
def sSumAll (d : XD) : Int64 := fo (ckR d) 0 (nR d) (fo (ckL d) 0 (nL d) (fo (ckH d) 0 (nH d) (fo (fun k v => ckS v (sTold d k)) 0 10 0)))
theorem bdx_inl {α β γ : Type} (v : α) (b : β) (f : α → β → Option γ) : bdx (some (.inl v, b)) f = f v b := (rfl)
section CK
variable {P : Nat → Int32} {Y : XY} {B w : Nat} {N : XN} {d : XD} {ops : List Int32}
theorem Ck_req (h5 : gp Y B 5 = w) (hW : WY Y w) (hD : DJ ops d) (hC : CR P ops d (wc N w)) {j : Nat} (hj : j < nR d) (K : Nat → Int64 → Int32 → XN → Option (Int64 × XN)) : ∀ (z k D9 : Nat) (v : Int64), k + z = 7 → z < D9 → f_X7_checksum_185 Y K D9 B v (nI j) (nI k) N = K B (fo (fun k v => ckS v (sReq d j k)) k z v) (nI (j + 1)) N := by
  have h6 := hD.H6
  have h8 := hD.L8
  have h60 := hD.R60
  have c1 : gi N w 1 = nI (nH d) := (hC.1.w1).trans hD.H
  have c3 : gi N w 3 = nI (nL d) := (hC.1.w3).trans hD.L
  have c5 : gi N w 5 = nI (nR d) := (hC.1.w5).trans hD.R
  intro z
  induction z with
  | zero =>
    intro k D9 v hi hD9
    obtain ⟨D8, rfl⟩ : ∃ z, D9 = z + 1 := ⟨D9 - 1, by omega⟩
    rw [f_X7_checksum_185]
    simp (disch := omega) only [↓lt_eq, nI_lit, nI_add, ↓reduceIte, pLEt, pLEf, pLTt, pLTf, pEQf, pML, pMG, pMf, pMg, c5]
    rfl
  | succ z ih =>
    intro k D9 v hi hD9
    obtain ⟨D8, rfl⟩ : ∃ z, D9 = z + 1 := ⟨D9 - 1, by omega⟩
    have IH := ih (k + 1) D8 (ckS v (sReq d j k)) (by omega) (by omega)
    have hk := K_request h5 hW hD hC hj (k := k) (by omega)
    rw [f_X7_checksum_185]
    simp (disch := omega) only [↓lt_eq, nI_lit, nI_add, ↓reduceIte, pLEt, pLEf, pLTt, pLTf, pEQf, pML, pMG, pMf, pMg, bdx_inl, bd_some, c5, hk]
    exact IH

theorem Ck_reqs (h5 : gp Y B 5 = w) (hW : WY Y w) (hD : DJ ops d) (hC : CR P ops d (wc N w)) : ∀ (z i D9 : Nat) (v : Int64), i + z = nR d → z < D9 → f_X7_checksum_171 Y D9 B v (nI i) N = some (fo (ckR d) i z v, N) := by
  have h6 := hD.H6
  have h8 := hD.L8
  have h60 := hD.R60
  have c1 : gi N w 1 = nI (nH d) := (hC.1.w1).trans hD.H
  have c3 : gi N w 3 = nI (nL d) := (hC.1.w3).trans hD.L
  have c5 : gi N w 5 = nI (nR d) := (hC.1.w5).trans hD.R
  intro z
  induction z with
  | zero =>
    intro i D9 v hi hD9
    obtain ⟨D8, rfl⟩ : ∃ z, D9 = z + 1 := ⟨D9 - 1, by omega⟩
    rw [f_X7_checksum_171]
    simp (disch := omega) only [↓lt_eq, nI_lit, nI_add, ↓reduceIte, pLEt, pLEf, pLTt, pLTf, pEQf, pML, pMG, pMf, pMg, h5, c5]
    rfl
  | succ z ih =>
    intro i D9 v hi hD9
    obtain ⟨D8, rfl⟩ : ∃ z, D9 = z + 1 := ⟨D9 - 1, by omega⟩
    have IH := ih (i + 1) D8 (ckR d i v) (by omega) (by omega)
    have IN := Ck_req h5 hW hD hC (j := i) (by omega) (f_X7_checksum_171 Y D8) 7 0 FU v (by omega) (by unfold FU; omega)
    rw [f_X7_checksum_171]
    simp (disch := omega) only [↓lt_eq, nI_lit, nI_add, ↓reduceIte, pLEt, pLEf, pLTt, pLTf, pEQf, pML, pMG, pMf, pMg, h5, c5]
    exact IN.trans IH

theorem Ck_ten (h5 : gp Y B 5 = w) (hW : WY Y w) (hD : DJ ops d) (hC : CR P ops d (wc N w)) {j : Nat} (hj : j < nL d) (K : Nat → Int64 → Int32 → XN → Option (Int64 × XN)) : ∀ (z k D9 : Nat) (v : Int64), k + z = nT d j → z < D9 → f_X7_checksum_125 Y K D9 B v (nI j) (nI k) N = K B (fo (fun k v => ckS v (d (52 + 7 * j + k))) k z v) (nI (j + 1)) N := by
  have h6 := hD.H6
  have h8 := hD.L8
  have h60 := hD.R60
  have c1 : gi N w 1 = nI (nH d) := (hC.1.w1).trans hD.H
  have c3 : gi N w 3 = nI (nL d) := (hC.1.w3).trans hD.L
  have c5 : gi N w 5 = nI (nR d) := (hC.1.w5).trans hD.R
  obtain ⟨t1, t2, -, -⟩ := hD.ln j hj
  intro z
  induction z with
  | zero =>
    intro k D9 v hi hD9
    obtain ⟨D8, rfl⟩ : ∃ z, D9 = z + 1 := ⟨D9 - 1, by omega⟩
    rw [f_X7_checksum_125]
    simp (disch := omega) only [↓lt_eq, nI_lit, nI_add, ↓reduceIte, pLEt, pLEf, pLTt, pLTf, pEQf, pML, pMG, pMf, pMg, xb_nI, nI_clamp, if_true, h5, hW.g2, hW.l, gi_wc N w, hC.1.l4, t1]
    rfl
  | succ z ih =>
    intro k D9 v hi hD9
    obtain ⟨D8, rfl⟩ : ∃ z, D9 = z + 1 := ⟨D9 - 1, by omega⟩
    have IH := ih (k + 1) D8 (ckS v (d (52 + 7 * j + k))) (by omega) (by omega)
    have hk := K_tenant h5 hW hD hC hj (k := k) (by omega)
    rw [f_X7_checksum_125]
    simp (disch := omega) only [↓lt_eq, nI_lit, nI_add, ↓reduceIte, pLEt, pLEf, pLTt, pLTf, pEQf, pML, pMG, pMf, pMg, bdx_inl, bd_some, xb_nI, nI_clamp, if_true, h5, hW.g2, hW.l, gi_wc N w, hC.1.l4, t1, hk]
    exact IH

theorem Ck_line (h5 : gp Y B 5 = w) (hW : WY Y w) (hD : DJ ops d) (hC : CR P ops d (wc N w)) {j : Nat} (hj : j < nL d) (K : Nat → Int64 → Int32 → XN → Option (Int64 × XN)) : ∀ (z k D9 : Nat) (v : Int64), k + z = 5 → z < D9 → f_X7_checksum_95 Y K D9 B v (nI j) (nI k) N = K B (ckTn d j (fo (fun k v => ckS v (sToldL d j k)) k z v)) (nI (j + 1)) N := by
  intro z
  induction z with
  | zero =>
    intro k D9 v hi hD9
    obtain ⟨D8, rfl⟩ : ∃ z, D9 = z + 1 := ⟨D9 - 1, by omega⟩
    have IN := Ck_ten h5 hW hD hC hj K (nT d j) 0 FU v (Nat.zero_add _) (by have := (hD.ln j hj).2.1; unfold FU; omega)
    rw [f_X7_checksum_95]
    simp (disch := omega) only [↓lt_eq, nI_lit, nI_add, ↓reduceIte, pLEt, pLEf, pLTt, pLTf, pEQf, pML, pMG, pMf, pMg]
    exact IN
  | succ z ih =>
    intro k D9 v hi hD9
    obtain ⟨D8, rfl⟩ : ∃ z, D9 = z + 1 := ⟨D9 - 1, by omega⟩
    have IH := ih (k + 1) D8 (ckS v (sToldL d j k)) (by omega) (by omega)
    have hk := K_line h5 hW hD hC hj (k := k) (by omega)
    rw [f_X7_checksum_95]
    simp (disch := omega) only [↓lt_eq, nI_lit, nI_add, ↓reduceIte, pLEt, pLEf, pLTt, pLTf, pEQf, pML, pMG, pMf, pMg, bdx_inl, hk]
    exact IH

theorem Ck_lines (h5 : gp Y B 5 = w) (hW : WY Y w) (hD : DJ ops d) (hC : CR P ops d (wc N w)) : ∀ (z i D9 : Nat) (v : Int64), i + z = nL d → z < D9 → f_X7_checksum_81 Y D9 B v (nI i) N = some (fo (ckR d) 0 (nR d) (fo (ckL d) i z v), N) := by
  have h6 := hD.H6
  have h8 := hD.L8
  have h60 := hD.R60
  have c1 : gi N w 1 = nI (nH d) := (hC.1.w1).trans hD.H
  have c3 : gi N w 3 = nI (nL d) := (hC.1.w3).trans hD.L
  have c5 : gi N w 5 = nI (nR d) := (hC.1.w5).trans hD.R
  intro z
  induction z with
  | zero =>
    intro i D9 v hi hD9
    obtain ⟨D8, rfl⟩ : ∃ z, D9 = z + 1 := ⟨D9 - 1, by omega⟩
    rw [f_X7_checksum_81]
    simp (disch := omega) only [↓lt_eq, nI_lit, nI_add, ↓reduceIte, pLEt, pLEf, pLTt, pLTf, pEQf, pML, pMG, pMf, pMg, h5, c3]
    exact Ck_reqs h5 hW hD hC (nR d) 0 FU v (Nat.zero_add _) (by unfold FU; omega)
  | succ z ih =>
    intro i D9 v hi hD9
    obtain ⟨D8, rfl⟩ : ∃ z, D9 = z + 1 := ⟨D9 - 1, by omega⟩
    have IH := ih (i + 1) D8 (ckL d i v) (by omega) (by omega)
    have IN := Ck_line h5 hW hD hC (j := i) (by omega) (f_X7_checksum_81 Y D8) 5 0 FU v (by omega) (by unfold FU; omega)
    rw [f_X7_checksum_81]
    simp (disch := omega) only [↓lt_eq, nI_lit, nI_add, ↓reduceIte, pLEt, pLEf, pLTt, pLTf, pEQf, pML, pMG, pMf, pMg, h5, c3]
    exact IN.trans IH

theorem Ck_han (h5 : gp Y B 5 = w) (hW : WY Y w) (hD : DJ ops d) (hC : CR P ops d (wc N w)) {j : Nat} (hj : j < nH d) (K : Nat → Int64 → Int32 → XN → Option (Int64 × XN)) : ∀ (z k D9 : Nat) (v : Int64), k + z = 8 → z < D9 → f_X7_checksum_45 Y K D9 B v (nI j) (nI k) N = K B (fo (fun k v => ckS v (sToldH d j k)) k z v) (nI (j + 1)) N := by
  have h6 := hD.H6
  have h8 := hD.L8
  have h60 := hD.R60
  have c1 : gi N w 1 = nI (nH d) := (hC.1.w1).trans hD.H
  have c3 : gi N w 3 = nI (nL d) := (hC.1.w3).trans hD.L
  have c5 : gi N w 5 = nI (nR d) := (hC.1.w5).trans hD.R
  intro z
  induction z with
  | zero =>
    intro k D9 v hi hD9
    obtain ⟨D8, rfl⟩ : ∃ z, D9 = z + 1 := ⟨D9 - 1, by omega⟩
    rw [f_X7_checksum_45]
    simp (disch := omega) only [↓lt_eq, nI_lit, nI_add, ↓reduceIte, pLEt, pLEf, pLTt, pLTf, pEQf, pML, pMG, pMf, pMg, c1]
    rfl
  | succ z ih =>
    intro k D9 v hi hD9
    obtain ⟨D8, rfl⟩ : ∃ z, D9 = z + 1 := ⟨D9 - 1, by omega⟩
    have IH := ih (k + 1) D8 (ckS v (sToldH d j k)) (by omega) (by omega)
    have hk := K_handler h5 hW hD hC hj (k := k) (by omega)
    rw [f_X7_checksum_45]
    simp (disch := omega) only [↓lt_eq, nI_lit, nI_add, ↓reduceIte, pLEt, pLEf, pLTt, pLTf, pEQf, pML, pMG, pMf, pMg, bdx_inl, bd_some, c1, hk]
    exact IH

theorem Ck_hans (h5 : gp Y B 5 = w) (hW : WY Y w) (hD : DJ ops d) (hC : CR P ops d (wc N w)) : ∀ (z i D9 : Nat) (v : Int64), i + z = nH d → z < D9 → f_X7_checksum_31 Y D9 B v (nI i) N = some (fo (ckR d) 0 (nR d) (fo (ckL d) 0 (nL d) (fo (ckH d) i z v)), N) := by
  have h6 := hD.H6
  have h8 := hD.L8
  have h60 := hD.R60
  have c1 : gi N w 1 = nI (nH d) := (hC.1.w1).trans hD.H
  have c3 : gi N w 3 = nI (nL d) := (hC.1.w3).trans hD.L
  have c5 : gi N w 5 = nI (nR d) := (hC.1.w5).trans hD.R
  intro z
  induction z with
  | zero =>
    intro i D9 v hi hD9
    obtain ⟨D8, rfl⟩ : ∃ z, D9 = z + 1 := ⟨D9 - 1, by omega⟩
    rw [f_X7_checksum_31]
    simp (disch := omega) only [↓lt_eq, nI_lit, nI_add, ↓reduceIte, pLEt, pLEf, pLTt, pLTf, pEQf, pML, pMG, pMf, pMg, h5, c1]
    exact Ck_lines h5 hW hD hC (nL d) 0 FU v (Nat.zero_add _) (by unfold FU; omega)
  | succ z ih =>
    intro i D9 v hi hD9
    obtain ⟨D8, rfl⟩ : ∃ z, D9 = z + 1 := ⟨D9 - 1, by omega⟩
    have IH := ih (i + 1) D8 (ckH d i v) (by omega) (by omega)
    have IN := Ck_han h5 hW hD hC (j := i) (by omega) (f_X7_checksum_31 Y D8) 8 0 FU v (by omega) (by unfold FU; omega)
    rw [f_X7_checksum_31]
    simp (disch := omega) only [↓lt_eq, nI_lit, nI_add, ↓reduceIte, pLEt, pLEf, pLTt, pLTf, pEQf, pML, pMG, pMf, pMg, h5, c1]
    exact IN.trans IH

theorem Ck_state (h5 : gp Y B 5 = w) (hW : WY Y w) (hD : DJ ops d) (hC : CR P ops d (wc N w)) : ∀ (z k D9 : Nat) (v : Int64), k + z = 10 → z < D9 → f_X7_checksum_4 Y D9 B v (nI k) N = some (fo (ckR d) 0 (nR d) (fo (ckL d) 0 (nL d) (fo (ckH d) 0 (nH d) (fo (fun k v => ckS v (sTold d k)) k z v))), N) := by
  intro z
  induction z with
  | zero =>
    intro k D9 v hi hD9
    obtain ⟨D8, rfl⟩ : ∃ z, D9 = z + 1 := ⟨D9 - 1, by omega⟩
    have IN := Ck_hans h5 hW hD hC (nH d) 0 FU v (Nat.zero_add _) (by have := hD.H6; unfold FU; omega)
    rw [f_X7_checksum_4]
    simp (disch := omega) only [↓lt_eq, nI_lit, nI_add, ↓reduceIte, pLEt, pLEf, pLTt, pLTf, pEQf, pML, pMG, pMf, pMg]
    exact IN
  | succ z ih =>
    intro k D9 v hi hD9
    obtain ⟨D8, rfl⟩ : ∃ z, D9 = z + 1 := ⟨D9 - 1, by omega⟩
    have IH := ih (k + 1) D8 (ckS v (sTold d k)) (by omega) (by omega)
    have hk := K_state h5 hW hD hC (k := k) (by omega)
    rw [f_X7_checksum_4]
    simp (disch := omega) only [↓lt_eq, nI_lit, nI_add, ↓reduceIte, pLEt, pLEf, pLTt, pLTf, pEQf, pML, pMG, pMf, pMg, bdx_inl, hk]
    exact IH
theorem C_checksum (h5 : gp Y B 5 = w) (hW : WY Y w) (hD : DJ ops d) (hC : CR P ops d (wc N w)) : f_X7_checksum Y B N = some (sSumAll d, N) := by
  unfold f_X7_checksum
  exact Ck_state h5 hW hD hC 10 0 FU 0 (by omega) (by unfold FU; omega)
end CK
/-! THE DESK TELLS -/
def DQ (Y : XY) (N : XN) (pl : Nat → Nat) (H L R : Nat) (T : Nat → Nat) (ops : List Int32) (d : XD) : Prop := DY Y pl H L L R T ∧ DN H L L R T d (fun g k => gi N (pl g) k) ∧ SZ d H L R T ∧ DJ ops d ∧ H ≤ 4 ∧ L ≤ 3
theorem nI_sub {a b : Nat} (h : b ≤ a) : nI a - nI b = nI (a - b) := by
  rw [Int32.sub_eq_add_neg]
  exact i32_addneg h
section DQS
variable {Y : XY} {N : XN} {pl : Nat → Nat} {H L R : Nat} {T : Nat → Nat} {ops : List Int32} {d : XD}
theorem DK.q {q : Nat} (h : DK Y q N pl H L R T ops d) : DQ Y N pl H L R T ops d := h.2
theorem DQ.y (h : DQ Y N pl H L R T ops d) : DY Y pl H L L R T := h.1
theorem DQ.n (h : DQ Y N pl H L R T ops d) : DN H L L R T d (fun g k => gi N (pl g) k) := h.2.1
theorem DQ.s (h : DQ Y N pl H L R T ops d) : SZ d H L R T := h.2.2.1
theorem DQ.j (h : DQ Y N pl H L R T ops d) : DJ ops d := h.2.2.2.1
theorem DQ.h4 (h : DQ Y N pl H L R T ops d) : H ≤ 4 := h.2.2.2.2.1
theorem DQ.l3 (h : DQ Y N pl H L R T ops d) : L ≤ 3 := h.2.2.2.2.2
variable {i j k l r : Nat}
theorem DQ.hh (h : DQ Y N pl H L R T ops d) (hi : i < H) (hk : k < 6) : gi N (pl (2 + i)) k = d (12 + 6 * i + k) := by
  have h4 := h.h4
  have := h.n.2 (2 + i) k (by unfold vd; omega)
  refine this.trans ?_
  congr 1
  unfold ixg
  (repeat' split) <;> omega
theorem DQ.ll (h : DQ Y N pl H L R T ops d) (hi : i < L) (hk : k < 3) : gi N (pl (8 + i)) k = d (48 + 7 * i + k) := by
  have h4 := h.l3
  have := h.n.2 (8 + i) k (by unfold vd; omega)
  refine this.trans ?_
  congr 1
  unfold ixg
  (repeat' split) <;> omega
theorem DQ.rr (h : DQ Y N pl H L R T ops d) (hi : i < R) (hk : k < 8) : gi N (pl (24 + i)) k = d (104 + 8 * i + k) := by
  have h4 := h.y.R60
  have := h.n.2 (24 + i) k (by unfold vd; omega)
  refine this.trans ?_
  congr 1
  unfold ixg
  (repeat' split) <;> omega
theorem Q_placeIn (h : DQ Y N pl H L R T ops d) (hl : l < L) {w : Int32} : f_L_placeIn Y (pl (16 + l)) w N = some (pI (sTP d l w), N) := by
  have hb := h.n.1
  have e := D_placeIn (N := N) (d := d) (l := l) (h := w) (h.y.kt hl) (h.y.nt hl) (hb.2.2.2.2 l hl) (fun k hk => h.n.t hl hk)
  unfold sTP
  rw [h.s.2.2.2 l hl]
  exact e
theorem Q_held (h : DQ Y N pl H L R T ops d) {x : Int32} : f_X8_held Y (pl 0) x N = some (nI (sHeld d x), N) := by
  have a1 := D_held (N := N) h.y h.n h.s (h := x)
  rw [sp_self] at a1
  exact a1
theorem Q_count_L (h : DQ Y N pl H L R T ops d) {s : Int32} : ∀ (z i a D9 : Nat), i + z = R → z < D9 → f_X8_count_14 Y D9 s (nI a) (pl 87) (nI R) (nI i) N = some (nI (a + cntF (fun r => decide (d (107 + 8 * r) = s)) i z), N) := by
  have hY := h.y
  have h60 := hY.R60
  intro z
  induction z with
  | zero =>
    intro i a D9 hi hD9
    obtain ⟨D8, rfl⟩ : ∃ z, D9 = z + 1 := ⟨D9 - 1, by omega⟩
    rw [f_X8_count_14]
    simp (disch := omega) only [↓ck, ↓lt_eq, bd_some, bd2_some, ofN, nI_lit, nI_clamp, nI_add, xb_nI, hY.k0, hY.g2, hY.g3, hY.g4, hY.g5, hY.g6, hY.p2, hY.p3, hY.p4, hY.p5, hY.p6, hY.k1, hY.n1, hY.k84, hY.n84, hY.k85, hY.n85, hY.k86, hY.n86, hY.k87, hY.n87, hY.gh, hY.ph, hY.kh, hY.nh, hY.gl, hY.pl', hY.kl, hY.nl, hY.gt, hY.pt, hY.kt, hY.nt, hY.gr', hY.pr, hY.kr, hY.nr, ↓reduceIte, pLEt, pLEf, pLTt, pLTf, pEQf, pML, pMG, pMf, pMg]
    simp [cntF]
  | succ z ih =>
    intro i a D9 hi hD9
    obtain ⟨D8, rfl⟩ : ∃ z, D9 = z + 1 := ⟨D9 - 1, by omega⟩
    have r3 : gi N (pl (24 + i)) 3 = d (107 + 8 * i) := h.n.r3 (by omega)
    rw [f_X8_count_14]
    unfold cntF
    by_cases p1 : d (107 + 8 * i) = s
    · simp (disch := omega) only [↓ck, ↓lt_eq, bd_some, bd2_some, ofN, nI_lit, nI_clamp, nI_add, xb_nI, hY.k0, hY.g2, hY.g3, hY.g4, hY.g5, hY.g6, hY.p2, hY.p3, hY.p4, hY.p5, hY.p6, hY.k1, hY.n1, hY.k84, hY.n84, hY.k85, hY.n85, hY.k86, hY.n86, hY.k87, hY.n87, hY.gh, hY.ph, hY.kh, hY.nh, hY.gl, hY.pl', hY.kl, hY.nl, hY.gt, hY.pt, hY.kt, hY.nt, hY.gr', hY.pr, hY.kr, hY.nr, ↓reduceIte, pLEt, pLEf, pLTt, pLTf, pEQf, pML, pMG, pMf, pMg, r3, eq_true p1]
      rw [ih (i + 1) (a + 1) D8 (by omega) (by omega)]
      simp only [decide_true, if_true]
      rw [show a + 1 + cntF (fun r => decide (d (107 + 8 * r) = s)) (i + 1) z = a + (1 + cntF (fun r => decide (d (107 + 8 * r) = s)) (i + 1) z) by omega]
    · simp (disch := omega) only [↓ck, ↓lt_eq, bd_some, bd2_some, ofN, nI_lit, nI_clamp, nI_add, xb_nI, hY.k0, hY.g2, hY.g3, hY.g4, hY.g5, hY.g6, hY.p2, hY.p3, hY.p4, hY.p5, hY.p6, hY.k1, hY.n1, hY.k84, hY.n84, hY.k85, hY.n85, hY.k86, hY.n86, hY.k87, hY.n87, hY.gh, hY.ph, hY.kh, hY.nh, hY.gl, hY.pl', hY.kl, hY.nl, hY.gt, hY.pt, hY.kt, hY.nt, hY.gr', hY.pr, hY.kr, hY.nr, ↓reduceIte, pLEt, pLEf, pLTt, pLTf, pEQf, pML, pMG, pMf, pMg, r3, eq_false p1]
      rw [ih (i + 1) a D8 (by omega) (by omega)]
      simp
theorem Q_count (h : DQ Y N pl H L R T ops d) {s : Int32} : f_X8_count Y (pl 0) s N = some (nI (sCount d s), N) := by
  have hY := h.y
  have h60 := hY.R60
  have k := Q_count_L h (s := s) R 0 0 FU (by omega) (by unfold FU; omega)
  unfold f_X8_count
  simp (disch := omega) only [↓ck, ↓lt_eq, bd_some, bd2_some, ofN, nI_lit, nI_clamp, nI_add, xb_nI, hY.k0, hY.g2, hY.g3, hY.g4, hY.g5, hY.g6, hY.p2, hY.p3, hY.p4, hY.p5, hY.p6, hY.k1, hY.n1, hY.k84, hY.n84, hY.k85, hY.n85, hY.k86, hY.n86, hY.k87, hY.n87, hY.gh, hY.ph, hY.kh, hY.nh, hY.gl, hY.pl', hY.kl, hY.nl, hY.gt, hY.pt, hY.kt, hY.nt, hY.gr', hY.pr, hY.kr, hY.nr, ↓reduceIte, pLEt, pLEf, pLTt, pLTf, pEQf, pML, pMG, pMf, pMg]
  rw [k, Nat.zero_add]
  unfold sCount cnt
  rw [h.s.2.2.1]
def tl (d : XD) (k : Nat) (v w : Int32) : Int32 := if k < 5 then d k else if k < 8 then nI (sCount d (nI (k - 4))) else if k = 8 then v else w
theorem Q_told_69 (h : DQ Y N pl H L R T ops d) (hk : k < 10) : ∀ (z i D9 : Nat) (v w : Int32), i + z = L → z < D9 → f_X8_told_69 Y D9 (pl 0) (nI k) v w (pl 85) (nI L) (nI i) N = some (tl d k v (fo (fun i a => a + d (50 + 7 * i)) i z w), N) := by
  have hY := h.y
  have h60 := hY.R60
  have h3 := h.l3
  have h6 := hY.H6
  intro z
  induction z with
  | zero =>
    intro i D9 v w hi hD9
    obtain ⟨D8, rfl⟩ : ∃ z, D9 = z + 1 := ⟨D9 - 1, by omega⟩
    have w0 : gi N (pl 0) 0 = d 0 := h.n.w0
    have w1 : gi N (pl 0) 1 = d 4 := h.n.w1
    have e1 : d 1 = nI H := by rw [h.j.H, h.s.1]
    have e2 : d 2 = nI L := by rw [h.j.L, h.s.2.1]
    have e3 : d 3 = nI R := by rw [h.j.R, h.s.2.2.1]
    rw [f_X8_told_69, fo]
    unfold tl
    rcases (by omega : k = 0 ∨ k = 1 ∨ k = 2 ∨ k = 3 ∨ k = 4 ∨ (5 ≤ k ∧ k < 8) ∨ k = 8 ∨ k = 9) with e | e | e | e | e | e | e | e
    · subst e; simp (disch := omega) only [↓ck, ↓lt_eq, bd_some, bd2_some, ofN, nI_lit, nI_clamp, nI_add, xb_nI, hY.k0, hY.g2, hY.g3, hY.g4, hY.g5, hY.g6, hY.p2, hY.p3, hY.p4, hY.p5, hY.p6, hY.k1, hY.n1, hY.k84, hY.n84, hY.k85, hY.n85, hY.k86, hY.n86, hY.k87, hY.n87, hY.gh, hY.ph, hY.kh, hY.nh, hY.gl, hY.pl', hY.kl, hY.nl, hY.gt, hY.pt, hY.kt, hY.nt, hY.gr', hY.pr, hY.kr, hY.nr, ↓reduceIte, pLEt, pLEf, pLTt, pLTf, pEQf, pML, pMG, pMf, pMg, w0]; rfl
    · subst e; simp (disch := omega) only [↓ck, ↓lt_eq, bd_some, bd2_some, ofN, nI_lit, nI_clamp, nI_add, xb_nI, hY.k0, hY.g2, hY.g3, hY.g4, hY.g5, hY.g6, hY.p2, hY.p3, hY.p4, hY.p5, hY.p6, hY.k1, hY.n1, hY.k84, hY.n84, hY.k85, hY.n85, hY.k86, hY.n86, hY.k87, hY.n87, hY.gh, hY.ph, hY.kh, hY.nh, hY.gl, hY.pl', hY.kl, hY.nl, hY.gt, hY.pt, hY.kt, hY.nt, hY.gr', hY.pr, hY.kr, hY.nr, ↓reduceIte, pLEt, pLEf, pLTt, pLTf, pEQf, pML, pMG, pMf, pMg, e1]; rfl
    · subst e; simp (disch := omega) only [↓ck, ↓lt_eq, bd_some, bd2_some, ofN, nI_lit, nI_clamp, nI_add, xb_nI, hY.k0, hY.g2, hY.g3, hY.g4, hY.g5, hY.g6, hY.p2, hY.p3, hY.p4, hY.p5, hY.p6, hY.k1, hY.n1, hY.k84, hY.n84, hY.k85, hY.n85, hY.k86, hY.n86, hY.k87, hY.n87, hY.gh, hY.ph, hY.kh, hY.nh, hY.gl, hY.pl', hY.kl, hY.nl, hY.gt, hY.pt, hY.kt, hY.nt, hY.gr', hY.pr, hY.kr, hY.nr, ↓reduceIte, pLEt, pLEf, pLTt, pLTf, pEQf, pML, pMG, pMf, pMg, e2]; rfl
    · subst e; simp (disch := omega) only [↓ck, ↓lt_eq, bd_some, bd2_some, ofN, nI_lit, nI_clamp, nI_add, xb_nI, hY.k0, hY.g2, hY.g3, hY.g4, hY.g5, hY.g6, hY.p2, hY.p3, hY.p4, hY.p5, hY.p6, hY.k1, hY.n1, hY.k84, hY.n84, hY.k85, hY.n85, hY.k86, hY.n86, hY.k87, hY.n87, hY.gh, hY.ph, hY.kh, hY.nh, hY.gl, hY.pl', hY.kl, hY.nl, hY.gt, hY.pt, hY.kt, hY.nt, hY.gr', hY.pr, hY.kr, hY.nr, ↓reduceIte, pLEt, pLEf, pLTt, pLTf, pEQf, pML, pMG, pMf, pMg, e3]; rfl
    · subst e; simp (disch := omega) only [↓ck, ↓lt_eq, bd_some, bd2_some, ofN, nI_lit, nI_clamp, nI_add, xb_nI, hY.k0, hY.g2, hY.g3, hY.g4, hY.g5, hY.g6, hY.p2, hY.p3, hY.p4, hY.p5, hY.p6, hY.k1, hY.n1, hY.k84, hY.n84, hY.k85, hY.n85, hY.k86, hY.n86, hY.k87, hY.n87, hY.gh, hY.ph, hY.kh, hY.nh, hY.gl, hY.pl', hY.kl, hY.nl, hY.gt, hY.pt, hY.kt, hY.nt, hY.gr', hY.pr, hY.kr, hY.nr, ↓reduceIte, pLEt, pLEf, pLTt, pLTf, pEQf, pML, pMG, pMf, pMg, w1]; rfl
    · have qc := Q_count h (s := nI (k - 4))
      rw [if_neg (by omega : ¬ k < 5), if_pos e.2]
      simp (disch := omega) only [↓ck, ↓lt_eq, bd_some, bd2_some, ofN, nI_lit, nI_clamp, nI_add, xb_nI, hY.k0, hY.g2, hY.g3, hY.g4, hY.g5, hY.g6, hY.p2, hY.p3, hY.p4, hY.p5, hY.p6, hY.k1, hY.n1, hY.k84, hY.n84, hY.k85, hY.n85, hY.k86, hY.n86, hY.k87, hY.n87, hY.gh, hY.ph, hY.kh, hY.nh, hY.gl, hY.pl', hY.kl, hY.nl, hY.gt, hY.pt, hY.kt, hY.nt, hY.gr', hY.pr, hY.kr, hY.nr, ↓reduceIte, pLEt, pLEf, pLTt, pLTf, pEQf, pML, pMG, pMf, pMg, ↓bd_ite, ↓bd2_ite, ↓bd3_ite, ↓bd4_ite, Option.isSome_some, Option.getD_some, nI_sub, qc]
    · subst e; simp (disch := omega) only [↓ck, ↓lt_eq, bd_some, bd2_some, ofN, nI_lit, nI_clamp, nI_add, xb_nI, hY.k0, hY.g2, hY.g3, hY.g4, hY.g5, hY.g6, hY.p2, hY.p3, hY.p4, hY.p5, hY.p6, hY.k1, hY.n1, hY.k84, hY.n84, hY.k85, hY.n85, hY.k86, hY.n86, hY.k87, hY.n87, hY.gh, hY.ph, hY.kh, hY.nh, hY.gl, hY.pl', hY.kl, hY.nl, hY.gt, hY.pt, hY.kt, hY.nt, hY.gr', hY.pr, hY.kr, hY.nr, ↓reduceIte, pLEt, pLEf, pLTt, pLTf, pEQf, pML, pMG, pMf, pMg]; rfl
    · subst e; simp (disch := omega) only [↓ck, ↓lt_eq, bd_some, bd2_some, ofN, nI_lit, nI_clamp, nI_add, xb_nI, hY.k0, hY.g2, hY.g3, hY.g4, hY.g5, hY.g6, hY.p2, hY.p3, hY.p4, hY.p5, hY.p6, hY.k1, hY.n1, hY.k84, hY.n84, hY.k85, hY.n85, hY.k86, hY.n86, hY.k87, hY.n87, hY.gh, hY.ph, hY.kh, hY.nh, hY.gl, hY.pl', hY.kl, hY.nl, hY.gt, hY.pt, hY.kt, hY.nt, hY.gr', hY.pr, hY.kr, hY.nr, ↓reduceIte, pLEt, pLEf, pLTt, pLTf, pEQf, pML, pMG, pMf, pMg]; rfl
  | succ z ih =>
    intro i D9 v w hi hD9
    obtain ⟨D8, rfl⟩ : ∃ z, D9 = z + 1 := ⟨D9 - 1, by omega⟩
    have r3 : gi N (pl (8 + i)) 2 = d (50 + 7 * i) := h.n.l2 (by omega)
    have IH := ih (i + 1) D8 v (w + d (50 + 7 * i)) (by omega) (by omega)
    rw [f_X8_told_69, fo]
    simp (disch := omega) only [↓ck, ↓lt_eq, bd_some, bd2_some, ofN, nI_lit, nI_clamp, nI_add, xb_nI, hY.k0, hY.g2, hY.g3, hY.g4, hY.g5, hY.g6, hY.p2, hY.p3, hY.p4, hY.p5, hY.p6, hY.k1, hY.n1, hY.k84, hY.n84, hY.k85, hY.n85, hY.k86, hY.n86, hY.k87, hY.n87, hY.gh, hY.ph, hY.kh, hY.nh, hY.gl, hY.pl', hY.kl, hY.nl, hY.gt, hY.pt, hY.kt, hY.nt, hY.gr', hY.pr, hY.kr, hY.nr, ↓reduceIte, pLEt, pLEf, pLTt, pLTf, pEQf, pML, pMG, pMf, pMg, r3]
    exact IH
theorem Q_told_21 (h : DQ Y N pl H L R T ops d) (hk : k < 10) : ∀ (z i D9 : Nat) (v w : Int32), i + z = H → z < D9 → f_X8_told_21 Y D9 (pl 0) (nI k) v w (pl 84) (nI H) (nI i) N = some (tl d k (fo (fun i a => a + d (14 + 6 * i)) i z v) (fo (fun i a => a + d (50 + 7 * i)) 0 L (fo (fun i a => a + d (12 + 6 * i)) i z w)), N) := by
  have hY := h.y
  have h60 := hY.R60
  have h3 := h.l3
  have h6 := hY.H6
  intro z
  induction z with
  | zero =>
    intro i D9 v w hi hD9
    obtain ⟨D8, rfl⟩ : ∃ z, D9 = z + 1 := ⟨D9 - 1, by omega⟩
    have IN := Q_told_69 h hk L 0 FU v w (by omega) (by unfold FU; omega)
    rw [f_X8_told_21, fo, fo]
    simp (disch := omega) only [↓ck, ↓lt_eq, bd_some, bd2_some, ofN, nI_lit, nI_clamp, nI_add, xb_nI, hY.k0, hY.g2, hY.g3, hY.g4, hY.g5, hY.g6, hY.p2, hY.p3, hY.p4, hY.p5, hY.p6, hY.k1, hY.n1, hY.k84, hY.n84, hY.k85, hY.n85, hY.k86, hY.n86, hY.k87, hY.n87, hY.gh, hY.ph, hY.kh, hY.nh, hY.gl, hY.pl', hY.kl, hY.nl, hY.gt, hY.pt, hY.kt, hY.nt, hY.gr', hY.pr, hY.kr, hY.nr, ↓reduceIte, pLEt, pLEf, pLTt, pLTf, pEQf, pML, pMG, pMf, pMg]
    exact IN
  | succ z ih =>
    intro i D9 v w hi hD9
    obtain ⟨D8, rfl⟩ : ∃ z, D9 = z + 1 := ⟨D9 - 1, by omega⟩
    have r0 : gi N (pl (2 + i)) 0 = d (12 + 6 * i) := h.n.h0 (by omega)
    have r2 : gi N (pl (2 + i)) 2 = d (14 + 6 * i) := h.n.h2 (by omega)
    have IH := ih (i + 1) D8 (v + d (14 + 6 * i)) (w + d (12 + 6 * i)) (by omega) (by omega)
    rw [f_X8_told_21, fo, fo]
    simp (disch := omega) only [↓ck, ↓lt_eq, bd_some, bd2_some, ofN, nI_lit, nI_clamp, nI_add, xb_nI, hY.k0, hY.g2, hY.g3, hY.g4, hY.g5, hY.g6, hY.p2, hY.p3, hY.p4, hY.p5, hY.p6, hY.k1, hY.n1, hY.k84, hY.n84, hY.k85, hY.n85, hY.k86, hY.n86, hY.k87, hY.n87, hY.gh, hY.ph, hY.kh, hY.nh, hY.gl, hY.pl', hY.kl, hY.nl, hY.gt, hY.pt, hY.kt, hY.nt, hY.gr', hY.pr, hY.kr, hY.nr, ↓reduceIte, pLEt, pLEf, pLTt, pLTf, pEQf, pML, pMG, pMf, pMg, r0, r2]
    exact IH
theorem Q_told (h : DQ Y N pl H L R T ops d) (hk : k < 10) : f_X8_told Y (pl 0) (nI k) N = some (sTold d k, N) := by
  have hY := h.y
  have h6 := hY.H6
  have h3 := h.l3
  have w1 : gi N (pl 0) 1 = d 4 := h.n.w1
  have IN := Q_told_21 h hk H 0 FU (nI 0) (d 4) (by omega) (by unfold FU; omega)
  have e : tl d k (fo (fun i a => a + d (14 + 6 * i)) 0 H (nI 0)) (fo (fun i a => a + d (50 + 7 * i)) 0 L (fo (fun i a => a + d (12 + 6 * i)) 0 H (d 4))) = sTold d k := by
    unfold tl sTold sSum
    rw [h.s.1, h.s.2.1]
  rw [e] at IN
  unfold f_X8_told
  simp (disch := omega) only [↓ck, ↓lt_eq, bd_some, bd2_some, ofN, nI_lit, nI_clamp, nI_add, xb_nI, hY.k0, hY.g2, hY.g3, hY.g4, hY.g5, hY.g6, hY.p2, hY.p3, hY.p4, hY.p5, hY.p6, hY.k1, hY.n1, hY.k84, hY.n84, hY.k85, hY.n85, hY.k86, hY.n86, hY.k87, hY.n87, hY.gh, hY.ph, hY.kh, hY.nh, hY.gl, hY.pl', hY.kl, hY.nl, hY.gt, hY.pt, hY.kt, hY.nt, hY.gr', hY.pr, hY.kr, hY.nr, ↓reduceIte, pLEt, pLEf, pLTt, pLTf, pEQf, pML, pMG, pMf, pMg, w1]
  exact IN
def tlH (d : XD) (j k : Nat) (v : Int32) : Int32 := if k < 3 then d (12 + 6 * j + k) else if k = 3 then nI (sHeld d (nI j)) else if k = 4 then v else d (12 + 6 * j + (k - 2))
theorem Q_ofHandler_L (h : DQ Y N pl H L R T ops d) (hj : j < H) (hk : k < 8) : ∀ (z i a D9 : Nat), i + z = L → z < D9 → f_X8_ofHandler_16 Y D9 (pl 0) (nI j) (nI k) (nI a) (pl 86) (nI L) (nI i) N = some (tlH d j k (nI (a + cntF (fun l => (sTP d l (nI j)).isSome) i z)), N) := by
  have hY := h.y
  have h60 := hY.R60
  have h3 := h.l3
  have h6 := hY.H6
  intro z
  induction z with
  | zero =>
    intro i a D9 hi hD9
    obtain ⟨D8, rfl⟩ : ∃ z, D9 = z + 1 := ⟨D9 - 1, by omega⟩
    rw [f_X8_ofHandler_16]
    unfold tlH
    rcases (by omega : k < 3 ∨ k = 3 ∨ k = 4 ∨ (5 ≤ k ∧ k < 8)) with e | e | e | e
    · have v := h.hh hj (k := k) (by omega)
      rw [if_pos e]
      simp (disch := omega) only [↓ck, ↓lt_eq, bd_some, bd2_some, ofN, nI_lit, nI_clamp, nI_add, xb_nI, hY.k0, hY.g2, hY.g3, hY.g4, hY.g5, hY.g6, hY.p2, hY.p3, hY.p4, hY.p5, hY.p6, hY.k1, hY.n1, hY.k84, hY.n84, hY.k85, hY.n85, hY.k86, hY.n86, hY.k87, hY.n87, hY.gh, hY.ph, hY.kh, hY.nh, hY.gl, hY.pl', hY.kl, hY.nl, hY.gt, hY.pt, hY.kt, hY.nt, hY.gr', hY.pr, hY.kr, hY.nr, ↓reduceIte, pLEt, pLEf, pLTt, pLTf, pEQf, pML, pMG, pMf, pMg, v]
    · subst e
      have qc := Q_held h (x := nI j)
      simp (disch := omega) only [↓ck, ↓lt_eq, bd_some, bd2_some, ofN, nI_lit, nI_clamp, nI_add, xb_nI, hY.k0, hY.g2, hY.g3, hY.g4, hY.g5, hY.g6, hY.p2, hY.p3, hY.p4, hY.p5, hY.p6, hY.k1, hY.n1, hY.k84, hY.n84, hY.k85, hY.n85, hY.k86, hY.n86, hY.k87, hY.n87, hY.gh, hY.ph, hY.kh, hY.nh, hY.gl, hY.pl', hY.kl, hY.nl, hY.gt, hY.pt, hY.kt, hY.nt, hY.gr', hY.pr, hY.kr, hY.nr, ↓reduceIte, pLEt, pLEf, pLTt, pLTf, pEQf, pML, pMG, pMf, pMg, ↓bd_ite, ↓bd2_ite, ↓bd3_ite, ↓bd4_ite, Option.isSome_some, Option.getD_some, qc]
      rfl
    · subst e
      simp (disch := omega) only [↓ck, ↓lt_eq, bd_some, bd2_some, ofN, nI_lit, nI_clamp, nI_add, xb_nI, hY.k0, hY.g2, hY.g3, hY.g4, hY.g5, hY.g6, hY.p2, hY.p3, hY.p4, hY.p5, hY.p6, hY.k1, hY.n1, hY.k84, hY.n84, hY.k85, hY.n85, hY.k86, hY.n86, hY.k87, hY.n87, hY.gh, hY.ph, hY.kh, hY.nh, hY.gl, hY.pl', hY.kl, hY.nl, hY.gt, hY.pt, hY.kt, hY.nt, hY.gr', hY.pr, hY.kr, hY.nr, ↓reduceIte, pLEt, pLEf, pLTt, pLTf, pEQf, pML, pMG, pMf, pMg, cntF]
      rfl
    · have v := h.hh hj (k := k - 2) (by omega)
      rw [if_neg (by omega : ¬ k < 3), if_neg (by omega : ¬ k = 3), if_neg (by omega : ¬ k = 4)]
      simp (disch := omega) only [↓ck, ↓lt_eq, bd_some, bd2_some, ofN, nI_lit, nI_clamp, nI_add, xb_nI, hY.k0, hY.g2, hY.g3, hY.g4, hY.g5, hY.g6, hY.p2, hY.p3, hY.p4, hY.p5, hY.p6, hY.k1, hY.n1, hY.k84, hY.n84, hY.k85, hY.n85, hY.k86, hY.n86, hY.k87, hY.n87, hY.gh, hY.ph, hY.kh, hY.nh, hY.gl, hY.pl', hY.kl, hY.nl, hY.gt, hY.pt, hY.kt, hY.nt, hY.gr', hY.pr, hY.kr, hY.nr, ↓reduceIte, pLEt, pLEf, pLTt, pLTf, pEQf, pML, pMG, pMf, pMg, nI_sub, v]
  | succ z ih =>
    intro i a D9 hi hD9
    obtain ⟨D8, rfl⟩ : ∃ z, D9 = z + 1 := ⟨D9 - 1, by omega⟩
    have qp := Q_placeIn h (l := i) (w := nI j) (by omega)
    rw [f_X8_ofHandler_16]
    unfold cntF
    cases hs : sTP d i (nI j) with
    | none =>
      rw [pI_none hs] at qp
      have IH := ih (i + 1) a D8 (by omega) (by omega)
      simp (disch := omega) only [↓ck, ↓lt_eq, bd_some, bd2_some, ofN, nI_lit, nI_clamp, nI_add, xb_nI, hY.k0, hY.g2, hY.g3, hY.g4, hY.g5, hY.g6, hY.p2, hY.p3, hY.p4, hY.p5, hY.p6, hY.k1, hY.n1, hY.k84, hY.n84, hY.k85, hY.n85, hY.k86, hY.n86, hY.k87, hY.n87, hY.gh, hY.ph, hY.kh, hY.nh, hY.gl, hY.pl', hY.kl, hY.nl, hY.gt, hY.pt, hY.kt, hY.nt, hY.gr', hY.pr, hY.kr, hY.nr, ↓reduceIte, pLEt, pLEf, pLTt, pLTf, pEQf, pML, pMG, pMf, pMg, ↓bd_ite, ↓bd2_ite, ↓bd3_ite, ↓bd4_ite, Option.isSome_some, Option.getD_some, qp]
      rw [IH]
      simp
    | some x =>
      have hx : x < 2 ^ 31 := sTP_lt x hs
      have e : pI (sTP d i (nI j)) = nI x := by rw [hs]; rfl
      rw [e] at qp
      have IH := ih (i + 1) (a + 1) D8 (by omega) (by omega)
      simp (disch := omega) only [↓ck, ↓lt_eq, bd_some, bd2_some, ofN, nI_lit, nI_clamp, nI_add, xb_nI, hY.k0, hY.g2, hY.g3, hY.g4, hY.g5, hY.g6, hY.p2, hY.p3, hY.p4, hY.p5, hY.p6, hY.k1, hY.n1, hY.k84, hY.n84, hY.k85, hY.n85, hY.k86, hY.n86, hY.k87, hY.n87, hY.gh, hY.ph, hY.kh, hY.nh, hY.gl, hY.pl', hY.kl, hY.nl, hY.gt, hY.pt, hY.kt, hY.nt, hY.gr', hY.pr, hY.kr, hY.nr, ↓reduceIte, pLEt, pLEf, pLTt, pLTf, pEQf, pML, pMG, pMf, pMg, ↓bd_ite, ↓bd2_ite, ↓bd3_ite, ↓bd4_ite, Option.isSome_some, Option.getD_some, qp]
      rw [IH]
      rw [show a + 1 + cntF (fun l => (sTP d l (nI j)).isSome) (i + 1) z = a + (1 + cntF (fun l => (sTP d l (nI j)).isSome) (i + 1) z) by omega]
theorem Q_ofHandler (h : DQ Y N pl H L R T ops d) (hj : j < H) (hk : k < 8) : f_X8_ofHandler Y (pl 0) (nI j) (nI k) N = some (sToldH d j k, N) := by
  have hY := h.y
  have h3 := h.l3
  have IN := Q_ofHandler_L h hj hk L 0 0 FU (by omega) (by unfold FU; omega)
  have e : tlH d j k (nI (0 + cntF (fun l => (sTP d l (nI j)).isSome) 0 L)) = sToldH d j k := by
    unfold tlH sToldH sLines cnt
    rw [h.s.2.1, Nat.zero_add]
  rw [e] at IN
  unfold f_X8_ofHandler
  simp (disch := omega) only [↓ck, ↓lt_eq, bd_some, bd2_some, ofN, nI_lit, nI_clamp, nI_add, xb_nI, hY.k0, hY.g2, hY.g3, hY.g4, hY.g5, hY.g6, hY.p2, hY.p3, hY.p4, hY.p5, hY.p6, hY.k1, hY.n1, hY.k84, hY.n84, hY.k85, hY.n85, hY.k86, hY.n86, hY.k87, hY.n87, hY.gh, hY.ph, hY.kh, hY.nh, hY.gl, hY.pl', hY.kl, hY.nl, hY.gt, hY.pt, hY.kt, hY.nt, hY.gr', hY.pr, hY.kr, hY.nr, ↓reduceIte, pLEt, pLEf, pLTt, pLTf, pEQf, pML, pMG, pMf, pMg]
  exact IN
theorem Q_ofLine_L (h : DQ Y N pl H L R T ops d) (hj : j < L) (hk : k < 5) : ∀ (z i a D9 : Nat), i + z = R → z < D9 → f_X8_ofLine_16 Y D9 (pl 0) (nI j) (nI k) (nI a) (pl 87) (nI R) (nI i) N = some ((if k < 4 then d (48 + 7 * j + k) else nI (a + cntF (sFreeP d (nI j) (-nI 1)) i z)), N) := by
  have hY := h.y
  have h60 := hY.R60
  have h3 := h.l3
  have h6 := hY.H6
  intro z
  induction z with
  | zero =>
    intro i a D9 hi hD9
    obtain ⟨D8, rfl⟩ : ∃ z, D9 = z + 1 := ⟨D9 - 1, by omega⟩
    rw [f_X8_ofLine_16]
    rcases (by omega : k < 3 ∨ k = 3 ∨ k = 4) with e | e | e
    · have v := h.ll hj (k := k) (by omega)
      rw [if_pos (by omega : k < 4)]
      simp (disch := omega) only [↓ck, ↓lt_eq, bd_some, bd2_some, ofN, nI_lit, nI_clamp, nI_add, xb_nI, hY.k0, hY.g2, hY.g3, hY.g4, hY.g5, hY.g6, hY.p2, hY.p3, hY.p4, hY.p5, hY.p6, hY.k1, hY.n1, hY.k84, hY.n84, hY.k85, hY.n85, hY.k86, hY.n86, hY.k87, hY.n87, hY.gh, hY.ph, hY.kh, hY.nh, hY.gl, hY.pl', hY.kl, hY.nl, hY.gt, hY.pt, hY.kt, hY.nt, hY.gr', hY.pr, hY.kr, hY.nr, ↓reduceIte, pLEt, pLEf, pLTt, pLTf, pEQf, pML, pMG, pMf, pMg, v]
    · subst e
      have hn := (h.j.ln j (by rw [h.s.2.1]; exact hj)).1
      rw [h.s.2.2.2 j hj] at hn
      have hn' : d (48 + 7 * j + 3) = nI (T j) := by rw [show 48 + 7 * j + 3 = 51 + 7 * j by omega]; exact hn
      simp (disch := omega) only [↓ck, ↓lt_eq, bd_some, bd2_some, ofN, nI_lit, nI_clamp, nI_add, xb_nI, hY.k0, hY.g2, hY.g3, hY.g4, hY.g5, hY.g6, hY.p2, hY.p3, hY.p4, hY.p5, hY.p6, hY.k1, hY.n1, hY.k84, hY.n84, hY.k85, hY.n85, hY.k86, hY.n86, hY.k87, hY.n87, hY.gh, hY.ph, hY.kh, hY.nh, hY.gl, hY.pl', hY.kl, hY.nl, hY.gt, hY.pt, hY.kt, hY.nt, hY.gr', hY.pr, hY.kr, hY.nr, ↓reduceIte, pLEt, pLEf, pLTt, pLTf, pEQf, pML, pMG, pMf, pMg, hn']
      rfl
    · subst e
      simp (disch := omega) only [↓ck, ↓lt_eq, bd_some, bd2_some, ofN, nI_lit, nI_clamp, nI_add, xb_nI, hY.k0, hY.g2, hY.g3, hY.g4, hY.g5, hY.g6, hY.p2, hY.p3, hY.p4, hY.p5, hY.p6, hY.k1, hY.n1, hY.k84, hY.n84, hY.k85, hY.n85, hY.k86, hY.n86, hY.k87, hY.n87, hY.gh, hY.ph, hY.kh, hY.nh, hY.gl, hY.pl', hY.kl, hY.nl, hY.gt, hY.pt, hY.kt, hY.nt, hY.gr', hY.pr, hY.kr, hY.nr, ↓reduceIte, pLEt, pLEf, pLTt, pLTf, pEQf, pML, pMG, pMf, pMg, cntF]
      rfl
  | succ z ih =>
    intro i a D9 hi hD9
    obtain ⟨D8, rfl⟩ : ∃ z, D9 = z + 1 := ⟨D9 - 1, by omega⟩
    have r0 : gi N (pl (24 + i)) 0 = d (104 + 8 * i) := h.n.r0 (by omega)
    have r3 : gi N (pl (24 + i)) 3 = d (107 + 8 * i) := h.n.r3 (by omega)
    have r4 : gi N (pl (24 + i)) 4 = d (108 + 8 * i) := h.n.r4 (by omega)
    have no : sFreeP d (nI j) (-nI 1) i = false → (if k < 4 then d (48 + 7 * j + k) else nI (a + cntF (sFreeP d (nI j) (-nI 1)) (i + 1) z)) = (if k < 4 then d (48 + 7 * j + k) else nI (a + cntF (sFreeP d (nI j) (-nI 1)) i (z + 1))) := fun e => by
      rw [cntF, e]
      simp
    have IH := ih (i + 1) a D8 (by omega) (by omega)
    rw [f_X8_ofLine_16]
    by_cases p1 : d (107 + 8 * i) = nI 1
    · by_cases p2 : d (104 + 8 * i) = nI j
      · rcases (h.j.opens (r := i) (by rw [h.s.2.2.1]; omega) p1).1 with p3 | ⟨x, x1, x2⟩
        · have IH := ih (i + 1) (a + 1) D8 (by omega) (by omega)
          have yes : (if k < 4 then d (48 + 7 * j + k) else nI (a + 1 + cntF (sFreeP d (nI j) (-nI 1)) (i + 1) z)) = (if k < 4 then d (48 + 7 * j + k) else nI (a + cntF (sFreeP d (nI j) (-nI 1)) i (z + 1))) := by
            rw [cntF, sFreeP_t p1 p2 p3]
            simp only [if_true]
            rw [show a + 1 + cntF (sFreeP d (nI j) (-nI 1)) (i + 1) z = a + (1 + cntF (sFreeP d (nI j) (-nI 1)) (i + 1) z) by omega]
          rw [yes] at IH
          simp (disch := omega) only [↓ck, ↓lt_eq, bd_some, bd2_some, ofN, nI_lit, nI_clamp, nI_add, xb_nI, hY.k0, hY.g2, hY.g3, hY.g4, hY.g5, hY.g6, hY.p2, hY.p3, hY.p4, hY.p5, hY.p6, hY.k1, hY.n1, hY.k84, hY.n84, hY.k85, hY.n85, hY.k86, hY.n86, hY.k87, hY.n87, hY.gh, hY.ph, hY.kh, hY.nh, hY.gl, hY.pl', hY.kl, hY.nl, hY.gt, hY.pt, hY.kt, hY.nt, hY.gr', hY.pr, hY.kr, hY.nr, ↓reduceIte, pLEt, pLEf, pLTt, pLTf, pEQf, pML, pMG, pMf, pMg, r0, r3, r4, eq_true p1, eq_true p2, p3]
          exact IH
        · have hx : x < 6 := by rw [h.s.1] at x1; omega
          have e : sFreeP d (nI j) (-nI 1) i = false := by
            unfold sFreeP
            rw [x2, decide_eq_false (nI_neg1 (by omega) : ¬ nI x = -nI 1), Bool.and_false, Bool.and_false]
          rw [no e] at IH
          simp (disch := omega) only [↓ck, ↓lt_eq, bd_some, bd2_some, ofN, nI_lit, nI_clamp, nI_add, xb_nI, hY.k0, hY.g2, hY.g3, hY.g4, hY.g5, hY.g6, hY.p2, hY.p3, hY.p4, hY.p5, hY.p6, hY.k1, hY.n1, hY.k84, hY.n84, hY.k85, hY.n85, hY.k86, hY.n86, hY.k87, hY.n87, hY.gh, hY.ph, hY.kh, hY.nh, hY.gl, hY.pl', hY.kl, hY.nl, hY.gt, hY.pt, hY.kt, hY.nt, hY.gr', hY.pr, hY.kr, hY.nr, ↓reduceIte, pLEt, pLEf, pLTt, pLTf, pEQf, pML, pMG, pMf, pMg, r0, r3, r4, eq_true p1, eq_true p2, x2]
          exact IH
      · have e : sFreeP d (nI j) (-nI 1) i = false := by
          unfold sFreeP
          rw [decide_eq_false p2, Bool.false_and, Bool.and_false]
        rw [no e] at IH
        simp (disch := omega) only [↓ck, ↓lt_eq, bd_some, bd2_some, ofN, nI_lit, nI_clamp, nI_add, xb_nI, hY.k0, hY.g2, hY.g3, hY.g4, hY.g5, hY.g6, hY.p2, hY.p3, hY.p4, hY.p5, hY.p6, hY.k1, hY.n1, hY.k84, hY.n84, hY.k85, hY.n85, hY.k86, hY.n86, hY.k87, hY.n87, hY.gh, hY.ph, hY.kh, hY.nh, hY.gl, hY.pl', hY.kl, hY.nl, hY.gt, hY.pt, hY.kt, hY.nt, hY.gr', hY.pr, hY.kr, hY.nr, ↓reduceIte, pLEt, pLEf, pLTt, pLTf, pEQf, pML, pMG, pMf, pMg, r0, r3, r4, eq_true p1, eq_false p2]
        exact IH
    · have e : sFreeP d (nI j) (-nI 1) i = false := by
        unfold sFreeP sOpen
        rw [decide_eq_false p1, Bool.false_and]
      rw [no e] at IH
      simp (disch := omega) only [↓ck, ↓lt_eq, bd_some, bd2_some, ofN, nI_lit, nI_clamp, nI_add, xb_nI, hY.k0, hY.g2, hY.g3, hY.g4, hY.g5, hY.g6, hY.p2, hY.p3, hY.p4, hY.p5, hY.p6, hY.k1, hY.n1, hY.k84, hY.n84, hY.k85, hY.n85, hY.k86, hY.n86, hY.k87, hY.n87, hY.gh, hY.ph, hY.kh, hY.nh, hY.gl, hY.pl', hY.kl, hY.nl, hY.gt, hY.pt, hY.kt, hY.nt, hY.gr', hY.pr, hY.kr, hY.nr, ↓reduceIte, pLEt, pLEf, pLTt, pLTf, pEQf, pML, pMG, pMf, pMg, r3, eq_false p1]
      exact IH
theorem Q_ofLine (h : DQ Y N pl H L R T ops d) (hj : j < L) (hk : k < 5) : f_X8_ofLine Y (pl 0) (nI j) (nI k) N = some (sToldL d j k, N) := by
  have hY := h.y
  have h60 := hY.R60
  have IN := Q_ofLine_L h hj hk R 0 0 FU (by omega) (by unfold FU; omega)
  have e : (if k < 4 then d (48 + 7 * j + k) else nI (0 + cntF (sFreeP d (nI j) (-nI 1)) 0 R)) = sToldL d j k := by
    unfold sToldL sFree cnt
    rw [h.s.2.2.1, Nat.zero_add]
  rw [e] at IN
  unfold f_X8_ofLine
  simp (disch := omega) only [↓ck, ↓lt_eq, bd_some, bd2_some, ofN, nI_lit, nI_clamp, nI_add, xb_nI, hY.k0, hY.g2, hY.g3, hY.g4, hY.g5, hY.g6, hY.p2, hY.p3, hY.p4, hY.p5, hY.p6, hY.k1, hY.n1, hY.k84, hY.n84, hY.k85, hY.n85, hY.k86, hY.n86, hY.k87, hY.n87, hY.gh, hY.ph, hY.kh, hY.nh, hY.gl, hY.pl', hY.kl, hY.nl, hY.gt, hY.pt, hY.kt, hY.nt, hY.gr', hY.pr, hY.kr, hY.nr, ↓reduceIte, pLEt, pLEf, pLTt, pLTf, pEQf, pML, pMG, pMf, pMg]
  exact IN
/-! its checksum -/
theorem Q_req (h : DQ Y N pl H L R T ops d) (hj : j < R) {p : Nat} {K : Int64 → Nat → Int32 → Int32 → XN → Option (Int64 × XN)} : ∀ (z k D9 : Nat) (v : Int64), k + z = 7 → z < D9 → f_X8_checksum_198 Y K D9 v p (nI R) (nI j) (pl (24 + j)) (nI k) N = K (fo (fun k v => ckS v (sReq d j k)) k z v) p (nI R) (nI (j + 1)) N := by
  have hY := h.y
  have h60 := hY.R60
  intro z
  induction z with
  | zero =>
    intro k D9 v hi hD9
    obtain ⟨D8, rfl⟩ : ∃ z, D9 = z + 1 := ⟨D9 - 1, by omega⟩
    rw [f_X8_checksum_198]
    simp (disch := omega) only [↓ck, ↓lt_eq, bd_some, bd2_some, ofN, nI_lit, nI_clamp, nI_add, xb_nI, hY.k0, hY.g2, hY.g3, hY.g4, hY.g5, hY.g6, hY.p2, hY.p3, hY.p4, hY.p5, hY.p6, hY.k1, hY.n1, hY.k84, hY.n84, hY.k85, hY.n85, hY.k86, hY.n86, hY.k87, hY.n87, hY.gh, hY.ph, hY.kh, hY.nh, hY.gl, hY.pl', hY.kl, hY.nl, hY.gt, hY.pt, hY.kt, hY.nt, hY.gr', hY.pr, hY.kr, hY.nr, ↓reduceIte, pLEt, pLEf, pLTt, pLTf, pEQf, pML, pMG, pMf, pMg]
    rfl
  | succ z ih =>
    intro k D9 v hi hD9
    obtain ⟨D8, rfl⟩ : ∃ z, D9 = z + 1 := ⟨D9 - 1, by omega⟩
    have IH := ih (k + 1) D8 (ckS v (sReq d j k)) (by omega) (by omega)
    have r := h.rr hj (k := k) (by omega)
    rw [f_X8_checksum_198]
    simp (disch := omega) only [↓ck, ↓lt_eq, bd_some, bd2_some, ofN, nI_lit, nI_clamp, nI_add, xb_nI, hY.k0, hY.g2, hY.g3, hY.g4, hY.g5, hY.g6, hY.p2, hY.p3, hY.p4, hY.p5, hY.p6, hY.k1, hY.n1, hY.k84, hY.n84, hY.k85, hY.n85, hY.k86, hY.n86, hY.k87, hY.n87, hY.gh, hY.ph, hY.kh, hY.nh, hY.gl, hY.pl', hY.kl, hY.nl, hY.gt, hY.pt, hY.kt, hY.nt, hY.gr', hY.pr, hY.kr, hY.nr, ↓reduceIte, pLEt, pLEf, pLTt, pLTf, pEQf, pML, pMG, pMf, pMg, r]
    exact IH
theorem Q_reqs (h : DQ Y N pl H L R T ops d) : ∀ (z i D9 : Nat) (v : Int64), i + z = R → z < D9 → f_X8_checksum_182 Y D9 v (pl 87) (nI R) (nI i) N = some (fo (ckR d) i z v, N) := by
  have hY := h.y
  have h60 := hY.R60
  intro z
  induction z with
  | zero =>
    intro i D9 v hi hD9
    obtain ⟨D8, rfl⟩ : ∃ z, D9 = z + 1 := ⟨D9 - 1, by omega⟩
    rw [f_X8_checksum_182]
    simp (disch := omega) only [↓ck, ↓lt_eq, bd_some, bd2_some, ofN, nI_lit, nI_clamp, nI_add, xb_nI, hY.k0, hY.g2, hY.g3, hY.g4, hY.g5, hY.g6, hY.p2, hY.p3, hY.p4, hY.p5, hY.p6, hY.k1, hY.n1, hY.k84, hY.n84, hY.k85, hY.n85, hY.k86, hY.n86, hY.k87, hY.n87, hY.gh, hY.ph, hY.kh, hY.nh, hY.gl, hY.pl', hY.kl, hY.nl, hY.gt, hY.pt, hY.kt, hY.nt, hY.gr', hY.pr, hY.kr, hY.nr, ↓reduceIte, pLEt, pLEf, pLTt, pLTf, pEQf, pML, pMG, pMf, pMg]
    rfl
  | succ z ih =>
    intro i D9 v hi hD9
    obtain ⟨D8, rfl⟩ : ∃ z, D9 = z + 1 := ⟨D9 - 1, by omega⟩
    have IH := ih (i + 1) D8 (ckR d i v) (by omega) (by omega)
    have IN := Q_req h (j := i) (by omega) (p := pl 87) (K := f_X8_checksum_182 Y D8) 7 0 FU v (by omega) (by unfold FU; omega)
    rw [f_X8_checksum_182]
    simp (disch := omega) only [↓ck, ↓lt_eq, bd_some, bd2_some, ofN, nI_lit, nI_clamp, nI_add, xb_nI, hY.k0, hY.g2, hY.g3, hY.g4, hY.g5, hY.g6, hY.p2, hY.p3, hY.p4, hY.p5, hY.p6, hY.k1, hY.n1, hY.k84, hY.n84, hY.k85, hY.n85, hY.k86, hY.n86, hY.k87, hY.n87, hY.gh, hY.ph, hY.kh, hY.nh, hY.gl, hY.pl', hY.kl, hY.nl, hY.gt, hY.pt, hY.kt, hY.nt, hY.gr', hY.pr, hY.kr, hY.nr, ↓reduceIte, pLEt, pLEf, pLTt, pLTf, pEQf, pML, pMG, pMf, pMg]
    exact IN.trans IH
theorem Q_ten (h : DQ Y N pl H L R T ops d) (hj : j < L) {K : Nat → Int64 → Int32 → XN → Option (Int64 × XN)} : ∀ (z k D9 : Nat) (v : Int64), k + z = T j → z < D9 → f_X8_checksum_134 Y K D9 (pl 0) v (nI j) (pl (16 + j)) (nI (T j)) (nI k) N = K (pl 0) (fo (fun k v => ckS v (d (52 + 7 * j + k))) k z v) (nI (j + 1)) N := by
  have hY := h.y
  have h60 := hY.R60
  have h3 := h.n.1.2.2.2.2 j hj
  intro z
  induction z with
  | zero =>
    intro k D9 v hi hD9
    obtain ⟨D8, rfl⟩ : ∃ z, D9 = z + 1 := ⟨D9 - 1, by omega⟩
    rw [f_X8_checksum_134]
    simp (disch := omega) only [↓ck, ↓lt_eq, bd_some, bd2_some, ofN, nI_lit, nI_clamp, nI_add, xb_nI, hY.k0, hY.g2, hY.g3, hY.g4, hY.g5, hY.g6, hY.p2, hY.p3, hY.p4, hY.p5, hY.p6, hY.k1, hY.n1, hY.k84, hY.n84, hY.k85, hY.n85, hY.k86, hY.n86, hY.k87, hY.n87, hY.gh, hY.ph, hY.kh, hY.nh, hY.gl, hY.pl', hY.kl, hY.nl, hY.gt, hY.pt, hY.kt, hY.nt, hY.gr', hY.pr, hY.kr, hY.nr, ↓reduceIte, pLEt, pLEf, pLTt, pLTf, pEQf, pML, pMG, pMf, pMg]
    rfl
  | succ z ih =>
    intro k D9 v hi hD9
    obtain ⟨D8, rfl⟩ : ∃ z, D9 = z + 1 := ⟨D9 - 1, by omega⟩
    have IH := ih (k + 1) D8 (ckS v (d (52 + 7 * j + k))) (by omega) (by omega)
    have r : gi N (pl (16 + j)) k = d (52 + 7 * j + k) := h.n.t hj (by omega)
    rw [f_X8_checksum_134]
    simp (disch := omega) only [↓ck, ↓lt_eq, bd_some, bd2_some, ofN, nI_lit, nI_clamp, nI_add, xb_nI, hY.k0, hY.g2, hY.g3, hY.g4, hY.g5, hY.g6, hY.p2, hY.p3, hY.p4, hY.p5, hY.p6, hY.k1, hY.n1, hY.k84, hY.n84, hY.k85, hY.n85, hY.k86, hY.n86, hY.k87, hY.n87, hY.gh, hY.ph, hY.kh, hY.nh, hY.gl, hY.pl', hY.kl, hY.nl, hY.gt, hY.pt, hY.kt, hY.nt, hY.gr', hY.pr, hY.kr, hY.nr, ↓reduceIte, pLEt, pLEf, pLTt, pLTf, pEQf, pML, pMG, pMf, pMg, r]
    exact IH
theorem Q_line (h : DQ Y N pl H L R T ops d) (hj : j < L) {K : Nat → Int64 → Int32 → XN → Option (Int64 × XN)} : ∀ (z k D9 : Nat) (v : Int64), k + z = 5 → z < D9 → f_X8_checksum_91 Y K D9 (pl 0) v (nI j) (nI k) N = K (pl 0) (ckTn d j (fo (fun k v => ckS v (sToldL d j k)) k z v)) (nI (j + 1)) N := by
  have hY := h.y
  have h60 := hY.R60
  have h3 := h.n.1.2.2.2.2 j hj
  have l3 := h.l3
  intro z
  induction z with
  | zero =>
    intro k D9 v hi hD9
    obtain ⟨D8, rfl⟩ : ∃ z, D9 = z + 1 := ⟨D9 - 1, by omega⟩
    have IN := Q_ten h hj (K := K) (T j) 0 FU v (by omega) (by unfold FU; omega)
    have e : ckTn d j v = fo (fun k v => ckS v (d (52 + 7 * j + k))) 0 (T j) v := by unfold ckTn; rw [h.s.2.2.2 j hj]
    rw [fo, e, ← IN, f_X8_checksum_91]
    simp (disch := omega) only [↓ck, ↓lt_eq, bd_some, bd2_some, ofN, nI_lit, nI_clamp, nI_add, xb_nI, hY.k0, hY.g2, hY.g3, hY.g4, hY.g5, hY.g6, hY.p2, hY.p3, hY.p4, hY.p5, hY.p6, hY.k1, hY.n1, hY.k84, hY.n84, hY.k85, hY.n85, hY.k86, hY.n86, hY.k87, hY.n87, hY.gh, hY.ph, hY.kh, hY.nh, hY.gl, hY.pl', hY.kl, hY.nl, hY.gt, hY.pt, hY.kt, hY.nt, hY.gr', hY.pr, hY.kr, hY.nr, ↓reduceIte, pLEt, pLEf, pLTt, pLTf, pEQf, pML, pMG, pMf, pMg]
  | succ z ih =>
    intro k D9 v hi hD9
    obtain ⟨D8, rfl⟩ : ∃ z, D9 = z + 1 := ⟨D9 - 1, by omega⟩
    have IH := ih (k + 1) D8 (ckS v (sToldL d j k)) (by omega) (by omega)
    have r := Q_ofLine h hj (k := k) (by omega)
    rw [f_X8_checksum_91]
    simp (disch := omega) only [↓ck, ↓lt_eq, bd_some, bd2_some, ofN, nI_lit, nI_clamp, nI_add, xb_nI, hY.k0, hY.g2, hY.g3, hY.g4, hY.g5, hY.g6, hY.p2, hY.p3, hY.p4, hY.p5, hY.p6, hY.k1, hY.n1, hY.k84, hY.n84, hY.k85, hY.n85, hY.k86, hY.n86, hY.k87, hY.n87, hY.gh, hY.ph, hY.kh, hY.nh, hY.gl, hY.pl', hY.kl, hY.nl, hY.gt, hY.pt, hY.kt, hY.nt, hY.gr', hY.pr, hY.kr, hY.nr, ↓reduceIte, pLEt, pLEf, pLTt, pLTf, pEQf, pML, pMG, pMf, pMg, ↓bd_ite, ↓bd2_ite, ↓bd3_ite, ↓bd4_ite, Option.isSome_some, Option.getD_some, r]
    exact IH
theorem Q_lines (h : DQ Y N pl H L R T ops d) : ∀ (z i D9 : Nat) (v : Int64), i + z = L → z < D9 → f_X8_checksum_79 Y D9 (pl 0) v (nI i) N = some (fo (ckR d) 0 R (fo (ckL d) i z v), N) := by
  have hY := h.y
  have h60 := hY.R60
  have l3 := h.l3
  intro z
  induction z with
  | zero =>
    intro i D9 v hi hD9
    obtain ⟨D8, rfl⟩ : ∃ z, D9 = z + 1 := ⟨D9 - 1, by omega⟩
    have IN := Q_reqs h R 0 FU v (by omega) (by unfold FU; omega)
    rw [f_X8_checksum_79]
    simp (disch := omega) only [↓ck, ↓lt_eq, bd_some, bd2_some, ofN, nI_lit, nI_clamp, nI_add, xb_nI, hY.k0, hY.g2, hY.g3, hY.g4, hY.g5, hY.g6, hY.p2, hY.p3, hY.p4, hY.p5, hY.p6, hY.k1, hY.n1, hY.k84, hY.n84, hY.k85, hY.n85, hY.k86, hY.n86, hY.k87, hY.n87, hY.gh, hY.ph, hY.kh, hY.nh, hY.gl, hY.pl', hY.kl, hY.nl, hY.gt, hY.pt, hY.kt, hY.nt, hY.gr', hY.pr, hY.kr, hY.nr, ↓reduceIte, pLEt, pLEf, pLTt, pLTf, pEQf, pML, pMG, pMf, pMg]
    exact IN
  | succ z ih =>
    intro i D9 v hi hD9
    obtain ⟨D8, rfl⟩ : ∃ z, D9 = z + 1 := ⟨D9 - 1, by omega⟩
    have IH := ih (i + 1) D8 (ckL d i v) (by omega) (by omega)
    have IN := Q_line h (j := i) (by omega) (K := f_X8_checksum_79 Y D8) 5 0 FU v (by omega) (by unfold FU; omega)
    rw [f_X8_checksum_79]
    simp (disch := omega) only [↓ck, ↓lt_eq, bd_some, bd2_some, ofN, nI_lit, nI_clamp, nI_add, xb_nI, hY.k0, hY.g2, hY.g3, hY.g4, hY.g5, hY.g6, hY.p2, hY.p3, hY.p4, hY.p5, hY.p6, hY.k1, hY.n1, hY.k84, hY.n84, hY.k85, hY.n85, hY.k86, hY.n86, hY.k87, hY.n87, hY.gh, hY.ph, hY.kh, hY.nh, hY.gl, hY.pl', hY.kl, hY.nl, hY.gt, hY.pt, hY.kt, hY.nt, hY.gr', hY.pr, hY.kr, hY.nr, ↓reduceIte, pLEt, pLEf, pLTt, pLTf, pEQf, pML, pMG, pMf, pMg]
    exact IN.trans IH
theorem Q_han (h : DQ Y N pl H L R T ops d) (hj : j < H) {K : Nat → Int64 → Int32 → XN → Option (Int64 × XN)} : ∀ (z k D9 : Nat) (v : Int64), k + z = 8 → z < D9 → f_X8_checksum_43 Y K D9 (pl 0) v (nI j) (nI k) N = K (pl 0) (fo (fun k v => ckS v (sToldH d j k)) k z v) (nI (j + 1)) N := by
  have hY := h.y
  intro z
  induction z with
  | zero =>
    intro k D9 v hi hD9
    obtain ⟨D8, rfl⟩ : ∃ z, D9 = z + 1 := ⟨D9 - 1, by omega⟩
    rw [f_X8_checksum_43]
    simp (disch := omega) only [↓ck, ↓lt_eq, bd_some, bd2_some, ofN, nI_lit, nI_clamp, nI_add, xb_nI, hY.k0, hY.g2, hY.g3, hY.g4, hY.g5, hY.g6, hY.p2, hY.p3, hY.p4, hY.p5, hY.p6, hY.k1, hY.n1, hY.k84, hY.n84, hY.k85, hY.n85, hY.k86, hY.n86, hY.k87, hY.n87, hY.gh, hY.ph, hY.kh, hY.nh, hY.gl, hY.pl', hY.kl, hY.nl, hY.gt, hY.pt, hY.kt, hY.nt, hY.gr', hY.pr, hY.kr, hY.nr, ↓reduceIte, pLEt, pLEf, pLTt, pLTf, pEQf, pML, pMG, pMf, pMg]
    rfl
  | succ z ih =>
    intro k D9 v hi hD9
    obtain ⟨D8, rfl⟩ : ∃ z, D9 = z + 1 := ⟨D9 - 1, by omega⟩
    have IH := ih (k + 1) D8 (ckS v (sToldH d j k)) (by omega) (by omega)
    have r := Q_ofHandler h hj (k := k) (by omega)
    rw [f_X8_checksum_43]
    simp (disch := omega) only [↓ck, ↓lt_eq, bd_some, bd2_some, ofN, nI_lit, nI_clamp, nI_add, xb_nI, hY.k0, hY.g2, hY.g3, hY.g4, hY.g5, hY.g6, hY.p2, hY.p3, hY.p4, hY.p5, hY.p6, hY.k1, hY.n1, hY.k84, hY.n84, hY.k85, hY.n85, hY.k86, hY.n86, hY.k87, hY.n87, hY.gh, hY.ph, hY.kh, hY.nh, hY.gl, hY.pl', hY.kl, hY.nl, hY.gt, hY.pt, hY.kt, hY.nt, hY.gr', hY.pr, hY.kr, hY.nr, ↓reduceIte, pLEt, pLEf, pLTt, pLTf, pEQf, pML, pMG, pMf, pMg, ↓bd_ite, ↓bd2_ite, ↓bd3_ite, ↓bd4_ite, Option.isSome_some, Option.getD_some, r]
    exact IH
theorem Q_hans (h : DQ Y N pl H L R T ops d) : ∀ (z i D9 : Nat) (v : Int64), i + z = H → z < D9 → f_X8_checksum_31 Y D9 (pl 0) v (nI i) N = some (fo (ckR d) 0 R (fo (ckL d) 0 L (fo (ckH d) i z v)), N) := by
  have hY := h.y
  have h6 := hY.H6
  have l3 := h.l3
  intro z
  induction z with
  | zero =>
    intro i D9 v hi hD9
    obtain ⟨D8, rfl⟩ : ∃ z, D9 = z + 1 := ⟨D9 - 1, by omega⟩
    have IN := Q_lines h L 0 FU v (by omega) (by unfold FU; omega)
    rw [f_X8_checksum_31]
    simp (disch := omega) only [↓ck, ↓lt_eq, bd_some, bd2_some, ofN, nI_lit, nI_clamp, nI_add, xb_nI, hY.k0, hY.g2, hY.g3, hY.g4, hY.g5, hY.g6, hY.p2, hY.p3, hY.p4, hY.p5, hY.p6, hY.k1, hY.n1, hY.k84, hY.n84, hY.k85, hY.n85, hY.k86, hY.n86, hY.k87, hY.n87, hY.gh, hY.ph, hY.kh, hY.nh, hY.gl, hY.pl', hY.kl, hY.nl, hY.gt, hY.pt, hY.kt, hY.nt, hY.gr', hY.pr, hY.kr, hY.nr, ↓reduceIte, pLEt, pLEf, pLTt, pLTf, pEQf, pML, pMG, pMf, pMg]
    exact IN
  | succ z ih =>
    intro i D9 v hi hD9
    obtain ⟨D8, rfl⟩ : ∃ z, D9 = z + 1 := ⟨D9 - 1, by omega⟩
    have IH := ih (i + 1) D8 (ckH d i v) (by omega) (by omega)
    have IN := Q_han h (j := i) (by omega) (K := f_X8_checksum_31 Y D8) 8 0 FU v (by omega) (by unfold FU; omega)
    rw [f_X8_checksum_31]
    simp (disch := omega) only [↓ck, ↓lt_eq, bd_some, bd2_some, ofN, nI_lit, nI_clamp, nI_add, xb_nI, hY.k0, hY.g2, hY.g3, hY.g4, hY.g5, hY.g6, hY.p2, hY.p3, hY.p4, hY.p5, hY.p6, hY.k1, hY.n1, hY.k84, hY.n84, hY.k85, hY.n85, hY.k86, hY.n86, hY.k87, hY.n87, hY.gh, hY.ph, hY.kh, hY.nh, hY.gl, hY.pl', hY.kl, hY.nl, hY.gt, hY.pt, hY.kt, hY.nt, hY.gr', hY.pr, hY.kr, hY.nr, ↓reduceIte, pLEt, pLEf, pLTt, pLTf, pEQf, pML, pMG, pMf, pMg]
    exact IN.trans IH
theorem Q_sums (h : DQ Y N pl H L R T ops d) : ∀ (z k D9 : Nat) (v : Int64), k + z = 10 → z < D9 → f_X8_checksum_4 Y D9 (pl 0) v (nI k) N = some (fo (ckR d) 0 R (fo (ckL d) 0 L (fo (ckH d) 0 H (fo (fun k v => ckS v (sTold d k)) k z v))), N) := by
  have hY := h.y
  have h6 := hY.H6
  intro z
  induction z with
  | zero =>
    intro k D9 v hi hD9
    obtain ⟨D8, rfl⟩ : ∃ z, D9 = z + 1 := ⟨D9 - 1, by omega⟩
    have IN := Q_hans h H 0 FU v (by omega) (by unfold FU; omega)
    rw [f_X8_checksum_4]
    simp (disch := omega) only [↓ck, ↓lt_eq, bd_some, bd2_some, ofN, nI_lit, nI_clamp, nI_add, xb_nI, hY.k0, hY.g2, hY.g3, hY.g4, hY.g5, hY.g6, hY.p2, hY.p3, hY.p4, hY.p5, hY.p6, hY.k1, hY.n1, hY.k84, hY.n84, hY.k85, hY.n85, hY.k86, hY.n86, hY.k87, hY.n87, hY.gh, hY.ph, hY.kh, hY.nh, hY.gl, hY.pl', hY.kl, hY.nl, hY.gt, hY.pt, hY.kt, hY.nt, hY.gr', hY.pr, hY.kr, hY.nr, ↓reduceIte, pLEt, pLEf, pLTt, pLTf, pEQf, pML, pMG, pMf, pMg]
    exact IN
  | succ z ih =>
    intro k D9 v hi hD9
    obtain ⟨D8, rfl⟩ : ∃ z, D9 = z + 1 := ⟨D9 - 1, by omega⟩
    have IH := ih (k + 1) D8 (ckS v (sTold d k)) (by omega) (by omega)
    have r := Q_told h (k := k) (by omega)
    rw [f_X8_checksum_4]
    simp (disch := omega) only [↓ck, ↓lt_eq, bd_some, bd2_some, ofN, nI_lit, nI_clamp, nI_add, xb_nI, hY.k0, hY.g2, hY.g3, hY.g4, hY.g5, hY.g6, hY.p2, hY.p3, hY.p4, hY.p5, hY.p6, hY.k1, hY.n1, hY.k84, hY.n84, hY.k85, hY.n85, hY.k86, hY.n86, hY.k87, hY.n87, hY.gh, hY.ph, hY.kh, hY.nh, hY.gl, hY.pl', hY.kl, hY.nl, hY.gt, hY.pt, hY.kt, hY.nt, hY.gr', hY.pr, hY.kr, hY.nr, ↓reduceIte, pLEt, pLEf, pLTt, pLTf, pEQf, pML, pMG, pMf, pMg, ↓bd_ite, ↓bd2_ite, ↓bd3_ite, ↓bd4_ite, Option.isSome_some, Option.getD_some, r]
    exact IH
theorem Q_checksum (h : DQ Y N pl H L R T ops d) : f_X8_checksum Y (pl 0) N = some (sSumAll d, N) := by
  have IN := Q_sums h 10 0 FU 0 (by omega) (by unfold FU; omega)
  unfold f_X8_checksum sSumAll
  rw [h.s.1, h.s.2.1, h.s.2.2.1]
  exact IN
end DQS
