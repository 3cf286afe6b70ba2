/-! THE FACE: checksum (laid out by gen97.py) -/
theorem bdx_inl {α β γ : Type} (v : α) (b : β) (f : α → β → Option γ) : bdx (some (.inl v, b)) f = f v b := (rfl)
def ck (v : Int64) (x : Int32) : Int64 := 31 * v + Int32.toInt64 x
def ckR (d : XD) (r : Nat) (v : Int64) : Int64 := fo (fun k v => ck v (sReq d r k)) 0 7 v
def ckT (d : XD) (l : Nat) (v : Int64) : Int64 := fo (fun k v => ck v (d (52 + 7 * l + k))) 0 (nT d l) v
def ckL (d : XD) (l : Nat) (v : Int64) : Int64 := ckT d l (fo (fun k v => ck v (sToldL d l k)) 0 5 v)
def ckH (d : XD) (h : Nat) (v : Int64) : Int64 := fo (fun k v => ck v (sToldH d h k)) 0 8 v
def sSumAll (d : XD) : Int64 := fo (ckR d) 0 (nR d) (fo (ckL d) 0 (nL d) (fo (ckH d) 0 (nH d) (fo (fun k v => ck v (sTold d k)) 0 10 0)))
section CK
variable {P : Nat → Int32} {Y : XY} {B w : Nat} {N : XN} {d : XD} {ops : List Int32}
theorem K_tenant (h5 : gp Y B 5 = w) (hW : WY Y w) (hD : DJ ops d) (hC : CR P ops d (wc N w)) {l k : Nat} (hl : l < nL d) (hk : k < nT d l) : f_X7_tenant Y B (nI l) (nI k) N = some (.inl (d (52 + 7 * l + k)), N) := by
  have h8 := hD.L8
  have e : gi N w 3 = nI (nL d) := (hC.1.w3).trans hD.L
  obtain ⟨t1, t2, t3, -⟩ := hD.ln l hl
  have e2 := (K_has_in (Y := Y) (N := N) (w := w) (d := d) (j := l)).2.1 e h8 hl
  unfold f_X7_tenant
  simp (disch := omega) only [nI_lit, ↓lt_eq, h5, e2, ↓reduceIte, pLEt, pLEf, pLTt, pLTf, pEQf, pML, pMG, pMf, pMg, nz10, xb_nI, nI_clamp, if_true, hW.g2, hW.l, hW.t, gi_wc N w, hC.1.l4, t1, hC.1.t]

theorem Ck_req (h5 : gp Y B 5 = w) (hW : WY Y w) (hD : DJ ops d) (hC : CR P ops d (wc N w)) {j : Nat} (hj : j < nR d) (K : Nat → Int64 → Int32 → XN → Option (Int64 × XN)) : ∀ (z k D9 : Nat) (v : Int64), k + z = 7 → z < D9 → f_X7_checksum_185 Y K D9 B v (nI j) (nI k) N = K B (fo (fun k v => ck v (sReq d j k)) k z v) (nI (j + 1)) N := by
  have h6 := hD.H6
  have h8 := hD.L8
  have h60 := hD.R60
  have c1 : gi N w 1 = nI (nH d) := (hC.1.w1).trans hD.H
  have c3 : gi N w 3 = nI (nL d) := (hC.1.w3).trans hD.L
  have c5 : gi N w 5 = nI (nR d) := (hC.1.w5).trans hD.R
  intro z
  induction z with
  | zero =>
    intro k D9 v hi hD9
    obtain ⟨D8, rfl⟩ : ∃ z, D9 = z + 1 := ⟨D9 - 1, by omega⟩
    rw [f_X7_checksum_185]
    simp (disch := omega) only [↓lt_eq, nI_lit, nI_add, ↓reduceIte, pLEt, pLEf, pLTt, pLTf, pEQf, pML, pMG, pMf, pMg, c5]
    rfl
  | succ z ih =>
    intro k D9 v hi hD9
    obtain ⟨D8, rfl⟩ : ∃ z, D9 = z + 1 := ⟨D9 - 1, by omega⟩
    have IH := ih (k + 1) D8 (ck v (sReq d j k)) (by omega) (by omega)
    have hk := K_request h5 hW hD hC hj (k := k) (by omega)
    rw [f_X7_checksum_185]
    simp (disch := omega) only [↓lt_eq, nI_lit, nI_add, ↓reduceIte, pLEt, pLEf, pLTt, pLTf, pEQf, pML, pMG, pMf, pMg, bdx_inl, bd_some, c5, hk]
    exact IH

theorem Ck_reqs (h5 : gp Y B 5 = w) (hW : WY Y w) (hD : DJ ops d) (hC : CR P ops d (wc N w)) : ∀ (z i D9 : Nat) (v : Int64), i + z = nR d → z < D9 → f_X7_checksum_171 Y D9 B v (nI i) N = some (fo (ckR d) i z v, N) := by
  have h6 := hD.H6
  have h8 := hD.L8
  have h60 := hD.R60
  have c1 : gi N w 1 = nI (nH d) := (hC.1.w1).trans hD.H
  have c3 : gi N w 3 = nI (nL d) := (hC.1.w3).trans hD.L
  have c5 : gi N w 5 = nI (nR d) := (hC.1.w5).trans hD.R
  intro z
  induction z with
  | zero =>
    intro i D9 v hi hD9
    obtain ⟨D8, rfl⟩ : ∃ z, D9 = z + 1 := ⟨D9 - 1, by omega⟩
    rw [f_X7_checksum_171]
    simp (disch := omega) only [↓lt_eq, nI_lit, nI_add, ↓reduceIte, pLEt, pLEf, pLTt, pLTf, pEQf, pML, pMG, pMf, pMg, h5, c5]
    rfl
  | succ z ih =>
    intro i D9 v hi hD9
    obtain ⟨D8, rfl⟩ : ∃ z, D9 = z + 1 := ⟨D9 - 1, by omega⟩
    have IH := ih (i + 1) D8 (ckR d i v) (by omega) (by omega)
    have IN := Ck_req h5 hW hD hC (j := i) (by omega) (f_X7_checksum_171 Y D8) 7 0 FU v (by omega) (by unfold FU; omega)
    rw [f_X7_checksum_171]
    simp (disch := omega) only [↓lt_eq, nI_lit, nI_add, ↓reduceIte, pLEt, pLEf, pLTt, pLTf, pEQf, pML, pMG, pMf, pMg, h5, c5]
    exact IN.trans IH

theorem Ck_ten (h5 : gp Y B 5 = w) (hW : WY Y w) (hD : DJ ops d) (hC : CR P ops d (wc N w)) {j : Nat} (hj : j < nL d) (K : Nat → Int64 → Int32 → XN → Option (Int64 × XN)) : ∀ (z k D9 : Nat) (v : Int64), k + z = nT d j → z < D9 → f_X7_checksum_125 Y K D9 B v (nI j) (nI k) N = K B (fo (fun k v => ck v (d (52 + 7 * j + k))) k z v) (nI (j + 1)) N := by
  have h6 := hD.H6
  have h8 := hD.L8
  have h60 := hD.R60
  have c1 : gi N w 1 = nI (nH d) := (hC.1.w1).trans hD.H
  have c3 : gi N w 3 = nI (nL d) := (hC.1.w3).trans hD.L
  have c5 : gi N w 5 = nI (nR d) := (hC.1.w5).trans hD.R
  obtain ⟨t1, t2, -, -⟩ := hD.ln j hj
  intro z
  induction z with
  | zero =>
    intro k D9 v hi hD9
    obtain ⟨D8, rfl⟩ : ∃ z, D9 = z + 1 := ⟨D9 - 1, by omega⟩
    rw [f_X7_checksum_125]
    simp (disch := omega) only [↓lt_eq, nI_lit, nI_add, ↓reduceIte, pLEt, pLEf, pLTt, pLTf, pEQf, pML, pMG, pMf, pMg, xb_nI, nI_clamp, if_true, h5, hW.g2, hW.l, gi_wc N w, hC.1.l4, t1]
    rfl
  | succ z ih =>
    intro k D9 v hi hD9
    obtain ⟨D8, rfl⟩ : ∃ z, D9 = z + 1 := ⟨D9 - 1, by omega⟩
    have IH := ih (k + 1) D8 (ck v (d (52 + 7 * j + k))) (by omega) (by omega)
    have hk := K_tenant h5 hW hD hC hj (k := k) (by omega)
    rw [f_X7_checksum_125]
    simp (disch := omega) only [↓lt_eq, nI_lit, nI_add, ↓reduceIte, pLEt, pLEf, pLTt, pLTf, pEQf, pML, pMG, pMf, pMg, bdx_inl, bd_some, xb_nI, nI_clamp, if_true, h5, hW.g2, hW.l, gi_wc N w, hC.1.l4, t1, hk]
    exact IH

theorem Ck_line (h5 : gp Y B 5 = w) (hW : WY Y w) (hD : DJ ops d) (hC : CR P ops d (wc N w)) {j : Nat} (hj : j < nL d) (K : Nat → Int64 → Int32 → XN → Option (Int64 × XN)) : ∀ (z k D9 : Nat) (v : Int64), k + z = 5 → z < D9 → f_X7_checksum_95 Y K D9 B v (nI j) (nI k) N = K B (ckT d j (fo (fun k v => ck v (sToldL d j k)) k z v)) (nI (j + 1)) N := by
  intro z
  induction z with
  | zero =>
    intro k D9 v hi hD9
    obtain ⟨D8, rfl⟩ : ∃ z, D9 = z + 1 := ⟨D9 - 1, by omega⟩
    have IN := Ck_ten h5 hW hD hC hj K (nT d j) 0 FU v (Nat.zero_add _) (by have := (hD.ln j hj).2.1; unfold FU; omega)
    rw [f_X7_checksum_95]
    simp (disch := omega) only [↓lt_eq, nI_lit, nI_add, ↓reduceIte, pLEt, pLEf, pLTt, pLTf, pEQf, pML, pMG, pMf, pMg]
    exact IN
  | succ z ih =>
    intro k D9 v hi hD9
    obtain ⟨D8, rfl⟩ : ∃ z, D9 = z + 1 := ⟨D9 - 1, by omega⟩
    have IH := ih (k + 1) D8 (ck v (sToldL d j k)) (by omega) (by omega)
    have hk := K_line h5 hW hD hC hj (k := k) (by omega)
    rw [f_X7_checksum_95]
    simp (disch := omega) only [↓lt_eq, nI_lit, nI_add, ↓reduceIte, pLEt, pLEf, pLTt, pLTf, pEQf, pML, pMG, pMf, pMg, bdx_inl, hk]
    exact IH

theorem Ck_lines (h5 : gp Y B 5 = w) (hW : WY Y w) (hD : DJ ops d) (hC : CR P ops d (wc N w)) : ∀ (z i D9 : Nat) (v : Int64), i + z = nL d → z < D9 → f_X7_checksum_81 Y D9 B v (nI i) N = some (fo (ckR d) 0 (nR d) (fo (ckL d) i z v), N) := by
  have h6 := hD.H6
  have h8 := hD.L8
  have h60 := hD.R60
  have c1 : gi N w 1 = nI (nH d) := (hC.1.w1).trans hD.H
  have c3 : gi N w 3 = nI (nL d) := (hC.1.w3).trans hD.L
  have c5 : gi N w 5 = nI (nR d) := (hC.1.w5).trans hD.R
  intro z
  induction z with
  | zero =>
    intro i D9 v hi hD9
    obtain ⟨D8, rfl⟩ : ∃ z, D9 = z + 1 := ⟨D9 - 1, by omega⟩
    rw [f_X7_checksum_81]
    simp (disch := omega) only [↓lt_eq, nI_lit, nI_add, ↓reduceIte, pLEt, pLEf, pLTt, pLTf, pEQf, pML, pMG, pMf, pMg, h5, c3]
    exact Ck_reqs h5 hW hD hC (nR d) 0 FU v (Nat.zero_add _) (by unfold FU; omega)
  | succ z ih =>
    intro i D9 v hi hD9
    obtain ⟨D8, rfl⟩ : ∃ z, D9 = z + 1 := ⟨D9 - 1, by omega⟩
    have IH := ih (i + 1) D8 (ckL d i v) (by omega) (by omega)
    have IN := Ck_line h5 hW hD hC (j := i) (by omega) (f_X7_checksum_81 Y D8) 5 0 FU v (by omega) (by unfold FU; omega)
    rw [f_X7_checksum_81]
    simp (disch := omega) only [↓lt_eq, nI_lit, nI_add, ↓reduceIte, pLEt, pLEf, pLTt, pLTf, pEQf, pML, pMG, pMf, pMg, h5, c3]
    exact IN.trans IH

theorem Ck_han (h5 : gp Y B 5 = w) (hW : WY Y w) (hD : DJ ops d) (hC : CR P ops d (wc N w)) {j : Nat} (hj : j < nH d) (K : Nat → Int64 → Int32 → XN → Option (Int64 × XN)) : ∀ (z k D9 : Nat) (v : Int64), k + z = 8 → z < D9 → f_X7_checksum_45 Y K D9 B v (nI j) (nI k) N = K B (fo (fun k v => ck v (sToldH d j k)) k z v) (nI (j + 1)) N := by
  have h6 := hD.H6
  have h8 := hD.L8
  have h60 := hD.R60
  have c1 : gi N w 1 = nI (nH d) := (hC.1.w1).trans hD.H
  have c3 : gi N w 3 = nI (nL d) := (hC.1.w3).trans hD.L
  have c5 : gi N w 5 = nI (nR d) := (hC.1.w5).trans hD.R
  intro z
  induction z with
  | zero =>
    intro k D9 v hi hD9
    obtain ⟨D8, rfl⟩ : ∃ z, D9 = z + 1 := ⟨D9 - 1, by omega⟩
    rw [f_X7_checksum_45]
    simp (disch := omega) only [↓lt_eq, nI_lit, nI_add, ↓reduceIte, pLEt, pLEf, pLTt, pLTf, pEQf, pML, pMG, pMf, pMg, c1]
    rfl
  | succ z ih =>
    intro k D9 v hi hD9
    obtain ⟨D8, rfl⟩ : ∃ z, D9 = z + 1 := ⟨D9 - 1, by omega⟩
    have IH := ih (k + 1) D8 (ck v (sToldH d j k)) (by omega) (by omega)
    have hk := K_handler h5 hW hD hC hj (k := k) (by omega)
    rw [f_X7_checksum_45]
    simp (disch := omega) only [↓lt_eq, nI_lit, nI_add, ↓reduceIte, pLEt, pLEf, pLTt, pLTf, pEQf, pML, pMG, pMf, pMg, bdx_inl, bd_some, c1, hk]
    exact IH

theorem Ck_hans (h5 : gp Y B 5 = w) (hW : WY Y w) (hD : DJ ops d) (hC : CR P ops d (wc N w)) : ∀ (z i D9 : Nat) (v : Int64), i + z = nH d → z < D9 → f_X7_checksum_31 Y D9 B v (nI i) N = some (fo (ckR d) 0 (nR d) (fo (ckL d) 0 (nL d) (fo (ckH d) i z v)), N) := by
  have h6 := hD.H6
  have h8 := hD.L8
  have h60 := hD.R60
  have c1 : gi N w 1 = nI (nH d) := (hC.1.w1).trans hD.H
  have c3 : gi N w 3 = nI (nL d) := (hC.1.w3).trans hD.L
  have c5 : gi N w 5 = nI (nR d) := (hC.1.w5).trans hD.R
  intro z
  induction z with
  | zero =>
    intro i D9 v hi hD9
    obtain ⟨D8, rfl⟩ : ∃ z, D9 = z + 1 := ⟨D9 - 1, by omega⟩
    rw [f_X7_checksum_31]
    simp (disch := omega) only [↓lt_eq, nI_lit, nI_add, ↓reduceIte, pLEt, pLEf, pLTt, pLTf, pEQf, pML, pMG, pMf, pMg, h5, c1]
    exact Ck_lines h5 hW hD hC (nL d) 0 FU v (Nat.zero_add _) (by unfold FU; omega)
  | succ z ih =>
    intro i D9 v hi hD9
    obtain ⟨D8, rfl⟩ : ∃ z, D9 = z + 1 := ⟨D9 - 1, by omega⟩
    have IH := ih (i + 1) D8 (ckH d i v) (by omega) (by omega)
    have IN := Ck_han h5 hW hD hC (j := i) (by omega) (f_X7_checksum_31 Y D8) 8 0 FU v (by omega) (by unfold FU; omega)
    rw [f_X7_checksum_31]
    simp (disch := omega) only [↓lt_eq, nI_lit, nI_add, ↓reduceIte, pLEt, pLEf, pLTt, pLTf, pEQf, pML, pMG, pMf, pMg, h5, c1]
    exact IN.trans IH

theorem Ck_state (h5 : gp Y B 5 = w) (hW : WY Y w) (hD : DJ ops d) (hC : CR P ops d (wc N w)) : ∀ (z k D9 : Nat) (v : Int64), k + z = 10 → z < D9 → f_X7_checksum_4 Y D9 B v (nI k) N = some (fo (ckR d) 0 (nR d) (fo (ckL d) 0 (nL d) (fo (ckH d) 0 (nH d) (fo (fun k v => ck v (sTold d k)) k z v))), N) := by
  intro z
  induction z with
  | zero =>
    intro k D9 v hi hD9
    obtain ⟨D8, rfl⟩ : ∃ z, D9 = z + 1 := ⟨D9 - 1, by omega⟩
    have IN := Ck_hans h5 hW hD hC (nH d) 0 FU v (Nat.zero_add _) (by have := hD.H6; unfold FU; omega)
    rw [f_X7_checksum_4]
    simp (disch := omega) only [↓lt_eq, nI_lit, nI_add, ↓reduceIte, pLEt, pLEf, pLTt, pLTf, pEQf, pML, pMG, pMf, pMg]
    exact IN
  | succ z ih =>
    intro k D9 v hi hD9
    obtain ⟨D8, rfl⟩ : ∃ z, D9 = z + 1 := ⟨D9 - 1, by omega⟩
    have IH := ih (k + 1) D8 (ck v (sTold d k)) (by omega) (by omega)
    have hk := K_state h5 hW hD hC (k := k) (by omega)
    rw [f_X7_checksum_4]
    simp (disch := omega) only [↓lt_eq, nI_lit, nI_add, ↓reduceIte, pLEt, pLEf, pLTt, pLTf, pEQf, pML, pMG, pMf, pMg, bdx_inl, hk]
    exact IH

theorem Mk_req (hM : MY Y (B + 908)) (hD : DJ ops d) {j : Nat} (hj : j < nR d) (K : Nat → Int64 → Int32 → XN → Option (Int64 × XN)) : ∀ (z k D9 : Nat) (v : Int64), k + z = 7 → z < D9 → f_X8_checksum_183 Y K D9 (B + 908) v (nI j) (nI k) (sd N (gp Y (B + 908) 8) d) = K (B + 908) (fo (fun k v => ck v (sReq d j k)) k z v) (nI (j + 1)) (sd N (gp Y (B + 908) 8) d) := by
  have h6 := hD.H6
  have h8 := hD.L8
  have h60 := hD.R60
  intro z
  induction z with
  | zero =>
    intro k D9 v hi hD9
    obtain ⟨D8, rfl⟩ : ∃ z, D9 = z + 1 := ⟨D9 - 1, by omega⟩
    rw [f_X8_checksum_183]
    simp (disch := omega) only [↓lt_eq, nI_lit, nI_add, ↓reduceIte, pLEt, pLEf, pLTt, pLTf, pEQf, pML, pMG, pMf, pMg, gi_sd]
    rfl
  | succ z ih =>
    intro k D9 v hi hD9
    obtain ⟨D8, rfl⟩ : ∃ z, D9 = z + 1 := ⟨D9 - 1, by omega⟩
    have IH := ih (k + 1) D8 (ck v (sReq d j k)) (by omega) (by omega)
    have hk := M_req (Y := Y) (B := B) (N := N) (d := d) (j := j) (k := k) (by omega) (by omega)
    rw [f_X8_checksum_183]
    simp (disch := omega) only [↓lt_eq, nI_lit, nI_add, ↓reduceIte, pLEt, pLEf, pLTt, pLTf, pEQf, pML, pMG, pMf, pMg, bdx_inl, bd_some, gi_sd, hk]
    exact IH

theorem Mk_reqs (hM : MY Y (B + 908)) (hD : DJ ops d) : ∀ (z i D9 : Nat) (v : Int64), i + z = nR d → z < D9 → f_X8_checksum_170 Y D9 (B + 908) v (nI i) (sd N (gp Y (B + 908) 8) d) = some (fo (ckR d) i z v, (sd N (gp Y (B + 908) 8) d)) := by
  have h6 := hD.H6
  have h8 := hD.L8
  have h60 := hD.R60
  intro z
  induction z with
  | zero =>
    intro i D9 v hi hD9
    obtain ⟨D8, rfl⟩ : ∃ z, D9 = z + 1 := ⟨D9 - 1, by omega⟩
    rw [f_X8_checksum_170]
    simp (disch := omega) only [↓lt_eq, nI_lit, nI_add, ↓reduceIte, pLEt, pLEf, pLTt, pLTf, pEQf, pML, pMG, pMf, pMg, gi_sd, hD.R]
    rfl
  | succ z ih =>
    intro i D9 v hi hD9
    obtain ⟨D8, rfl⟩ : ∃ z, D9 = z + 1 := ⟨D9 - 1, by omega⟩
    have IH := ih (i + 1) D8 (ckR d i v) (by omega) (by omega)
    have IN := Mk_req (N := N) hM hD (j := i) (by omega) (f_X8_checksum_170 Y D8) 7 0 FU v (by omega) (by unfold FU; omega)
    rw [f_X8_checksum_170]
    simp (disch := omega) only [↓lt_eq, nI_lit, nI_add, ↓reduceIte, pLEt, pLEf, pLTt, pLTf, pEQf, pML, pMG, pMf, pMg, gi_sd, hD.R]
    exact IN.trans IH

theorem M_lineAt (hD : DJ ops d) {j k : Nat} (hj : j < 8) (hk : k < 7) : f_X8_ofLine Y (B + 908) (nI j) (nI k) (sd N (gp Y (B + 908) 8) d) = some (d (48 + 7 * j + k)) := by
  unfold f_X8_ofLine
  simp (disch := omega) only [f_X8_lineAt, nI_lit, pk_mul, nI_add, xb_nI, nI_clamp, gi_sd, if_true]

theorem Mk_ten (hM : MY Y (B + 908)) (hD : DJ ops d) {j : Nat} (hj : j < nL d) (K : Nat → Int64 → Int32 → XN → Option (Int64 × XN)) : ∀ (z k D9 : Nat) (v : Int64), k + z = nT d j → z < D9 → f_X8_checksum_128 Y K D9 (B + 908) v (nI j) (nI k) (sd N (gp Y (B + 908) 8) d) = K (B + 908) (fo (fun k v => ck v (d (52 + 7 * j + k))) k z v) (nI (j + 1)) (sd N (gp Y (B + 908) 8) d) := by
  have h6 := hD.H6
  have h8 := hD.L8
  have h60 := hD.R60
  obtain ⟨t1, t2, -, -⟩ := hD.ln j hj
  have h3 := M_lineAt (Y := Y) (B := B) (N := N) hD (j := j) (k := 3) (by omega) (by omega)
  rw [show 48 + 7 * j + 3 = 51 + 7 * j by omega, t1] at h3
  intro z
  induction z with
  | zero =>
    intro k D9 v hi hD9
    obtain ⟨D8, rfl⟩ : ∃ z, D9 = z + 1 := ⟨D9 - 1, by omega⟩
    rw [f_X8_checksum_128]
    simp (disch := omega) only [↓lt_eq, nI_lit, nI_add, ↓reduceIte, pLEt, pLEf, pLTt, pLTf, pEQf, pML, pMG, pMf, pMg, bd_some, h3]
    rfl
  | succ z ih =>
    intro k D9 v hi hD9
    obtain ⟨D8, rfl⟩ : ∃ z, D9 = z + 1 := ⟨D9 - 1, by omega⟩
    have IH := ih (k + 1) D8 (ck v (d (52 + 7 * j + k))) (by omega) (by omega)
    have hk := M_lineAt (Y := Y) (B := B) (N := N) hD (j := j) (k := 4 + k) (by omega) (by omega)
    rw [show 48 + 7 * j + (4 + k) = 52 + 7 * j + k by omega] at hk
    rw [f_X8_checksum_128]
    simp (disch := omega) only [↓lt_eq, nI_lit, nI_add, ↓reduceIte, pLEt, pLEf, pLTt, pLTf, pEQf, pML, pMG, pMf, pMg, bdx_inl, bd_some, bd_some, h3, hk]
    exact IH

theorem Mk_line (hM : MY Y (B + 908)) (hD : DJ ops d) {j : Nat} (hj : j < nL d) (K : Nat → Int64 → Int32 → XN → Option (Int64 × XN)) : ∀ (z k D9 : Nat) (v : Int64), k + z = 5 → z < D9 → f_X8_checksum_98 Y K D9 (B + 908) v (nI j) (nI k) (sd N (gp Y (B + 908) 8) d) = K (B + 908) (ckT d j (fo (fun k v => ck v (sToldL d j k)) k z v)) (nI (j + 1)) (sd N (gp Y (B + 908) 8) d) := by
  have h8 := hD.L8
  intro z
  induction z with
  | zero =>
    intro k D9 v hi hD9
    obtain ⟨D8, rfl⟩ : ∃ z, D9 = z + 1 := ⟨D9 - 1, by omega⟩
    have IN := Mk_ten (N := N) hM hD hj K (nT d j) 0 FU v (Nat.zero_add _) (by have := (hD.ln j hj).2.1; unfold FU; omega)
    rw [f_X8_checksum_98]
    simp (disch := omega) only [↓lt_eq, nI_lit, nI_add, ↓reduceIte, pLEt, pLEf, pLTt, pLTf, pEQf, pML, pMG, pMf, pMg]
    exact IN
  | succ z ih =>
    intro k D9 v hi hD9
    obtain ⟨D8, rfl⟩ : ∃ z, D9 = z + 1 := ⟨D9 - 1, by omega⟩
    have IH := ih (k + 1) D8 (ck v (sToldL d j k)) (by omega) (by omega)
    have hk := M_toldLine (Y := Y) (m := B + 908) (N := N) hD (l := j) (k := k) (by omega) (by omega)
    rw [f_X8_checksum_98]
    simp (disch := omega) only [↓lt_eq, nI_lit, nI_add, ↓reduceIte, pLEt, pLEf, pLTt, pLTf, pEQf, pML, pMG, pMf, pMg, bd_some, hk]
    exact IH

theorem Mk_lines (hM : MY Y (B + 908)) (hD : DJ ops d) : ∀ (z i D9 : Nat) (v : Int64), i + z = nL d → z < D9 → f_X8_checksum_85 Y D9 (B + 908) v (nI i) (sd N (gp Y (B + 908) 8) d) = some (fo (ckR d) 0 (nR d) (fo (ckL d) i z v), (sd N (gp Y (B + 908) 8) d)) := by
  have h6 := hD.H6
  have h8 := hD.L8
  have h60 := hD.R60
  intro z
  induction z with
  | zero =>
    intro i D9 v hi hD9
    obtain ⟨D8, rfl⟩ : ∃ z, D9 = z + 1 := ⟨D9 - 1, by omega⟩
    rw [f_X8_checksum_85]
    simp (disch := omega) only [↓lt_eq, nI_lit, nI_add, ↓reduceIte, pLEt, pLEf, pLTt, pLTf, pEQf, pML, pMG, pMf, pMg, gi_sd, hD.L]
    exact Mk_reqs (N := N) hM hD (nR d) 0 FU v (Nat.zero_add _) (by unfold FU; omega)
  | succ z ih =>
    intro i D9 v hi hD9
    obtain ⟨D8, rfl⟩ : ∃ z, D9 = z + 1 := ⟨D9 - 1, by omega⟩
    have IH := ih (i + 1) D8 (ckL d i v) (by omega) (by omega)
    have IN := Mk_line (N := N) hM hD (j := i) (by omega) (f_X8_checksum_85 Y D8) 5 0 FU v (by omega) (by unfold FU; omega)
    rw [f_X8_checksum_85]
    simp (disch := omega) only [↓lt_eq, nI_lit, nI_add, ↓reduceIte, pLEt, pLEf, pLTt, pLTf, pEQf, pML, pMG, pMf, pMg, gi_sd, hD.L]
    exact IN.trans IH

theorem Mk_han (hM : MY Y (B + 908)) (hD : DJ ops d) {j : Nat} (hj : j < nH d) (K : Nat → Int64 → Int32 → XN → Option (Int64 × XN)) : ∀ (z k D9 : Nat) (v : Int64), k + z = 8 → z < D9 → f_X8_checksum_49 Y K D9 (B + 908) v (nI j) (nI k) (sd N (gp Y (B + 908) 8) d) = K (B + 908) (fo (fun k v => ck v (sToldH d j k)) k z v) (nI (j + 1)) (sd N (gp Y (B + 908) 8) d) := by
  have h6 := hD.H6
  have h8 := hD.L8
  have h60 := hD.R60
  intro z
  induction z with
  | zero =>
    intro k D9 v hi hD9
    obtain ⟨D8, rfl⟩ : ∃ z, D9 = z + 1 := ⟨D9 - 1, by omega⟩
    rw [f_X8_checksum_49]
    simp (disch := omega) only [↓lt_eq, nI_lit, nI_add, ↓reduceIte, pLEt, pLEf, pLTt, pLTf, pEQf, pML, pMG, pMf, pMg, gi_sd]
    rfl
  | succ z ih =>
    intro k D9 v hi hD9
    obtain ⟨D8, rfl⟩ : ∃ z, D9 = z + 1 := ⟨D9 - 1, by omega⟩
    have IH := ih (k + 1) D8 (ck v (sToldH d j k)) (by omega) (by omega)
    have hk := M_toldHandler (Y := Y) (m := B + 908) (N := N) hM hD (h := j) (k := k) (by omega) (by omega)
    rw [f_X8_checksum_49]
    simp (disch := omega) only [↓lt_eq, nI_lit, nI_add, ↓reduceIte, pLEt, pLEf, pLTt, pLTf, pEQf, pML, pMG, pMf, pMg, bdx_inl, bd_some, gi_sd, hk]
    exact IH

theorem Mk_hans (hM : MY Y (B + 908)) (hD : DJ ops d) : ∀ (z i D9 : Nat) (v : Int64), i + z = nH d → z < D9 → f_X8_checksum_36 Y D9 (B + 908) v (nI i) (sd N (gp Y (B + 908) 8) d) = some (fo (ckR d) 0 (nR d) (fo (ckL d) 0 (nL d) (fo (ckH d) i z v)), (sd N (gp Y (B + 908) 8) d)) := by
  have h6 := hD.H6
  have h8 := hD.L8
  have h60 := hD.R60
  intro z
  induction z with
  | zero =>
    intro i D9 v hi hD9
    obtain ⟨D8, rfl⟩ : ∃ z, D9 = z + 1 := ⟨D9 - 1, by omega⟩
    rw [f_X8_checksum_36]
    simp (disch := omega) only [↓lt_eq, nI_lit, nI_add, ↓reduceIte, pLEt, pLEf, pLTt, pLTf, pEQf, pML, pMG, pMf, pMg, gi_sd, hD.H]
    exact Mk_lines (N := N) hM hD (nL d) 0 FU v (Nat.zero_add _) (by unfold FU; omega)
  | succ z ih =>
    intro i D9 v hi hD9
    obtain ⟨D8, rfl⟩ : ∃ z, D9 = z + 1 := ⟨D9 - 1, by omega⟩
    have IH := ih (i + 1) D8 (ckH d i v) (by omega) (by omega)
    have IN := Mk_han (N := N) hM hD (j := i) (by omega) (f_X8_checksum_36 Y D8) 8 0 FU v (by omega) (by unfold FU; omega)
    rw [f_X8_checksum_36]
    simp (disch := omega) only [↓lt_eq, nI_lit, nI_add, ↓reduceIte, pLEt, pLEf, pLTt, pLTf, pEQf, pML, pMG, pMf, pMg, gi_sd, hD.H]
    exact IN.trans IH

theorem Mk_state (hM : MY Y (B + 908)) (hD : DJ ops d) : ∀ (z k D9 : Nat) (v : Int64), k + z = 10 → z < D9 → f_X8_checksum_9 Y D9 (B + 908) v (nI k) (sd N (gp Y (B + 908) 8) d) = some (fo (ckR d) 0 (nR d) (fo (ckL d) 0 (nL d) (fo (ckH d) 0 (nH d) (fo (fun k v => ck v (sTold d k)) k z v))), (sd N (gp Y (B + 908) 8) d)) := by
  intro z
  induction z with
  | zero =>
    intro k D9 v hi hD9
    obtain ⟨D8, rfl⟩ : ∃ z, D9 = z + 1 := ⟨D9 - 1, by omega⟩
    have IN := Mk_hans (N := N) hM hD (nH d) 0 FU v (Nat.zero_add _) (by have := hD.H6; unfold FU; omega)
    rw [f_X8_checksum_9]
    simp (disch := omega) only [↓lt_eq, nI_lit, nI_add, ↓reduceIte, pLEt, pLEf, pLTt, pLTf, pEQf, pML, pMG, pMf, pMg]
    exact IN
  | succ z ih =>
    intro k D9 v hi hD9
    obtain ⟨D8, rfl⟩ : ∃ z, D9 = z + 1 := ⟨D9 - 1, by omega⟩
    have IH := ih (k + 1) D8 (ck v (sTold d k)) (by omega) (by omega)
    have hk := M_told (Y := Y) (m := B + 908) (N := N) hD (k := k) (by omega)
    rw [f_X8_checksum_9]
    simp (disch := omega) only [↓lt_eq, nI_lit, nI_add, ↓reduceIte, pLEt, pLEf, pLTt, pLTf, pEQf, pML, pMG, pMf, pMg, bd_some, hk]
    exact IH
/-- a call of a long number that never throws -/
def FC4 (Y : XY) (B : Nat) (fx fm : XN → Option (Int64 × XN)) (N : XN) : Prop :=
  ∃ v N1, fx N = some (v, N1) ∧ ∀ N', N'.1 = N1.1 → ∃ N2, fm N' = some (v, N2) ∧ IV B N2 ∧ ∀ a, a ≠ B + 923 → N2.2 a = N'.2 a
theorem F_checksum (hY : YO Y B) (hI : IV B N) : FC4 Y B (f_X7_checksum Y B) (f_X8_checksum Y (B + 908)) N := by
  obtain ⟨⟨g0, g3, g4, g5, g6, g7⟩, -, -, hW, hW2, -, hM, -⟩ := hY
  have hI' := hI
  obtain ⟨⟨ops, d, hD, hz, ht, hd, P, hC⟩, -, -⟩ := hI'
  refine ⟨_, N, Ck_state g5 hW hD hC 10 0 FU 0 (by omega) (by unfold FU; omega), fun N' hN' => ⟨mm N' B (nI 0), ?_, (after_read hN' hI _).1, (after_read hN' hI _).2⟩⟩
  have e0 : si N' (B + 908) 0 (nI 0) = mm N' B (nI 0) := rfl
  have IN := Mk_state (N := mm N' B (nI 0)) hM hD 10 0 FU 0 (by omega) (by unfold FU; omega)
  rw [← mm_sd hM (row_ints hN' hd)] at IN
  unfold f_X8_checksum
  simp only [↓lt_eq, nI_lit, e0]
  exact IN
end CK