/-! THE LAW'S LOOP: its ends, a change, no change -/
theorem bu {a b c : Nat} (x : Nat) (h : a ≤ x) (e : x + b ≤ c) : a + b ≤ c := Nat.le_trans (Nat.add_le_add_right h b) e
theorem ckP_i {c P : Prop} (h : c) (k : P) : ckP c P := ⟨h, k⟩
theorem ckWP_i {Y : XY} {P : Prop} (h : WT Y) (k : P) : ckWP Y P := ⟨h, k⟩
theorem ck9P_i {Y : XY} {P : Prop} (h : WT Y) (h9 : ∀ a, kc Y a ≠ 9) (k : P) : ck9P Y P := ⟨⟨h, h9⟩, k⟩
theorem lt_i {α : Type} {a : α} {f : α → Prop} (h : f a) : lt a f := h
theorem bdP_i {α : Type} {a : Option α} {f : α → Prop} {x : α} (h : a = some x) (k : f x) : bdP a f := ⟨x, h, k⟩
theorem bd2P_i {α β : Type} {a : Option (α × β)} {f : α → β → Prop} {x : α} {y : β} (h : a = some (x, y)) (k : f x y) : bd2P a f := ⟨x, y, h, k⟩
theorem bd3P_i {α β γ : Type} {a : Option (α × β × γ)} {f : α → β → γ → Prop} {x : α} {y : β} {z : γ} (h : a = some (x, y, z)) (k : f x y z) : bd3P a f := ⟨x, y, z, h, k⟩
theorem bd4P_i {α β γ δ : Type} {a : Option (α × β × γ × δ)} {f : α → β → γ → δ → Prop} {x : α} {y : β} {z : γ} {w : δ} (h : a = some (x, y, z, w)) (k : f x y z w) : bd4P a f := ⟨x, y, z, w, h, k⟩
/-- what the rest asks of this loop's end -/
def LK (K4 : XY → Nat → Int32 → Nat → Nat → XN → Prop) (Y0 : XY) (N0 : XN) (v2 : Int32) (kb nb : Nat) : Prop := ∀ Y' q' N' k' n', FR Y0 N0 Y' N' → (∃ a, vk (kc Y' a) ∧ frz (kc Y' a) = false) → k' ≤ kb + 223000 → n' ≤ nb + 940000 → K4 Y' q' (v2 + 1) k' n' N'
/-- a round of the loop -/
def LI (G : XG) (K4 : XY → Nat → Int32 → Nat → Nat → XN → Prop) (Y0 : XY) (N0 : XN) (B rnd a7 H L : Nat) (ops : List Int32) (v2 : Int32) (kb nb i D9 : Nat) : Prop := ∀ Y q N pl R T d m k p hd kk nn, LE Y0 N0 Y N B rnd a7 pl H L R T ops d m k hd → IK B N ops d k p hd → (∀ a, kc Y a ≠ 9) → R ≤ 9 + i → tM d ≤ 24 * i → m ≤ i → k = min (m + 1) 8 → kk ≤ kb + 6203 * i → nn ≤ nb + 26000 * i → f_L_law_190 G K4 D9 Y q v2 B rnd (pl 0) a7 (nI m) (nI i) kk nn N
section LW
variable {G : XG} {K4 : XY → Nat → Int32 → Nat → Nat → XN → Prop} {Y0 Y : XY} {N0 N : XN} {B rnd a7 H L R kb nb i D8 q kk nn m k p a10 : Nat} {ops : List Int32} {v2 : Int32} {pl T : Nat → Nat} {d d0 : XD} {hd : Nat → XD}
theorem law_1014 (HK : LK K4 Y0 N0 v2 kb nb) (h : LE Y0 N0 Y N B rnd a7 pl H L R T ops d m k hd) {opj : List Int32} {dj : XD} {kj pj : Nat} {hj : Nat → XD} (hI : IK B N opj dj kj pj hj) (h9 : ∀ a, kc Y a ≠ 9) (hkb : kb ≤ 370000 ∧ nb ≤ 6000000) (hk : kk ≤ kb + 222000) (hn : nn ≤ nb + 939000) : f_L_law_1014 G K4 Y q v2 B kk nn N := by
  obtain ⟨⟨c1, c2, c3, c4⟩, -, -, t1, -, -, w, -⟩ := h
  unfold f_L_law_1014
  refine ckP_i c1 (ck9P_i c4 h9 (ckP_i ⟨by omega, by omega⟩ (bd2P_i (L_loadX t1) (ckP_i rfl ?_))))
  refine ck9P_i c4 h9 (ckP_i ⟨by omega, by omega⟩ (bd2P_i (L_calmX c2 hI) (ckP_i rfl ?_)))
  refine ck9P_i c4 h9 (ckP_i ⟨by omega, by omega⟩ (bd2P_i (L_endsAtX c2 hI) (ckP_i rfl ?_)))
  refine ck9P_i c4 h9 (ckP_i ⟨by omega, by omega⟩ (bd2P_i (L_bankruptInX c2 hI) (ckP_i rfl ?_)))
  refine ck9P_i c4 h9 (ckP_i ⟨by omega, by omega⟩ (bd2P_i (L_adviseX c2 hI) (ckP_i rfl ?_)))
  refine ck9P_i c4 h9 (ckP_i ⟨by omega, by omega⟩ (bd2P_i (L_fundO c2 hI out_m1) (ckP_i rfl ?_)))
  exact HK _ _ _ _ _ w ⟨B, vk_of (by omega), by rw [c1]; rfl⟩ (by omega) (by omega)
/-- all undone -/
theorem law_965 (HK : LK K4 Y0 N0 v2 kb nb) (h9 : ∀ a, kc Y a ≠ 9) (hkb : kb ≤ 370000 ∧ nb ≤ 6000000) (hm : m ≤ 35) (hk8 : k = min (m + 1) 8) : ∀ (z j D9 kk nn q : Nat) (N : XN) (opj : List Int32) (dj : XD) (pj : Nat), j + z = min m 8 → z < D9 → LE Y0 N0 Y N B rnd a7 pl H L R T ops d m k hd → IK B N opj dj (k - j) pj hd → kk + 560 * z ≤ kb + 222000 → nn + 3360 * z ≤ nb + 939000 → f_L_law_965 G K4 D9 Y q v2 B a7 (nI m) (nI j) kk nn N := by
  intro z
  induction z with
  | zero =>
    intro j D9 kk nn q N opj dj pj hj hD h hI hk hn
    obtain ⟨D8, rfl⟩ : ∃ z, D9 = z + 1 := ⟨D9 - 1, by omega⟩
    have f := law_1014 (G := G) (q := q) HK h hI h9 hkb (kk := kk) (nn := nn) (by omega) (by omega)
    rw [f_L_law_965]
    by_cases e8 : 8 ≤ j
    · have c8 : (8 : Int32) ≤ nI j := (nI_le e8 (by omega) : nI 8 ≤ nI j)
      rw [if_pos c8]
      exact f
    · have c8 : ¬ (8 : Int32) ≤ nI j := (nI_ge (by omega) (by omega) : ¬ nI 8 ≤ nI j)
      have c9 : nI m ≤ nI j := nI_le (by omega) (by omega)
      rw [if_neg c8, if_pos c9]
      exact f
  | succ z ih =>
    intro j D9 kk nn q N opj dj pj hj hD h hI hk hn
    obtain ⟨D8, rfl⟩ : ∃ z, D9 = z + 1 := ⟨D9 - 1, by omega⟩
    have h' := h
    obtain ⟨⟨c1, c2, c3, c4⟩, -, ⟨s1, s2, s3⟩, t1, -, -, w, x⟩ := h'
    obtain ⟨N', ops', u1, u2, u3, u4⟩ := L_undo c2 hI (by omega)
    obtain ⟨a, x1, x2⟩ := x j (by omega)
    obtain ⟨pk, Rk, Tk, y1, y2, y3, y4⟩ := x2.fb u3
    have ek : k - j - 1 = k - 1 - j := by omega
    rw [ek] at u1 u2
    have hx := A_agrees (q := q) ⟨c4, h9⟩ c1 c2 u2 y2 y3
    rw [y1] at hx
    have g9 : gr Y a7 (nI j).toNatClampNeg = some a := by rw [nI_clamp (by omega)]; exact x1
    have p9 : gp Y a7 (nI j).toNatClampNeg = a := gp_of g9
    have IH := ih (j + 1) D8 (kk + 560) (nn + 3360) q N' ops' (hd (k - 1 - j)) ((pj + 7) % 8) (by omega) (by omega) (h.fb u3 u4) (by rw [show k - (j + 1) = k - 1 - j by omega]; exact u2) (by omega) (by omega)
    have c8 : ¬ (8 : Int32) ≤ nI j := (nI_ge (by omega) (by omega) : ¬ nI 8 ≤ nI j)
    have c9 : ¬ nI m ≤ nI j := nI_ge (by omega) (by omega)
    have b0 : kk ≤ 600086 ∧ nn ≤ 7301442 := ⟨by omega, by omega⟩
    have b1 : kk + 560 ≤ 600086 ∧ nn + 3360 ≤ 7301442 := ⟨bu 599526 (by omega) (by decide), bu 7298082 (by omega) (by decide)⟩
    have c1' : ¬ nI (k - 1 - j) < (0 : Int32) := (nI_nlt (Nat.zero_le _) (by omega) : ¬ nI (k - 1 - j) < nI 0)
    have c0 : ¬ (1 : Int32) = 0 := by decide
    rw [f_L_law_965, if_neg c8, if_neg c9]
    refine ckP_i c1 (ckWP_i c4 (ckP_i b0 (bd2P_i u1 (ckP_i c1' ?_))))
    refine ckP_i s1 (ckP_i (by rw [s2]; exact xb_nI (by omega) (by omega)) (ckP_i (by rw [p9]; exact g9) (lt_i ?_)))
    rw [p9]
    refine ckWP_i c4 (ckP_i b1 (bd4P_i hx (ckP_i c0 ?_)))
    rw [show nI j + 1 = nI (j + 1) from nI_add j 1]
    exact IH
/-- behind a round -/
theorem law_937 (IH : LI G K4 Y0 N0 B rnd a7 H L ops v2 kb nb (i + 1) D8) (h : LE Y0 N0 Y N B rnd a7 pl H L R T ops d m k hd) (hI : IK B N ops d k p hd) (h9 : ∀ a, kc Y a ≠ 9) (hR : R ≤ 10 + i) (hT : tM d ≤ 24 * (i + 1)) (hm : m ≤ i + 1) (hk8 : k = min (m + 1) 8) (hi : i < 35) (hkb : kb ≤ 370000 ∧ nb ≤ 6000000) (hk : kk + 560 ≤ kb + 6203 * (i + 1)) (hn : nn + 3360 ≤ nb + 26000 * (i + 1)) : f_L_law_937 G K4 (f_L_law_190 G K4 D8) Y q v2 B rnd (pl 0) a7 (nI m) (nI i) kk nn N := by
  have h' := h
  obtain ⟨⟨c1, c2, c3, c4⟩, -, -, -, ⟨u1, -, -⟩, -, -, -⟩ := h'
  have hx := A_agrees (q := q) ⟨c4, h9⟩ c1 c2 hI u1 (by omega)
  have b1 : kk + 560 ≤ 600086 ∧ nn + 3360 ≤ 7301442 := ⟨bu 599526 (by omega) (by decide), bu 7298082 (by omega) (by decide)⟩
  have c0 : ¬ (1 : Int32) = 0 := by decide
  unfold f_L_law_937
  refine ckWP_i c4 (ckP_i b1 (bd4P_i hx (ckP_i c0 ?_)))
  rw [show nI i + 1 = nI (i + 1) from nI_add i 1]
  exact IH Y q N pl R T d m k p hd _ _ h hI h9 (by omega) hT hm hk8 (by omega) (by omega)
theorem law_905 {K190 : XY → Nat → Int32 → Nat → Nat → Nat → Nat → Int32 → Int32 → Nat → Nat → XN → Prop} {p6 : Nat} {v8 v9 : Int32} (s1 : kc Y a7 = 43) (s2 : kn Y a7 = 9) (s3 : ∀ j b, gr Y a7 j = some b → kc Y b = 18) (ha : kc Y a10 = 18) (fin : ∀ Y5 : XY, Y5.2 = Y.2 → (∀ c j, c ≠ a7 → gr Y5 c j = gr Y c j) → (∀ j, gr Y5 a7 j = if j = 0 then some a10 else if j ≤ 8 then gr Y a7 (j - 1) else gr Y a7 j) → f_L_law_937 G K4 K190 Y5 q v2 B rnd p6 a7 (v8 + 1) v9 kk nn N) : ∀ (j D9 : Nat) (Yj : XY), j < D9 → j ≤ 8 → Yj.2 = Y.2 → (∀ c x, c ≠ a7 → gr Yj c x = gr Y c x) → (∀ x, gr Yj a7 x = if j < x ∧ x ≤ 8 then gr Y a7 (x - 1) else gr Y a7 x) → f_L_law_905 G K4 K190 D9 Yj q v2 B rnd p6 a7 v8 v9 a10 (nI j) kk nn N := by
  intro j
  induction j with
  | zero =>
    intro D9 Yj hD hj e2 eg e7
    obtain ⟨D8, rfl⟩ : ∃ z, D9 = z + 1 := ⟨D9 - 1, by omega⟩
    have k1 := (kc_2 e2 a7).trans s1
    have k2 := (kn_2 e2 a7).trans s2
    have k3 := (kc_2 e2 a10).trans ha
    have c0 : nI 0 ≤ (0 : Int32) := by decide
    have x0 : xb 0 (kn Yj a7) = true := by rw [k2]; decide
    rw [f_L_law_905, if_pos c0]
    refine ckP_i k1 (ckP_i x0 (ckP_i k3 (lt_i ?_)))
    refine fin _ e2 (fun c x hc => (gr_sr_ne hc x).trans (eg c x hc)) (fun x => ?_)
    by_cases x0 : x = 0
    · rw [if_pos x0, x0]; exact gr_sr_s
    · rw [if_neg x0, gr_sr_nf x0, e7]
      by_cases x8 : x ≤ 8
      · rw [if_pos ⟨by omega, x8⟩, if_pos x8]
      · rw [if_neg (fun z => x8 z.2), if_neg x8]
  | succ j ih =>
    intro D9 Yj hD hj e2 eg e7
    obtain ⟨D8, rfl⟩ : ∃ z, D9 = z + 1 := ⟨D9 - 1, by omega⟩
    have k1 := (kc_2 e2 a7).trans s1
    have k2 := (kn_2 e2 a7).trans s2
    have em : nI (j + 1) - 1 = nI j := pk_sub (a := j + 1) (b := 1) (by omega)
    have ep : nI (j + 1) + (-1) = nI j := pk_m1 j
    have c0 : ¬ nI (j + 1) ≤ (0 : Int32) := (nI_ge (by omega) (by omega) : ¬ nI (j + 1) ≤ nI 0)
    have x0 : xb (nI j) (kn Yj a7) = true := by rw [k2]; exact xb_nI (by omega) (by omega)
    have x1 : xb (nI (j + 1)) (kn Yj a7) = true := by rw [k2]; exact xb_nI (by omega) (by omega)
    rw [f_L_law_905, if_neg c0, em, ep, nI_clamp (by omega), nI_clamp (by omega)]
    refine ckP_i k1 (ckP_i x0 (ckP_i x1 (ckP_i (fun b hb => ?_) (lt_i ?_))))
    · rw [e7, if_neg (by omega)] at hb
      exact (kc_2 e2 b).trans (s3 j b hb)
    · refine ih D8 _ (by omega) (by omega) e2 (fun c x hc => (gr_sr_ne hc x).trans (eg c x hc)) (fun x => ?_)
      by_cases xj : x = j + 1
      · rw [xj, gr_sr_s, e7, if_neg (by omega), if_pos ⟨by omega, by omega⟩]
        rfl
      · rw [gr_sr_nf xj, e7]
        by_cases c1 : j + 1 < x ∧ x ≤ 8
        · rw [if_pos c1, if_pos ⟨by omega, c1.2⟩]
        · rw [if_neg c1, if_neg (by omega)]
/-- a change -/
theorem law_c (IH : LI G K4 Y0 N0 B rnd a7 H L ops v2 kb nb (i + 1) D8) (h : LE Y0 N0 Y N B rnd a7 pl H L R T ops d m k hd) (hI : IK B N ops d (min (k + 1) 8) p (nhd k hd d0)) (hz : FZ Y N B pl H L R ops a10 d0) (h9 : ∀ a, kc Y a ≠ 9) (hR : R ≤ 10 + i) (hT : tM d ≤ 24 * (i + 1)) (hm : m ≤ i) (hk8 : k = min (m + 1) 8) (hi : i < 35) (hkb : kb ≤ 370000 ∧ nb ≤ 6000000) (hk : kk + 560 ≤ kb + 6203 * (i + 1)) (hn : nn + 3360 ≤ nb + 26000 * (i + 1)) : f_L_law_896 G K4 (f_L_law_190 G K4 D8) Y q v2 B rnd (pl 0) a7 (nI m) (nI i) a10 1 kk nn N := by
  have h' := h
  obtain ⟨-, -, ⟨s1, s2, s3⟩, -, -, -, -, -⟩ := h'
  have hz' := hz
  obtain ⟨pj, Rj, Tj, e, hq, -, -⟩ := hz'
  have ha : kc Y a10 = 18 := by rw [← e]; exact hq.y.k0
  unfold f_L_law_896
  rw [if_neg (by decide)]
  refine law_905 s1 s2 s3 ha (fun Y5 e2 eg e7 => ?_) 8 FU Y (by unfold FU; omega) (by omega) rfl (fun _ _ _ => rfl) (fun x => ?_)
  · rw [show nI m + 1 = nI (m + 1) from nI_add m 1]
    exact law_937 IH (h.arr hz e2 eg e7 hk8) hI (fun a => by rw [kc_2 e2]; exact h9 a) hR hT (by omega) (by omega) hi hkb hk hn
  · rw [if_neg (by omega)]
/-- no change -/
theorem law_n (IH : LI G K4 Y0 N0 B rnd a7 H L ops v2 kb nb (i + 1) D8) (h : LE Y0 N0 Y N B rnd a7 pl H L R T ops d m k hd) (hI : IK B N ops d k p hd) (h9 : ∀ a, kc Y a ≠ 9) (hR : R ≤ 10 + i) (hT : tM d ≤ 24 * (i + 1)) (hm : m ≤ i) (hk8 : k = min (m + 1) 8) (hi : i < 35) (hkb : kb ≤ 370000 ∧ nb ≤ 6000000) (hk : kk + 560 ≤ kb + 6203 * (i + 1)) (hn : nn + 3360 ≤ nb + 26000 * (i + 1)) : f_L_law_896 G K4 (f_L_law_190 G K4 D8) Y q v2 B rnd (pl 0) a7 (nI m) (nI i) a10 0 kk nn N := by
  unfold f_L_law_896
  rw [if_pos rfl]
  exact law_937 IH h hI h9 hR hT (by omega) hk8 hi hkb hk hn
/-- within a round, the copy made -/
def LV (Y0 : XY) (N0 : XN) (Y : XY) (q : Nat) (N : XN) (B rnd a7 : Nat) (pl : Nat → Nat) (H L R : Nat) (T : Nat → Nat) (ops : List Int32) (d : XD) (m k p : Nat) (hd : Nat → XD) (a10 i kb nb kk nn : Nat) : Prop := MK Y q ∧ LE Y0 N0 Y N B rnd a7 pl H L R T ops d m k hd ∧ IK B N ops d k p hd ∧ FZ Y N B pl H L R ops a10 d ∧ (R ≤ 9 + i ∧ tM d ≤ 24 * i ∧ m ≤ i ∧ k = min (m + 1) 8 ∧ i < 35 ∧ (kb ≤ 370000 ∧ nb ≤ 6000000) ∧ kk ≤ kb + 6203 * i + 266 ∧ nn ≤ nb + 26000 * i + 2317)
theorem LV.rn (h : LV Y0 N0 Y q N B rnd a7 pl H L R T ops d m k p hd a10 i kb nb kk nn) {w : Int32} : LV Y0 N0 Y q (si N rnd 0 w) B rnd a7 pl H L R T ops d m k p hd a10 i kb nb kk nn := by
  obtain ⟨h1, h2, h3, h4, h5⟩ := h
  exact ⟨h1, h2.rn, h3.rn h2.2.1.2, h4.rn h2.2.1.1, h5⟩
theorem LV.below (h : LV Y0 N0 Y q N B rnd a7 pl H L R T ops d m k p hd a10 i kb nb kk nn) {n : Nat} (h0 : 0 < n) (hn : n < 2 ^ 31) : ∃ v N', v < n ∧ f_X10_below Y rnd (nI n) N = some (nI v, N') ∧ LV Y0 N0 Y q N' B rnd a7 pl H L R T ops d m k p hd a10 i kb nb kk nn := by
  obtain ⟨v, w, h1, h2⟩ := D_below (N := N) h.2.1.2.1.1 h0 hn
  exact ⟨v, _, h1, h2, h.rn⟩
theorem LV.kr (h : LV Y0 N0 Y q N B rnd a7 pl H L R T ops d m k p hd a10 i kb nb kk nn) : kc Y rnd = 20 := h.2.1.2.1.1
theorem LV.bud (h : LV Y0 N0 Y q N B rnd a7 pl H L R T ops d m k p hd a10 i kb nb kk nn) : kk ≤ 600086 ∧ nn ≤ 7301442 := by
  obtain ⟨-, -, -, -, -, -, -, -, h1, h2, h3, h4⟩ := h
  omega
theorem LV.dq (h : LV Y0 N0 Y q N B rnd a7 pl H L R T ops d m k p hd a10 i kb nb kk nn) : DQ Y N pl H L R T ops d := h.2.1.2.2.2.2.1.1
theorem LV.dk (h : LV Y0 N0 Y q N B rnd a7 pl H L R T ops d m k p hd a10 i kb nb kk nn) : DK Y q N pl H L R T ops d := ⟨h.1, h.dq⟩
theorem LV.bk (h : LV Y0 N0 Y q N B rnd a7 pl H L R T ops d m k p hd a10 i kb nb kk nn) : BK d := h.2.1.2.2.2.2.1.2.1
end LW
