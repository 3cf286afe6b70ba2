/-! a world under construction: its arrays stand, the heap's end is e -/
theorem grk {Y : XY} {q c n b j : Nat} (h : b ≠ q) : gr (yK Y q c n) b j = gr Y b j := by simp only [gr, yK, if_neg h]
theorem grs {Y : XY} {a f b j : Nat} {v : Option Nat} (h : b ≠ a) : gr (sr Y a f v) b j = gr Y b j := by
  show (if b = a ∧ j = f then v else Y.1 b j) = _
  rw [if_neg (fun q => h q.1)]
  rfl
def BW (Y : XY) (w e : Nat) : Prop := kc Y w = 16 ∧ (gr Y w 0 = some (w + 1) ∧ kc Y (w + 1) = 4 ∧ kn Y (w + 1) = 6) ∧ (gr Y w 2 = some (w + 2) ∧ kc Y (w + 2) = 5 ∧ kn Y (w + 2) = 8) ∧ (gr Y w 4 = some (w + 3) ∧ kc Y (w + 3) = 6 ∧ kn Y (w + 3) = 60) ∧ (gr Y w 13 = some (w + 4) ∧ kc Y (w + 4) = 10) ∧ kc Y e = 9
theorem BW.k {Y : XY} {w e c n : Nat} (h : BW Y w e) (hl : w + 5 ≤ e) : BW (yK Y e c n) w (e + 1) := by
  obtain ⟨h1, ⟨h2, h3, h4⟩, ⟨h5, h6, h7⟩, ⟨h8, h9, h10⟩, ⟨h11, h12⟩, h13⟩ := h
  refine ⟨?_, ⟨?_, ?_, ?_⟩, ⟨?_, ?_, ?_⟩, ⟨?_, ?_, ?_⟩, ⟨?_, ?_⟩, ?_⟩ <;> simp (disch := omega) only [kck, knk, kce, grk, h1, h2, h3, h4, h5, h6, h7, h8, h9, h10, h11, h12]
theorem BW.s {Y : XY} {w e a f : Nat} {v : Option Nat} (h : BW Y w e) (hl : a ≠ w) : BW (sr Y a f v) w e := by
  obtain ⟨h1, ⟨h2, h3, h4⟩, ⟨h5, h6, h7⟩, ⟨h8, h9, h10⟩, ⟨h11, h12⟩, h13⟩ := h
  have e2 : ∀ j, gr (sr Y a f v) w j = gr Y w j := fun j => grs (fun q => hl q.symm)
  refine ⟨?_, ⟨?_, ?_, ?_⟩, ⟨?_, ?_, ?_⟩, ⟨?_, ?_, ?_⟩, ⟨?_, ?_⟩, ?_⟩ <;> simp only [kcs, kns, e2, h1, h2, h3, h4, h5, h6, h7, h8, h9, h10, h11, h12, h13]
theorem zi60 : ∀ i, i < 60 → (Int32.ofNat i).toNatClampNeg = i ∧ ¬ (Int32.ofNat i < 0) ∧ Int32.ofNat i + 1 = Int32.ofNat (i + 1) := by decide +kernel
theorem zi_in {i n : Nat} (h : i < n) (hn : n ≤ 60) : vp_in (Int32.ofNat i) n := by
  obtain ⟨h1, h2, -⟩ := zi60 i (by omega)
  rintro (q | q)
  · exact h2 q
  · rw [h1] at q; omega
theorem zi_kn {Y : XY} {a i n : Nat} (h8 : kn Y a = n) (h : i < n) (hn : n ≤ 60) : vp_in (Int32.ofNat i) (kn Y a) := by rw [h8]; exact zi_in h hn
def yW1 (Y : XY) (w : Nat) : Nat → XY
  | 0 => Y
  | i + 1 => sr ((yK (yW1 Y w i) (w + 8 + i) 11 0)) (w + 1) i (some (w + 8 + i))
def mW1 (N : XN) (w : Nat) : Nat → XN
  | 0 => N
  | i + 1 => n0 (mW1 N w i) (w + 8 + i)
theorem BW.w1 {Y : XY} {w : Nat} (h : BW Y w (w + 8)) : ∀ i, BW (yW1 Y w i) w (w + 8 + i)
  | 0 => h
  | i + 1 => ((BW.w1 h i).k (c := 11) (n := 0) (by omega)).s (by omega)
set_option maxHeartbeats 1000000 in
theorem I_W1 {G : XG} {Y : XY} {N : XN} {w c s C S : Nat} {tb : List ExceptionTableEntry} {Z : List Frame → Array Value → State → State → Prop} (h : BW Y w (w + 8)) (hC : c + 6 ≤ C) (hS : s + 42 ≤ S)
    (kk : ExZ G yX6_init cX6_init 2 none tb (xR 2 C S) Z (c + 6) (s + 42) 79 [(0, .ref w), (1, .int (Int32.ofNat 6))] [] (yW1 Y w 6) (mW1 N w 6)) :
    ∀ j i, i + j = 6 → ExZ G yX6_init cX6_init 2 none tb (xR 2 C S) Z (c + 1 * i) (s + 7 * i) 51 [(0, .ref w), (1, .int (Int32.ofNat i))] [] (yW1 Y w i) (mW1 N w i) := by
  intro j
  induction j with
  | zero =>
    intro i hi
    have : i = 6 := by omega
    subst this
    obtain ⟨kw, ⟨g1, g2, g3⟩, -, -, -, ke⟩ := BW.w1 h 6
    refine x_iload_n 1 dX6_init_51 rfl rfl ?_
    refine x_aload_n 0 dX6_init_52 rfl rfl ?_
    refine x_getr dX6_init_53 vc_X6 xin6 fb_X6_0 fl_X6_11 xr_X6_0 kw g1 ?_
    refine x_rlen (j := 0) dX6_init_56 (by decide) g2 (by rw [g3]) ?_
    refine x_icmp_ge_t (tgt := 79) dX6_init_57 (by decide) (by decide) ?_
    exact kk
  | succ j ih =>
    intro i hi
    have hi6 : i < 6 := by omega
    obtain ⟨z1, z2, z3⟩ := zi60 i (by omega)
    have zn : ¬ (Int32.ofNat 6 ≤ Int32.ofNat i) := (by decide +kernel : ∀ i, i < 6 → ¬ (Int32.ofNat 6 ≤ Int32.ofNat i)) i hi6
    have hb := BW.w1 h i
    obtain ⟨kw, ⟨g1, g2, g3⟩, -, -, -, ke⟩ := hb
    refine x_iload_n 1 dX6_init_51 rfl rfl ?_
    refine x_aload_n 0 dX6_init_52 rfl rfl ?_
    refine x_getr dX6_init_53 vc_X6 xin6 fb_X6_0 fl_X6_11 xr_X6_0 kw g1 ?_
    refine x_rlen (j := 0) dX6_init_56 (by decide) g2 (by rw [g3]) ?_
    refine x_icmp_ge_f (tgt := 79) dX6_init_57 (by decide) zn ?_
    refine x_aload_n 0 dX6_init_60 rfl rfl ?_
    refine x_getr dX6_init_61 vc_X6 xin6 fb_X6_0 fl_X6_11 xr_X6_0 kw g1 ?_
    refine x_iload_n 1 dX6_init_64 rfl rfl ?_
    refine x_newO (q := (w + 8 + i)) dX6_init_65 vc_X1 xin1 tyX1_ok kl9_X6_9 it9_X1 wn_X1 (fun j hj => match j, hj with | 0, _ => rfl | 1, _ => rfl | 2, _ => rfl | 3, _ => rfl | 4, _ => rfl | 5, _ => rfl | 6, _ => rfl | q + 7, h => absurd h (by omega)) ke ⟨by show c + 1 * i + 1 ≤ C; omega, by show s + 7 * i + 7 ≤ S; omega⟩ ?_
    refine x_dup dX6_init_68 rfl ?_
    refine x_initN (R' := xR 1 0 0) (As := []) (b := (w + 8 + i)) dX6_init_69 (by decide +kernel) wi_X1_init wn_X1 wc_X1_init rfl hp_X1_init ⟨Nat.le_of_ble_eq_true rfl, Nat.le_of_ble_eq_true rfl⟩ rfl (Nat.le_of_ble_eq_true rfl) ⟨by show c + 1 * i + 1 + 0 ≤ C; omega, by show s + 7 * i + 7 + 0 ≤ S; omega⟩ (I_X1 (kcq rfl)) ?_
    refine x_aast (j := 0) (j9 := i) (ci := 1) dX6_init_72 (by decide) (by have h9 := (BW.w1 h i).k (c := 11) (n := 0) (by omega); exact h9.2.1.2.1) (by have h9 := (BW.w1 h i).k (c := 11) (n := 0) (by omega); have h8 := h9.2.1.2.2; exact zi_kn h8 hi6 (by decide)) z1 (kcq rfl) vc_X1 rfl ?_
    refine x_iinc (L' := [(0, .ref w), (1, .int (Int32.ofNat i + 1))]) 1 [1, 0] dX6_init_73 rfl rfl (by decide) rfl ?_
    refine x_goto (tgt := 51) dX6_init_76 (by decide) ?_
    rw [z3]
    exact ih (i + 1) (by omega)
def yW2 (Y : XY) (w : Nat) : Nat → XY
  | 0 => Y
  | i + 1 => sr (yI_X2 (yK (yW2 Y w i) (w + 14 + 2 * i) 12 0) (w + 14 + 2 * i)) (w + 2) i (some (w + 14 + 2 * i))
def mW2 (N : XN) (w : Nat) : Nat → XN
  | 0 => N
  | i + 1 => mI_X2 (n0 (mW2 N w i) (w + 14 + 2 * i)) (w + 14 + 2 * i)
theorem BW.w2 {Y : XY} {w : Nat} (h : BW Y w (w + 14)) : ∀ i, BW (yW2 Y w i) w (w + 14 + 2 * i)
  | 0 => h
  | i + 1 => by
    have b := ((((BW.w2 h i).k (c := 12) (n := 0) (by omega)).k (c := 1) (n := 3) (by omega)).s (a := (w + 14 + 2 * i)) (f := 3) (v := some ((w + 14 + 2 * i) + 1)) (by omega)).s (a := w + 2) (f := i) (v := some (w + 14 + 2 * i)) (by omega)
    exact b
set_option maxHeartbeats 1000000 in
theorem I_W2 {G : XG} {Y : XY} {N : XN} {w c s C S : Nat} {tb : List ExceptionTableEntry} {Z : List Frame → Array Value → State → State → Prop} (h : BW Y w (w + 14)) (hC : c + 16 ≤ C) (hS : s + 64 ≤ S)
    (kk : ExZ G yX6_init cX6_init 2 none tb (xR 2 C S) Z (c + 16) (s + 64) 109 [(0, .ref w), (1, .int (Int32.ofNat 8))] [] (yW2 Y w 8) (mW2 N w 8)) :
    ∀ j i, i + j = 8 → ExZ G yX6_init cX6_init 2 none tb (xR 2 C S) Z (c + 2 * i) (s + 8 * i) 81 [(0, .ref w), (1, .int (Int32.ofNat i))] [] (yW2 Y w i) (mW2 N w i) := by
  intro j
  induction j with
  | zero =>
    intro i hi
    have : i = 8 := by omega
    subst this
    obtain ⟨kw, -, ⟨g1, g2, g3⟩, -, -, ke⟩ := BW.w2 h 8
    refine x_iload_n 1 dX6_init_81 rfl rfl ?_
    refine x_aload_n 0 dX6_init_82 rfl rfl ?_
    refine x_getr dX6_init_83 vc_X6 xin6 fb_X6_2 fl_X6_19 xr_X6_2 kw g1 ?_
    refine x_rlen (j := 1) dX6_init_86 (by decide) g2 (by rw [g3]) ?_
    refine x_icmp_ge_t (tgt := 109) dX6_init_87 (by decide) (by decide) ?_
    exact kk
  | succ j ih =>
    intro i hi
    have hi6 : i < 8 := by omega
    obtain ⟨z1, z2, z3⟩ := zi60 i (by omega)
    have zn : ¬ (Int32.ofNat 8 ≤ Int32.ofNat i) := (by decide +kernel : ∀ i, i < 8 → ¬ (Int32.ofNat 8 ≤ Int32.ofNat i)) i hi6
    have hb := BW.w2 h i
    obtain ⟨kw, -, ⟨g1, g2, g3⟩, -, -, ke⟩ := hb
    refine x_iload_n 1 dX6_init_81 rfl rfl ?_
    refine x_aload_n 0 dX6_init_82 rfl rfl ?_
    refine x_getr dX6_init_83 vc_X6 xin6 fb_X6_2 fl_X6_19 xr_X6_2 kw g1 ?_
    refine x_rlen (j := 1) dX6_init_86 (by decide) g2 (by rw [g3]) ?_
    refine x_icmp_ge_f (tgt := 109) dX6_init_87 (by decide) zn ?_
    refine x_aload_n 0 dX6_init_90 rfl rfl ?_
    refine x_getr dX6_init_91 vc_X6 xin6 fb_X6_2 fl_X6_19 xr_X6_2 kw g1 ?_
    refine x_iload_n 1 dX6_init_94 rfl rfl ?_
    refine x_newO (q := (w + 14 + 2 * i)) dX6_init_95 vc_X2 xin2 tyX2_ok kl9_X6_17 it9_X2 wn_X2 (fun j hj => match j, hj with | 0, _ => rfl | 1, _ => rfl | 2, _ => rfl | 3, _ => rfl | 4, _ => rfl | q + 5, h => absurd h (by omega)) ke ⟨by show c + 2 * i + 1 ≤ C; omega, by show s + 8 * i + 5 ≤ S; omega⟩ ?_
    refine x_dup dX6_init_98 rfl ?_
    refine x_initN (R' := xR 1 1 3) (As := []) (b := (w + 14 + 2 * i)) dX6_init_99 (by decide +kernel) wi_X2_init wn_X2 wc_X2_init rfl hp_X2_init ⟨Nat.le_of_ble_eq_true rfl, Nat.le_of_ble_eq_true rfl⟩ rfl (Nat.le_of_ble_eq_true rfl) ⟨by show c + 2 * i + 1 + 1 ≤ C; omega, by show s + 8 * i + 5 + 3 ≤ S; omega⟩ (I_X2 (kcq rfl) (kce rfl)) ?_
    refine x_aast (j := 1) (j9 := i) (ci := 2) dX6_init_102 (by decide) (by have h9 := ((((BW.w2 h i).k (c := 12) (n := 0) (by omega)).k (c := 1) (n := 3) (by omega)).s (a := (w + 14 + 2 * i)) (f := 3) (v := some ((w + 14 + 2 * i) + 1)) (by omega)); exact h9.2.2.1.2.1) (by have h9 := ((((BW.w2 h i).k (c := 12) (n := 0) (by omega)).k (c := 1) (n := 3) (by omega)).s (a := (w + 14 + 2 * i)) (f := 3) (v := some ((w + 14 + 2 * i) + 1)) (by omega)); have h8 := h9.2.2.1.2.2; exact zi_kn h8 hi6 (by decide)) z1 (by show kc (sr (yK (yK _ _ 12 0) _ 1 3) _ 3 _) _ = 12; rw [kcs, kck (by omega), kcq rfl]) vc_X2 rfl ?_
    refine x_iinc (L' := [(0, .ref w), (1, .int (Int32.ofNat i + 1))]) 1 [1, 0] dX6_init_103 rfl rfl (by decide) rfl ?_
    refine x_goto (tgt := 81) dX6_init_106 (by decide) ?_
    rw [z3]
    exact ih (i + 1) (by omega)
def yW3 (Y : XY) (w : Nat) : Nat → XY
  | 0 => Y
  | i + 1 => sr ((yK (yW3 Y w i) (w + 30 + i) 13 0)) (w + 3) i (some (w + 30 + i))
def mW3 (N : XN) (w : Nat) : Nat → XN
  | 0 => N
  | i + 1 => n0 (mW3 N w i) (w + 30 + i)
theorem BW.w3 {Y : XY} {w : Nat} (h : BW Y w (w + 30)) : ∀ i, BW (yW3 Y w i) w (w + 30 + i)
  | 0 => h
  | i + 1 => ((BW.w3 h i).k (c := 13) (n := 0) (by omega)).s (by omega)
set_option maxHeartbeats 1000000 in
theorem I_W3 {G : XG} {Y : XY} {N : XN} {w c s C S : Nat} {tb : List ExceptionTableEntry} {Z : List Frame → Array Value → State → State → Prop} (h : BW Y w (w + 30)) (hC : c + 60 ≤ C) (hS : s + 480 ≤ S)
    (kk : ExZ G yX6_init cX6_init 2 none tb (xR 2 C S) Z (c + 60) (s + 480) 139 [(0, .ref w), (1, .int (Int32.ofNat 60))] [] (yW3 Y w 60) (mW3 N w 60)) :
    ∀ j i, i + j = 60 → ExZ G yX6_init cX6_init 2 none tb (xR 2 C S) Z (c + 1 * i) (s + 8 * i) 111 [(0, .ref w), (1, .int (Int32.ofNat i))] [] (yW3 Y w i) (mW3 N w i) := by
  intro j
  induction j with
  | zero =>
    intro i hi
    have : i = 60 := by omega
    subst this
    obtain ⟨kw, -, -, ⟨g1, g2, g3⟩, -, ke⟩ := BW.w3 h 60
    refine x_iload_n 1 dX6_init_111 rfl rfl ?_
    refine x_aload_n 0 dX6_init_112 rfl rfl ?_
    refine x_getr dX6_init_113 vc_X6 xin6 fb_X6_4 fl_X6_25 xr_X6_4 kw g1 ?_
    refine x_rlen (j := 2) dX6_init_116 (by decide) g2 (by rw [g3]) ?_
    refine x_icmp_ge_t (tgt := 139) dX6_init_117 (by decide) (by decide) ?_
    exact kk
  | succ j ih =>
    intro i hi
    have hi6 : i < 60 := by omega
    obtain ⟨z1, z2, z3⟩ := zi60 i (by omega)
    have zn : ¬ (Int32.ofNat 60 ≤ Int32.ofNat i) := (by decide +kernel : ∀ i, i < 60 → ¬ (Int32.ofNat 60 ≤ Int32.ofNat i)) i hi6
    have hb := BW.w3 h i
    obtain ⟨kw, -, -, ⟨g1, g2, g3⟩, -, ke⟩ := hb
    refine x_iload_n 1 dX6_init_111 rfl rfl ?_
    refine x_aload_n 0 dX6_init_112 rfl rfl ?_
    refine x_getr dX6_init_113 vc_X6 xin6 fb_X6_4 fl_X6_25 xr_X6_4 kw g1 ?_
    refine x_rlen (j := 2) dX6_init_116 (by decide) g2 (by rw [g3]) ?_
    refine x_icmp_ge_f (tgt := 139) dX6_init_117 (by decide) zn ?_
    refine x_aload_n 0 dX6_init_120 rfl rfl ?_
    refine x_getr dX6_init_121 vc_X6 xin6 fb_X6_4 fl_X6_25 xr_X6_4 kw g1 ?_
    refine x_iload_n 1 dX6_init_124 rfl rfl ?_
    refine x_newO (q := (w + 30 + i)) dX6_init_125 vc_X3 xin3 tyX3_ok kl9_X6_23 it9_X3 wn_X3 (fun j hj => match j, hj with | 0, _ => rfl | 1, _ => rfl | 2, _ => rfl | 3, _ => rfl | 4, _ => rfl | 5, _ => rfl | 6, _ => rfl | 7, _ => rfl | q + 8, h => absurd h (by omega)) ke ⟨by show c + 1 * i + 1 ≤ C; omega, by show s + 8 * i + 8 ≤ S; omega⟩ ?_
    refine x_dup dX6_init_128 rfl ?_
    refine x_initN (R' := xR 1 0 0) (As := []) (b := (w + 30 + i)) dX6_init_129 (by decide +kernel) wi_X3_init wn_X3 wc_X3_init rfl hp_X3_init ⟨Nat.le_of_ble_eq_true rfl, Nat.le_of_ble_eq_true rfl⟩ rfl (Nat.le_of_ble_eq_true rfl) ⟨by show c + 1 * i + 1 + 0 ≤ C; omega, by show s + 8 * i + 8 + 0 ≤ S; omega⟩ (I_X3 (kcq rfl)) ?_
    refine x_aast (j := 2) (j9 := i) (ci := 3) dX6_init_132 (by decide) (by have h9 := (BW.w3 h i).k (c := 13) (n := 0) (by omega); exact h9.2.2.2.1.2.1) (by have h9 := (BW.w3 h i).k (c := 13) (n := 0) (by omega); have h8 := h9.2.2.2.1.2.2; exact zi_kn h8 hi6 (by decide)) z1 (kcq rfl) vc_X3 rfl ?_
    refine x_iinc (L' := [(0, .ref w), (1, .int (Int32.ofNat i + 1))]) 1 [1, 0] dX6_init_133 rfl rfl (by decide) rfl ?_
    refine x_goto (tgt := 111) dX6_init_136 (by decide) ?_
    rw [z3]
    exact ih (i + 1) (by omega)
def yW0 (Y : XY) (w : Nat) : XY := sr (yK (sr (yI_X0 (yK (sr (yK (sr (yK (sr (yK Y (w + 1) 4 6) w 0 (some (w + 1))) (w + 2) 5 8) w 2 (some (w + 2))) (w + 3) 6 60) w 4 (some (w + 3))) (w + 4) 10 0) (w + 4)) w 13 (some (w + 4))) (w + 7) 1 3) w 14 (some (w + 7))
def mW0 (N : XN) (w : Nat) : XN := n0 (mI_X0 (n0 (n0 (n0 (n0 N (w + 1)) (w + 2)) (w + 3)) (w + 4)) (w + 4)) (w + 7)
def mWb (N : XN) (w g : Nat) : XN := si (si (si (si (si (si (si (si (si (si (si N w 1 0) w 3 0) w 5 0) w 6 0) w 7 0) w 8 5) w 9 10) w 10 10) w 11 10) w 12 1) g 1 0
def yW (Y : XY) (w : Nat) : XY := yW3 (yW2 (yW1 (yW0 Y w) w 6) w 8) w 60
def mW (N : XN) (w : Nat) : XN := mWb (mW3 (mW2 (mW1 (mW0 N w) w 6) w 8) w 60) w (w + 4)
theorem grq {Y : XY} {a f : Nat} {v : Option Nat} : gr (sr Y a f v) a f = v := by
  show (if a = a ∧ f = f then v else Y.1 a f) = _
  rw [if_pos ⟨rfl, rfl⟩]
theorem grn {Y : XY} {a f b j : Nat} {v : Option Nat} (h : j ≠ f) : gr (sr Y a f v) b j = gr Y b j := by
  show (if b = a ∧ j = f then v else Y.1 b j) = _
  rw [if_neg (fun q => h q.2)]
  rfl
theorem BW.w0 {Y : XY} {w : Nat} (k0 : kc Y w = 16) : BW (yW0 Y w) w (w + 8) := by
  unfold yW0 yI_X0
  refine ⟨?_, ⟨?_, ?_, ?_⟩, ⟨?_, ?_, ?_⟩, ⟨?_, ?_, ?_⟩, ⟨?_, ?_⟩, ?_⟩ <;> simp (disch := omega) only [kcs, kns, kck, knk, kcq, knq, kce, grk, grq, grn, grs, k0]
theorem BW.w {Y : XY} {w : Nat} (k0 : kc Y w = 16) : BW (yW Y w) w (w + 90) := BW.w3 (BW.w2 (BW.w1 (BW.w0 k0) 6) 8) 60
theorem BW.g {Y : XY} {w e : Nat} (h : BW Y w e) : gp Y w 13 = w + 4 ∧ wtO Y w 13 10 := by
  obtain ⟨-, -, -, -, ⟨h1, h2⟩, -⟩ := h
  have g : gp Y w 13 = w + 4 := by unfold gr at h1; unfold gp; rw [h1]; rfl
  exact ⟨g, by rw [g]; exact h1, by rw [g]; exact h2⟩
theorem I_begin {Y : XY} {N : XN} {w e : Nat} (h : BW Y w e) : f_X6_begin Y w N = some (mWb N w (w + 4)) := by
  rw [← h.g.1]
  rfl
set_option maxHeartbeats 4000000 in
set_option maxRecDepth 100000 in
theorem I_X6 {G : XG} {Y : XY} {N : XN} {w : Nat} (k0 : kc Y w = 16) (k9 : kc Y (w + 1) = 9) : Cm G yX6_init cX6_init 2 (xR 2 89 1382) [.ref w] Y N (yW Y w) (mW N w) := by
  refine x_entryM (by decide) (Nat.le_of_ble_eq_true rfl) rfl fun tb => ?_
  refine x_aload_n 0 dX6_init_0 rfl rfl ?_
  refine x_super dX6_init_1 oi_X6_3 oi_i oi_c (by decide) (Nat.le_of_ble_eq_true rfl) (Nat.le_of_ble_eq_true rfl) ?_
  refine x_aload_n 0 dX6_init_4 rfl rfl ?_
  refine x_bipush (v := 6) dX6_init_5 rfl ?_
  refine x_newR (q := w + 1) (M := 6) (j := 0) dX6_init_7 kl9_X6_9 ao9_X1 (by decide) rfl (by decide) (by decide) rfl k9 ⟨Nat.le_of_ble_eq_true rfl, Nat.le_of_ble_eq_true rfl⟩ ?_
  refine x_putF dX6_init_10 vc_X6 xin6 tyX6_ok nmX6 fb_X6_0 fl_X6_11 ff_X6_0 rfl rfl xr_X6_0 rfl rfl (by simp (disch := omega) only [yI_X0, kcs, kck, k0]) ?_
  refine x_aload_n 0 dX6_init_13 rfl rfl ?_
  refine x_bipush (v := 8) dX6_init_14 rfl ?_
  refine x_newR (q := w + 2) (M := 8) (j := 1) dX6_init_16 kl9_X6_17 ao9_X2 (by decide) rfl (by decide) (by decide) rfl (by simp (disch := omega) only [yI_X0, kcs, kce]) ⟨Nat.le_of_ble_eq_true rfl, Nat.le_of_ble_eq_true rfl⟩ ?_
  refine x_putF dX6_init_19 vc_X6 xin6 tyX6_ok nmX6 fb_X6_2 fl_X6_19 ff_X6_2 rfl rfl xr_X6_2 rfl rfl (by simp (disch := omega) only [yI_X0, kcs, kck, k0]) ?_
  refine x_aload_n 0 dX6_init_22 rfl rfl ?_
  refine x_bipush (v := 60) dX6_init_23 rfl ?_
  refine x_newR (q := w + 3) (M := 60) (j := 2) dX6_init_25 kl9_X6_23 ao9_X3 (by decide) rfl (by decide) (by decide) rfl (by simp (disch := omega) only [yI_X0, kcs, kce]) ⟨Nat.le_of_ble_eq_true rfl, Nat.le_of_ble_eq_true rfl⟩ ?_
  refine x_putF dX6_init_28 vc_X6 xin6 tyX6_ok nmX6 fb_X6_4 fl_X6_25 ff_X6_4 rfl rfl xr_X6_4 rfl rfl (by simp (disch := omega) only [yI_X0, kcs, kck, k0]) ?_
  refine x_aload_n 0 dX6_init_31 rfl rfl ?_
  refine x_newO (q := w + 4) dX6_init_32 vc_X0 xin0 tyX0_ok kl9_X6_29 it9_X0 wn_X0 (fun j hj => match j, hj with | 0, _ => rfl | 1, _ => rfl | 2, _ => rfl | q + 3, h => absurd h (by omega)) (by simp (disch := omega) only [yI_X0, kcs, kce]) ⟨Nat.le_of_ble_eq_true rfl, Nat.le_of_ble_eq_true rfl⟩ ?_
  refine x_dup dX6_init_35 rfl ?_
  refine x_initN (R' := xR 1 2 716) (As := []) (b := w + 4) dX6_init_36 (by decide +kernel) wi_X0_init wn_X0 wc_X0_init rfl hp_X0_init ⟨Nat.le_of_ble_eq_true rfl, Nat.le_of_ble_eq_true rfl⟩ rfl (Nat.le_of_ble_eq_true rfl) ⟨Nat.le_of_ble_eq_true rfl, Nat.le_of_ble_eq_true rfl⟩ (I_X0 (kcq rfl) (kce rfl)) ?_
  refine x_putF dX6_init_39 vc_X6 xin6 tyX6_ok nmX6 fb_X6_13 fl_X6_32 ff_X6_13 rfl rfl xr_X6_13 rfl rfl (by simp (disch := omega) only [yI_X0, kcs, kck, k0]) ?_
  refine x_aload_n 0 dX6_init_42 rfl rfl ?_
  refine x_iconst (v := 3) dX6_init_43 rfl ?_
  refine x_newP (q := w + 7) (M := 3) (kd := 1) dX6_init_44 rfl ac9_int (by decide) rfl (by decide) (Or.inl ⟨rfl, rfl, rfl⟩) (by simp (disch := omega) only [yI_X0, kcs, kce]) ⟨Nat.le_of_ble_eq_true rfl, Nat.le_of_ble_eq_true rfl⟩ ?_
  refine x_putF dX6_init_46 vc_X6 xin6 tyX6_ok nmX6 fb_X6_14 fl_X6_36 ff_X6_14 rfl rfl xr_X6_14 rfl rfl (by simp (disch := omega) only [yI_X0, kcs, kck, k0]) ?_
  refine x_iconst (v := 0) dX6_init_49 rfl ?_
  refine x_istore_n (L' := [(0, .ref w), (1, .int 0)]) [1, 0] dX6_init_50 rfl (by decide) rfl ?_
  have b0 : BW (yW0 Y w) w (w + 8) := BW.w0 k0
  have b1 : BW (yW1 (yW0 Y w) w 6) w (w + 14) := BW.w1 b0 6
  have b2 : BW (yW2 (yW1 (yW0 Y w) w 6) w 8) w (w + 30) := BW.w2 b1 8
  have b3 : BW (yW Y w) w (w + 90) := BW.w k0
  refine I_W1 (Y := yW0 Y w) (N := mW0 N w) (c := 7) (s := 796) (C := 89) (S := 1382) b0 (by decide) (by decide) ?_ 6 0 rfl
  refine x_iconst (v := 0) dX6_init_79 rfl ?_
  refine x_istore_n (L' := [(0, .ref w), (1, .int 0)]) [1, 0] dX6_init_80 rfl (by decide) rfl ?_
  refine I_W2 (Y := yW1 (yW0 Y w) w 6) (N := mW1 (mW0 N w) w 6) (c := 13) (s := 838) (C := 89) (S := 1382) b1 (by decide) (by decide) ?_ 8 0 rfl
  refine x_iconst (v := 0) dX6_init_109 rfl ?_
  refine x_istore_n (L' := [(0, .ref w), (1, .int 0)]) [1, 0] dX6_init_110 rfl (by decide) rfl ?_
  refine I_W3 (Y := yW2 (yW1 (yW0 Y w) w 6) w 8) (N := mW2 (mW1 (mW0 N w) w 6) w 8) (c := 29) (s := 902) (C := 89) (S := 1382) b2 (by decide) (by decide) ?_ 60 0 rfl
  refine x_aload_n 0 dX6_init_139 rfl rfl ?_
  refine x_cv (b := w) (As := []) (ci := 6) (d' := 1) (zz := yX6_begin) dX6_init_140 ml_X6_43 wi_X6_begin wv_X6_begin wn_X6 wc_X6_begin hp_X6_begin (by decide) (by decide) rfl (Nat.le_of_ble_eq_true rfl) ⟨Nat.le_of_ble_eq_true rfl, Nat.le_of_ble_eq_true rfl⟩ vc_X6 b3.1 (T0_X6_begin (G := G) (Y := yW Y w) b3.1 b3.g.2 (I_begin b3)) ?_
  exact x_mret dX6_init_143 rfl rfl rfl
