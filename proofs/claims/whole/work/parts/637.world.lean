/-! a world under construction: its arrays stand, the heap's end is e -/
theorem grk {Y : XY} {q c n b j : Nat} (h : b ≠ q) : gr (yK Y q c n) b j = gr Y b j := by simp only [gr, yK, if_neg h]
theorem grs {Y : XY} {a f b j : Nat} {v : Option Nat} (h : b ≠ a) : gr (sr Y a f v) b j = gr Y b j := by
  show (if b = a ∧ j = f then v else Y.1 b j) = _
  rw [if_neg (fun q => h q.1)]
  rfl
def BW (Y : XY) (w e : Nat) : Prop := kc Y w = 16 ∧ (gr Y w 0 = some (w + 1) ∧ kc Y (w + 1) = 4 ∧ kn Y (w + 1) = 6) ∧ (gr Y w 2 = some (w + 2) ∧ kc Y (w + 2) = 5 ∧ kn Y (w + 2) = 8) ∧ (gr Y w 4 = some (w + 3) ∧ kc Y (w + 3) = 6 ∧ kn Y (w + 3) = 60) ∧ (gr Y w 13 = some (w + 4) ∧ kc Y (w + 4) = 10) ∧ kc Y e = 9
theorem BW.k {Y : XY} {w e c n : Nat} (h : BW Y w e) (hl : w + 5 ≤ e) : BW (yK Y e c n) w (e + 1) := by
  obtain ⟨h1, ⟨h2, h3, h4⟩, ⟨h5, h6, h7⟩, ⟨h8, h9, h10⟩, ⟨h11, h12⟩, h13⟩ := h
  refine ⟨?_, ⟨?_, ?_, ?_⟩, ⟨?_, ?_, ?_⟩, ⟨?_, ?_, ?_⟩, ⟨?_, ?_⟩, ?_⟩ <;> simp (disch := omega) only [kck, knk, kce, grk, h1, h2, h3, h4, h5, h6, h7, h8, h9, h10, h11, h12]
theorem BW.s {Y : XY} {w e a f : Nat} {v : Option Nat} (h : BW Y w e) (hl : a ≠ w) : BW (sr Y a f v) w e := by
  obtain ⟨h1, ⟨h2, h3, h4⟩, ⟨h5, h6, h7⟩, ⟨h8, h9, h10⟩, ⟨h11, h12⟩, h13⟩ := h
  have e2 : ∀ j, gr (sr Y a f v) w j = gr Y w j := fun j => grs (fun q => hl q.symm)
  refine ⟨?_, ⟨?_, ?_, ?_⟩, ⟨?_, ?_, ?_⟩, ⟨?_, ?_, ?_⟩, ⟨?_, ?_⟩, ?_⟩ <;> simp only [kcs, kns, e2, h1, h2, h3, h4, h5, h6, h7, h8, h9, h10, h11, h12, h13]
theorem zi60 : ∀ i, i < 60 → (Int32.ofNat i).toNatClampNeg = i ∧ ¬ (Int32.ofNat i < 0) ∧ Int32.ofNat i + 1 = Int32.ofNat (i + 1) := by decide +kernel
theorem zi_in {i n : Nat} (h : i < n) (hn : n ≤ 60) : vp_in (Int32.ofNat i) n := by
  obtain ⟨h1, h2, -⟩ := zi60 i (by omega)
  rintro (q | q)
  · exact h2 q
  · rw [h1] at q; omega
theorem zi_kn {Y : XY} {a i n : Nat} (h8 : kn Y a = n) (h : i < n) (hn : n ≤ 60) : vp_in (Int32.ofNat i) (kn Y a) := by rw [h8]; exact zi_in h hn
def yW1 (Y : XY) (w : Nat) : Nat → XY
  | 0 => Y
  | i + 1 => sr ((yK (yW1 Y w i) (w + 8 + i) 11 0)) (w + 1) i (some (w + 8 + i))
def mW1 (N : XN) (w : Nat) : Nat → XN
  | 0 => N
  | i + 1 => n0 (mW1 N w i) (w + 8 + i)
theorem BW.w1 {Y : XY} {w : Nat} (h : BW Y w (w + 8)) : ∀ i, BW (yW1 Y w i) w (w + 8 + i)
  | 0 => h
  | i + 1 => ((BW.w1 h i).k (c := 11) (n := 0) (by omega)).s (by omega)
set_option maxHeartbeats 1000000 in
theorem I_W1 {G : XG} {Y : XY} {N : XN} {w c s C S : Nat} {tb : List ExceptionTableEntry} {Z : List Frame → Array Value → State → State → Prop} (h : BW Y w (w + 8)) (hC : c + 6 ≤ C) (hS : s + 42 ≤ S)
    (kk : ExZ G yX6_init cX6_init 2 none tb (xR 2 C S) Z (c + 6) (s + 42) 79 [(0, .ref w), (1, .int (Int32.ofNat 6))] [] (yW1 Y w 6) (mW1 N w 6)) :
    ∀ j i, i + j = 6 → ExZ G yX6_init cX6_init 2 none tb (xR 2 C S) Z (c + 1 * i) (s + 7 * i) 51 [(0, .ref w), (1, .int (Int32.ofNat i))] [] (yW1 Y w i) (mW1 N w i) := by
  intro j
  induction j with
  | zero =>
    intro i hi
    have : i = 6 := by omega
    subst this
    obtain ⟨kw, ⟨g1, g2, g3⟩, -, -, -, ke⟩ := BW.w1 h 6
    refine x_iload_n 1 dX6_init_51 rfl rfl ?_
    refine x_aload_n 0 dX6_init_52 rfl rfl ?_
    refine x_getr dX6_init_53 vc_X6 xin6 fb_X6_0 fl_X6_11 xr_X6_0 kw g1 ?_
    refine x_rlen (j := 0) dX6_init_56 (by decide) g2 (by rw [g3]) ?_
    refine x_icmp_ge_t (tgt := 79) dX6_init_57 (by decide) (by decide) ?_
    exact kk
  | succ j ih =>
    intro i hi
    have hi6 : i < 6 := by omega
    obtain ⟨z1, z2, z3⟩ := zi60 i (by omega)
    have zn : ¬ (Int32.ofNat 6 ≤ Int32.ofNat i) := (by decide +kernel : ∀ i, i < 6 → ¬ (Int32.ofNat 6 ≤ Int32.ofNat i)) i hi6
    have hb := BW.w1 h i
    obtain ⟨kw, ⟨g1, g2, g3⟩, -, -, -, ke⟩ := hb
    refine x_iload_n 1 dX6_init_51 rfl rfl ?_
    refine x_aload_n 0 dX6_init_52 rfl rfl ?_
    refine x_getr dX6_init_53 vc_X6 xin6 fb_X6_0 fl_X6_11 xr_X6_0 kw g1 ?_
    refine x_rlen (j := 0) dX6_init_56 (by decide) g2 (by rw [g3]) ?_
    refine x_icmp_ge_f (tgt := 79) dX6_init_57 (by decide) zn ?_
    refine x_aload_n 0 dX6_init_60 rfl rfl ?_
    refine x_getr dX6_init_61 vc_X6 xin6 fb_X6_0 fl_X6_11 xr_X6_0 kw g1 ?_
    refine x_iload_n 1 dX6_init_64 rfl rfl ?_
    refine x_newO (q := (w + 8 + i)) dX6_init_65 vc_X1 xin1 tyX1_ok kl9_X6_9 it9_X1 wn_X1 (fun j hj => match j, hj with | 0, _ => rfl | 1, _ => rfl | 2, _ => rfl | 3, _ => rfl | 4, _ => rfl | 5, _ => rfl | 6, _ => rfl | q + 7, h => absurd h (by omega)) ke ⟨by show c + 1 * i + 1 ≤ C; omega, by show s + 7 * i + 7 ≤ S; omega⟩ ?_
    refine x_dup dX6_init_68 rfl ?_
    refine x_initN (R' := xR 1 0 0) (As := []) (b := (w + 8 + i)) dX6_init_69 (by decide +kernel) wi_X1_init wn_X1 wc_X1_init rfl hp_X1_init ⟨Nat.le_of_ble_eq_true rfl, Nat.le_of_ble_eq_true rfl⟩ rfl (Nat.le_of_ble_eq_true rfl) ⟨by show c + 1 * i + 1 + 0 ≤ C; omega, by show s + 7 * i + 7 + 0 ≤ S; omega⟩ (I_X1 (kcq rfl)) ?_
    refine x_aast (j := 0) (j9 := i) (ci := 1) dX6_init_72 (by decide) (by have h9 := (BW.w1 h i).k (c := 11) (n := 0) (by omega); exact h9.2.1.2.1) (by have h9 := (BW.w1 h i).k (c := 11) (n := 0) (by omega); have h8 := h9.2.1.2.2; exact zi_kn h8 hi6 (by decide)) z1 (kcq rfl) vc_X1 rfl ?_
    refine x_iinc (L' := [(0, .ref w), (1, .int (Int32.ofNat i + 1))]) 1 [1, 0] dX6_init_73 rfl rfl (by decide) rfl ?_
    refine x_goto (tgt := 51) dX6_init_76 (by decide) ?_
    rw [z3]
    exact ih (i + 1) (by omega)
def yW2 (Y : XY) (w : Nat) : Nat → XY
  | 0 => Y
  | i + 1 => sr (yI_X2 (yK (yW2 Y w i) (w + 14 + 2 * i) 12 0) (w + 14 + 2 * i)) (w + 2) i (some (w + 14 + 2 * i))
def mW2 (N : XN) (w : Nat) : Nat → XN
  | 0 => N
  | i + 1 => mI_X2 (n0 (mW2 N w i) (w + 14 + 2 * i)) (w + 14 + 2 * i)
theorem BW.w2 {Y : XY} {w : Nat} (h : BW Y w (w + 14)) : ∀ i, BW (yW2 Y w i) w (w + 14 + 2 * i)
  | 0 => h
  | i + 1 => by
    have b := ((((BW.w2 h i).k (c := 12) (n := 0) (by omega)).k (c := 1) (n := 3) (by omega)).s (a := (w + 14 + 2 * i)) (f := 3) (v := some ((w + 14 + 2 * i) + 1)) (by omega)).s (a := w + 2) (f := i) (v := some (w + 14 + 2 * i)) (by omega)
    exact b
set_option maxHeartbeats 1000000 in
theorem I_W2 {G : XG} {Y : XY} {N : XN} {w c s C S : Nat} {tb : List ExceptionTableEntry} {Z : List Frame → Array Value → State → State → Prop} (h : BW Y w (w + 14)) (hC : c + 16 ≤ C) (hS : s + 64 ≤ S)
    (kk : ExZ G yX6_init cX6_init 2 none tb (xR 2 C S) Z (c + 16) (s + 64) 109 [(0, .ref w), (1, .int (Int32.ofNat 8))] [] (yW2 Y w 8) (mW2 N w 8)) :
    ∀ j i, i + j = 8 → ExZ G yX6_init cX6_init 2 none tb (xR 2 C S) Z (c + 2 * i) (s + 8 * i) 81 [(0, .ref w), (1, .int (Int32.ofNat i))] [] (yW2 Y w i) (mW2 N w i) := by
  intro j
  induction j with
  | zero =>
    intro i hi
    have : i = 8 := by omega
    subst this
    obtain ⟨kw, -, ⟨g1, g2, g3⟩, -, -, ke⟩ := BW.w2 h 8
    refine x_iload_n 1 dX6_init_81 rfl rfl ?_
    refine x_aload_n 0 dX6_init_82 rfl rfl ?_
    refine x_getr dX6_init_83 vc_X6 xin6 fb_X6_2 fl_X6_19 xr_X6_2 kw g1 ?_
    refine x_rlen (j := 1) dX6_init_86 (by decide) g2 (by rw [g3]) ?_
    refine x_icmp_ge_t (tgt := 109) dX6_init_87 (by decide) (by decide) ?_
    exact kk
  | succ j ih =>
    intro i hi
    have hi6 : i < 8 := by omega
    obtain ⟨z1, z2, z3⟩ := zi60 i (by omega)
    have zn : ¬ (Int32.ofNat 8 ≤ Int32.ofNat i) := (by decide +kernel : ∀ i, i < 8 → ¬ (Int32.ofNat 8 ≤ Int32.ofNat i)) i hi6
    have hb := BW.w2 h i
    obtain ⟨kw, -, ⟨g1, g2, g3⟩, -, -, ke⟩ := hb
    refine x_iload_n 1 dX6_init_81 rfl rfl ?_
    refine x_aload_n 0 dX6_init_82 rfl rfl ?_
    refine x_getr dX6_init_83 vc_X6 xin6 fb_X6_2 fl_X6_19 xr_X6_2 kw g1 ?_
    refine x_rlen (j := 1) dX6_init_86 (by decide) g2 (by rw [g3]) ?_
    refine x_icmp_ge_f (tgt := 109) dX6_init_87 (by decide) zn ?_
    refine x_aload_n 0 dX6_init_90 rfl rfl ?_
    refine x_getr dX6_init_91 vc_X6 xin6 fb_X6_2 fl_X6_19 xr_X6_2 kw g1 ?_
    refine x_iload_n 1 dX6_init_94 rfl rfl ?_
    refine x_newO (q := (w + 14 + 2 * i)) dX6_init_95 vc_X2 xin2 tyX2_ok kl9_X6_17 it9_X2 wn_X2 (fun j hj => match j, hj with | 0, _ => rfl | 1, _ => rfl | 2, _ => rfl | 3, _ => rfl | 4, _ => rfl | q + 5, h => absurd h (by omega)) ke ⟨by show c + 2 * i + 1 ≤ C; omega, by show s + 8 * i + 5 ≤ S; omega⟩ ?_
    refine x_dup dX6_init_98 rfl ?_
    refine x_initN (R' := xR 1 1 3) (As := []) (b := (w + 14 + 2 * i)) dX6_init_99 (by decide +kernel) wi_X2_init wn_X2 wc_X2_init rfl hp_X2_init ⟨Nat.le_of_ble_eq_true rfl, Nat.le_of_ble_eq_true rfl⟩ rfl (Nat.le_of_ble_eq_true rfl) ⟨by show c + 2 * i + 1 + 1 ≤ C; omega, by show s + 8 * i + 5 + 3 ≤ S; omega⟩ (I_X2 (kcq rfl) (kce rfl)) ?_
    refine x_aast (j := 1) (j9 := i) (ci := 2) dX6_init_102 (by decide) (by have h9 := ((((BW.w2 h i).k (c := 12) (n := 0) (by omega)).k (c := 1) (n := 3) (by omega)).s (a := (w + 14 + 2 * i)) (f := 3) (v := some ((w + 14 + 2 * i) + 1)) (by omega)); exact h9.2.2.1.2.1) (by have h9 := ((((BW.w2 h i).k (c := 12) (n := 0) (by omega)).k (c := 1) (n := 3) (by omega)).s (a := (w + 14 + 2 * i)) (f := 3) (v := some ((w + 14 + 2 * i) + 1)) (by omega)); have h8 := h9.2.2.1.2.2; exact zi_kn h8 hi6 (by decide)) z1 (by show kc (sr (yK (yK _ _ 12 0) _ 1 3) _ 3 _) _ = 12; rw [kcs, kck (by omega), kcq rfl]) vc_X2 rfl ?_
    refine x_iinc (L' := [(0, .ref w), (1, .int (Int32.ofNat i + 1))]) 1 [1, 0] dX6_init_103 rfl rfl (by decide) rfl ?_
    refine x_goto (tgt := 81) dX6_init_106 (by decide) ?_
    rw [z3]
    exact ih (i + 1) (by omega)
def yW3 (Y : XY) (w : Nat) : Nat → XY
  | 0 => Y
  | i + 1 => sr ((yK (yW3 Y w i) (w + 30 + i) 13 0)) (w + 3) i (some (w + 30 + i))
def mW3 (N : XN) (w : Nat) : Nat → XN
  | 0 => N
  | i + 1 => n0 (mW3 N w i) (w + 30 + i)
theorem BW.w3 {Y : XY} {w : Nat} (h : BW Y w (w + 30)) : ∀ i, BW (yW3 Y w i) w (w + 30 + i)
  | 0 => h
  | i + 1 => ((BW.w3 h i).k (c := 13) (n := 0) (by omega)).s (by omega)
set_option maxHeartbeats 1000000 in
theorem I_W3 {G : XG} {Y : XY} {N : XN} {w c s C S : Nat} {tb : List ExceptionTableEntry} {Z : List Frame → Array Value → State → State → Prop} (h : BW Y w (w + 30)) (hC : c + 60 ≤ C) (hS : s + 480 ≤ S)
    (kk : ExZ G yX6_init cX6_init 2 none tb (xR 2 C S) Z (c + 60) (s + 480) 139 [(0, .ref w), (1, .int (Int32.ofNat 60))] [] (yW3 Y w 60) (mW3 N w 60)) :
    ∀ j i, i + j = 60 → ExZ G yX6_init cX6_init 2 none tb (xR 2 C S) Z (c + 1 * i) (s + 8 * i) 111 [(0, .ref w), (1, .int (Int32.ofNat i))] [] (yW3 Y w i) (mW3 N w i) := by
  intro j
  induction j with
  | zero =>
    intro i hi
    have : i = 60 := by omega
    subst this
    obtain ⟨kw, -, -, ⟨g1, g2, g3⟩, -, ke⟩ := BW.w3 h 60
    refine x_iload_n 1 dX6_init_111 rfl rfl ?_
    refine x_aload_n 0 dX6_init_112 rfl rfl ?_
    refine x_getr dX6_init_113 vc_X6 xin6 fb_X6_4 fl_X6_25 xr_X6_4 kw g1 ?_
    refine x_rlen (j := 2) dX6_init_116 (by decide) g2 (by rw [g3]) ?_
    refine x_icmp_ge_t (tgt := 139) dX6_init_117 (by decide) (by decide) ?_
    exact kk
  | succ j ih =>
    intro i hi
    have hi6 : i < 60 := by omega
    obtain ⟨z1, z2, z3⟩ := zi60 i (by omega)
    have zn : ¬ (Int32.ofNat 60 ≤ Int32.ofNat i) := (by decide +kernel : ∀ i, i < 60 → ¬ (Int32.ofNat 60 ≤ Int32.ofNat i)) i hi6
    have hb := BW.w3 h i
    obtain ⟨kw, -, -, ⟨g1, g2, g3⟩, -, ke⟩ := hb
    refine x_iload_n 1 dX6_init_111 rfl rfl ?_
    refine x_aload_n 0 dX6_init_112 rfl rfl ?_
    refine x_getr dX6_init_113 vc_X6 xin6 fb_X6_4 fl_X6_25 xr_X6_4 kw g1 ?_
    refine x_rlen (j := 2) dX6_init_116 (by decide) g2 (by rw [g3]) ?_
    refine x_icmp_ge_f (tgt := 139) dX6_init_117 (by decide) zn ?_
    refine x_aload_n 0 dX6_init_120 rfl rfl ?_
    refine x_getr dX6_init_121 vc_X6 xin6 fb_X6_4 fl_X6_25 xr_X6_4 kw g1 ?_
    refine x_iload_n 1 dX6_init_124 rfl rfl ?_
    refine x_newO (q := (w + 30 + i)) dX6_init_125 vc_X3 xin3 tyX3_ok kl9_X6_23 it9_X3 wn_X3 (fun j hj => match j, hj with | 0, _ => rfl | 1, _ => rfl | 2, _ => rfl | 3, _ => rfl | 4, _ => rfl | 5, _ => rfl | 6, _ => rfl | 7, _ => rfl | q + 8, h => absurd h (by omega)) ke ⟨by show c + 1 * i + 1 ≤ C; omega, by show s + 8 * i + 8 ≤ S; omega⟩ ?_
    refine x_dup dX6_init_128 rfl ?_
    refine x_initN (R' := xR 1 0 0) (As := []) (b := (w + 30 + i)) dX6_init_129 (by decide +kernel) wi_X3_init wn_X3 wc_X3_init rfl hp_X3_init ⟨Nat.le_of_ble_eq_true rfl, Nat.le_of_ble_eq_true rfl⟩ rfl (Nat.le_of_ble_eq_true rfl) ⟨by show c + 1 * i + 1 + 0 ≤ C; omega, by show s + 8 * i + 8 + 0 ≤ S; omega⟩ (I_X3 (kcq rfl)) ?_
    refine x_aast (j := 2) (j9 := i) (ci := 3) dX6_init_132 (by decide) (by have h9 := (BW.w3 h i).k (c := 13) (n := 0) (by omega); exact h9.2.2.2.1.2.1) (by have h9 := (BW.w3 h i).k (c := 13) (n := 0) (by omega); have h8 := h9.2.2.2.1.2.2; exact zi_kn h8 hi6 (by decide)) z1 (kcq rfl) vc_X3 rfl ?_
    refine x_iinc (L' := [(0, .ref w), (1, .int (Int32.ofNat i + 1))]) 1 [1, 0] dX6_init_133 rfl rfl (by decide) rfl ?_
    refine x_goto (tgt := 111) dX6_init_136 (by decide) ?_
    rw [z3]
    exact ih (i + 1) (by omega)
