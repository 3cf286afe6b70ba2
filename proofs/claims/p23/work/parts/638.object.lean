/-! the object's constructor -/
theorem gl0 {Y : XY} {w b : Nat} (h : b < w) : kc (yW0 Y w) b = kc Y b ∧ kn (yW0 Y w) b = kn Y b ∧ ∀ j, gr (yW0 Y w) b j = gr Y b j := by
  unfold yW0 yI_X0
  refine ⟨?_, ?_, fun j => ?_⟩ <;> simp (disch := omega) only [kcs, kns, kck, knk, grk, grs]
theorem gl1 {Y : XY} {w b : Nat} (h : b < w) : ∀ i, kc (yW1 Y w i) b = kc Y b ∧ kn (yW1 Y w i) b = kn Y b ∧ ∀ j, gr (yW1 Y w i) b j = gr Y b j
  | 0 => ⟨rfl, rfl, fun _ => rfl⟩
  | i + 1 => by
    obtain ⟨h1, h2, h3⟩ := gl1 (Y := Y) h i
    unfold yW1
    refine ⟨?_, ?_, fun j => ?_⟩ <;> simp (disch := omega) only [kcs, kns, kck, knk, grk, grs, h1, h2, h3]
theorem gl2 {Y : XY} {w b : Nat} (h : b < w) : ∀ i, kc (yW2 Y w i) b = kc Y b ∧ kn (yW2 Y w i) b = kn Y b ∧ ∀ j, gr (yW2 Y w i) b j = gr Y b j
  | 0 => ⟨rfl, rfl, fun _ => rfl⟩
  | i + 1 => by
    obtain ⟨h1, h2, h3⟩ := gl2 (Y := Y) h i
    unfold yW2 yI_X2
    refine ⟨?_, ?_, fun j => ?_⟩ <;> simp (disch := omega) only [kcs, kns, kck, knk, grk, grs, h1, h2, h3]
theorem gl3 {Y : XY} {w b : Nat} (h : b < w) : ∀ i, kc (yW3 Y w i) b = kc Y b ∧ kn (yW3 Y w i) b = kn Y b ∧ ∀ j, gr (yW3 Y w i) b j = gr Y b j
  | 0 => ⟨rfl, rfl, fun _ => rfl⟩
  | i + 1 => by
    obtain ⟨h1, h2, h3⟩ := gl3 (Y := Y) h i
    unfold yW3
    refine ⟨?_, ?_, fun j => ?_⟩ <;> simp (disch := omega) only [kcs, kns, kck, knk, grk, grs, h1, h2, h3]
theorem kcW {Y : XY} {w b : Nat} (h : b < w) : kc (yW Y w) b = kc Y b := ((gl3 h 60).1.trans (gl2 h 8).1).trans ((gl1 h 6).1.trans (gl0 h).1)
theorem knW {Y : XY} {w b : Nat} (h : b < w) : kn (yW Y w) b = kn Y b := ((gl3 h 60).2.1.trans (gl2 h 8).2.1).trans ((gl1 h 6).2.1.trans (gl0 h).2.1)
theorem grW {Y : XY} {w b j : Nat} (h : b < w) : gr (yW Y w) b j = gr Y b j := (((gl3 h 60).2.2 j).trans ((gl2 h 8).2.2 j)).trans (((gl1 h 6).2.2 j).trans ((gl0 h).2.2 j))
theorem kcWe {Y : XY} {w e c n : Nat} (hc : c = 16) (h : e = w + 90) : kc (yW (yK Y w c n) w) e = 9 := by
  subst h
  subst hc
  exact (BW.w (kcq rfl)).2.2.2.2.2
def BV (Y : XY) (B e : Nat) : Prop := kc Y B = 17 ∧ (gr Y B 7 = some (B + 187) ∧ kc Y (B + 187) = 7 ∧ kn Y (B + 187) = 8) ∧ kc Y e = 9
def yP (Y : XY) (B : Nat) : Nat → XY
  | 0 => Y
  | i + 1 => sr (yW (yK (yP Y B i) (B + 188 + 90 * i) 16 0) (B + 188 + 90 * i)) (B + 187) i (some (B + 188 + 90 * i))
def mP (N : XN) (B : Nat) : Nat → XN
  | 0 => N
  | i + 1 => mW (n0 (mP N B i) (B + 188 + 90 * i)) (B + 188 + 90 * i)
theorem BV.p {Y : XY} {B : Nat} (h : BV Y B (B + 188)) : ∀ i, BV (yP Y B i) B (B + 188 + 90 * i)
  | 0 => h
  | i + 1 => by
    obtain ⟨h1, ⟨h2, h3, h4⟩, -⟩ := BV.p h i
    unfold yP
    refine ⟨?_, ⟨?_, ?_, ?_⟩, ?_⟩ <;> simp (disch := omega) only [kcs, kns, kck, knk, grk, grs, kcW, knW, grW, kcWe, h1, h2, h3, h4]

set_option maxHeartbeats 1000000 in
theorem I_P {G : XG} {Y : XY} {N : XN} {B c s C S : Nat} {tb : List ExceptionTableEntry} {Z : List Frame → Array Value → State → State → Prop} (h : BV Y B (B + 188)) (hC : c + 720 ≤ C) (hS : s + 11176 ≤ S)
    (kk : ExZ G yX7_init cX7_init 2 none tb (xR 3 C S) Z (c + 720) (s + 11176) 106 [(0, .ref B), (1, .int (Int32.ofNat 8))] [] (yP Y B 8) (mP N B 8)) :
    ∀ j i, i + j = 8 → ExZ G yX7_init cX7_init 2 none tb (xR 3 C S) Z (c + 90 * i) (s + 1397 * i) 78 [(0, .ref B), (1, .int (Int32.ofNat i))] [] (yP Y B i) (mP N B i) := by
  intro j
  induction j with
  | zero =>
    intro i hi
    have : i = 8 := by omega
    subst this
    obtain ⟨kw, ⟨g1, g2, g3⟩, ke⟩ := BV.p h 8
    refine x_iload_n 1 dX7_init_78 rfl rfl ?_
    refine x_aload_n 0 dX7_init_79 rfl rfl ?_
    refine x_getr dX7_init_80 vc_X7 xin7 fb_X7_7 fl_X7_44 xr_X7_7 kw g1 ?_
    refine x_rlen (j := 3) dX7_init_83 (by decide) g2 (by rw [g3]) ?_
    refine x_icmp_ge_t (tgt := 106) dX7_init_84 (by decide) (by decide) ?_
    exact kk
  | succ j ih =>
    intro i hi
    have hi6 : i < 8 := by omega
    obtain ⟨z1, z2, z3⟩ := zi60 i (by omega)
    have zn : ¬ (Int32.ofNat 8 ≤ Int32.ofNat i) := (by decide +kernel : ∀ i, i < 8 → ¬ (Int32.ofNat 8 ≤ Int32.ofNat i)) i hi6
    obtain ⟨kw, ⟨g1, g2, g3⟩, ke⟩ := BV.p h i
    refine x_iload_n 1 dX7_init_78 rfl rfl ?_
    refine x_aload_n 0 dX7_init_79 rfl rfl ?_
    refine x_getr dX7_init_80 vc_X7 xin7 fb_X7_7 fl_X7_44 xr_X7_7 kw g1 ?_
    refine x_rlen (j := 3) dX7_init_83 (by decide) g2 (by rw [g3]) ?_
    refine x_icmp_ge_f (tgt := 106) dX7_init_84 (by decide) zn ?_
    refine x_aload_n 0 dX7_init_87 rfl rfl ?_
    refine x_getr dX7_init_88 vc_X7 xin7 fb_X7_7 fl_X7_44 xr_X7_7 kw g1 ?_
    refine x_iload_n 1 dX7_init_91 rfl rfl ?_
    refine x_newO (q := (B + 188 + 90 * i)) dX7_init_92 vc_X6 xin6 tyX6_ok kl9_X7_34 it9_X6 wn_X6 (fun j hj => match j, hj with | 0, _ => rfl | 1, _ => rfl | 2, _ => rfl | 3, _ => rfl | 4, _ => rfl | 5, _ => rfl | 6, _ => rfl | 7, _ => rfl | 8, _ => rfl | 9, _ => rfl | 10, _ => rfl | 11, _ => rfl | 12, _ => rfl | 13, _ => rfl | 14, _ => rfl | q + 15, h => absurd h (by omega)) ke ⟨by show c + 90 * i + 1 ≤ C; omega, by show s + 1397 * i + 15 ≤ S; omega⟩ ?_
    refine x_dup dX7_init_95 rfl ?_
    refine x_init (R' := xR 2 89 1382) (As := []) (b := (B + 188 + 90 * i)) dX7_init_96 ml_X7_36 wi_X6_init wn_X6 wc_X6_init rfl hp_X6_init ⟨Nat.le_of_ble_eq_true rfl, Nat.le_of_ble_eq_true rfl⟩ rfl (Nat.le_of_ble_eq_true rfl) ⟨by show c + 90 * i + 1 + 89 ≤ C; omega, by show s + 1397 * i + 15 + 1382 ≤ S; omega⟩ (I_X6 (kcq rfl) (kce rfl)) ?_
    have e1 : kc (yW (yK (yP Y B i) (B + 188 + 90 * i) 16 0) (B + 188 + 90 * i)) (B + 187) = 7 := by simp (disch := omega) only [kcW, kck, g2]
    have e2 : kn (yW (yK (yP Y B i) (B + 188 + 90 * i) 16 0) (B + 188 + 90 * i)) (B + 187) = 8 := by simp (disch := omega) only [knW, knk, g3]
    refine x_aast (j := 3) (j9 := i) (ci := 6) dX7_init_99 (by decide) e1 (zi_kn e2 hi6 (by decide)) z1 (BW.w (kcq rfl)).1 vc_X6 rfl ?_
    refine x_iinc (L' := [(0, .ref B), (1, .int (Int32.ofNat i + 1))]) 1 [1, 0] dX7_init_100 rfl rfl (by decide) rfl ?_
    refine x_goto (tgt := 78) dX7_init_103 (by decide) ?_
    rw [z3]
    have hh := ih (i + 1) (by omega)
    rw [show c + 90 * (i + 1) = c + 90 * i + 1 + 89 by omega, show s + 1397 * (i + 1) = s + 1397 * i + 15 + 1382 by omega] at hh
    exact hh
def yL0 (Y : XY) (B : Nat) : XY := sr (yK (sr (yW (yK (sr (yW (yK (sr (yI_X4 (yK (sr (yI_X5 (yK (sr (yK Y (B + 1) 2 700) B 0 (some (B + 1))) (B + 2) 15 0) (B + 2)) B 3 (some (B + 2))) (B + 6) 14 0) (B + 6)) B 4 (some (B + 6))) (B + 7) 16 0) (B + 7)) B 5 (some (B + 7))) (B + 97) 16 0) (B + 97)) B 6 (some (B + 97))) (B + 187) 7 8) B 7 (some (B + 187))
def mL0 (N : XN) (B : Nat) : XN := n0 (mW (n0 (mW (n0 (mI_X4 (n0 (mI_X5 (n0 (si (si (n0 N (B + 1)) B 1 0) B 2 (-1)) (B + 2)) (B + 2)) (B + 6)) (B + 6)) (B + 7)) (B + 7)) (B + 97)) (B + 97)) (B + 187)
def yL (Y : XY) (B : Nat) : XY := yP (yL0 Y B) B 8
def mL (N : XN) (B : Nat) : XN := si (si (mP (mL0 N B) B 8) B 8 0) B 9 0
theorem BV.l0 {Y : XY} {B : Nat} (k0 : kc Y B = 17) : BV (yL0 Y B) B (B + 188) := by
  unfold yL0
  refine ⟨?_, ⟨?_, ?_, ?_⟩, ?_⟩ <;> simp (disch := omega) only [yI_X4, yI_X5, kcs, kck, kcW, kns, knk, kcq, knq, kce, grk, grq, grs, k0]
set_option maxHeartbeats 4000000 in
set_option maxRecDepth 100000 in
theorem I_X7 {G : XG} {Y : XY} {N : XN} {B : Nat} (k0 : kc Y B = 17) (k9 : kc Y (B + 1) = 9) : Cm G yX7_init cX7_init 2 (xR 3 907 16792) [.ref B] Y N (yL Y B) (mL N B) := by
  refine x_entryM (by decide) (Nat.le_of_ble_eq_true rfl) rfl fun tb => ?_
  refine x_aload_n 0 dX7_init_0 rfl rfl ?_
  refine x_super dX7_init_1 oi_X7_1 oi_i oi_c (by decide) (Nat.le_of_ble_eq_true rfl) (Nat.le_of_ble_eq_true rfl) ?_
  refine x_aload_n 0 dX7_init_4 rfl rfl ?_
  refine x_sipush (v := 700) dX7_init_5 rfl ?_
  refine x_newP (q := B + 1) (M := 700) (kd := 2) dX7_init_8 rfl ac9_byte (by decide) rfl (by decide) (Or.inr (Or.inl ⟨rfl, rfl, rfl⟩)) k9 ⟨Nat.le_of_ble_eq_true rfl, Nat.le_of_ble_eq_true rfl⟩ ?_
  refine x_putF dX7_init_10 vc_X7 xin7 tyX7_ok nmX7 fb_X7_0 fl_X7_9 ff_X7_0 rfl rfl xr_X7_0 rfl rfl (by simp (disch := omega) only [yI_X4, yI_X5, kcs, kck, kcW, k0]) ?_
  refine x_aload_n 0 dX7_init_13 rfl rfl ?_
  refine x_iconst (v := 0) dX7_init_14 rfl ?_
  refine x_puti dX7_init_15 vc_X7 xin7 tyX7_ok nmX7 fb_X7_1 fl_X7_13 ff_X7_1 xr_X7_1 (nf_X7_1 _) (ft_X7_1 _) (by simp (disch := omega) only [yI_X4, yI_X5, kcs, kck, kcW, k0]) ?_
  refine x_aload_n 0 dX7_init_18 rfl rfl ?_
  refine x_iconst (v := -1) dX7_init_19 rfl ?_
  refine x_puti dX7_init_20 vc_X7 xin7 tyX7_ok nmX7 fb_X7_2 fl_X7_17 ff_X7_2 xr_X7_2 (nf_X7_2 _) (ft_X7_2 _) (by simp (disch := omega) only [yI_X4, yI_X5, kcs, kck, kcW, k0]) ?_
  refine x_aload_n 0 dX7_init_23 rfl rfl ?_
  refine x_newO (q := B + 2) dX7_init_24 vc_X5 xin5 tyX5_ok kl9_X7_20 it9_X5 wn_X5 (fun j hj => match j, hj with | 0, _ => rfl | 1, _ => rfl | 2, _ => rfl | 3, _ => rfl | q + 4, h => absurd h (by omega)) (by simp (disch := omega) only [yI_X4, yI_X5, kcs, kce, kcWe]) ⟨Nat.le_of_ble_eq_true rfl, Nat.le_of_ble_eq_true rfl⟩ ?_
  refine x_dup dX7_init_27 rfl ?_
  refine x_initN (R' := xR 1 3 2103) (As := []) (b := B + 2) dX7_init_28 (by decide +kernel) wi_X5_init wn_X5 wc_X5_init rfl hp_X5_init ⟨Nat.le_of_ble_eq_true rfl, Nat.le_of_ble_eq_true rfl⟩ rfl (Nat.le_of_ble_eq_true rfl) ⟨Nat.le_of_ble_eq_true rfl, Nat.le_of_ble_eq_true rfl⟩ (I_X5 (kcq rfl) (kce rfl)) ?_
  refine x_putF dX7_init_31 vc_X7 xin7 tyX7_ok nmX7 fb_X7_3 fl_X7_23 ff_X7_3 rfl rfl xr_X7_3 rfl rfl (by simp (disch := omega) only [yI_X4, yI_X5, kcs, kck, kcW, k0]) ?_
  refine x_aload_n 0 dX7_init_34 rfl rfl ?_
  refine x_newO (q := B + 6) dX7_init_35 vc_X4 xin4 tyX4_ok kl9_X7_27 it9_X4 wn_X4 (fun j hj => match j, hj with | 0, _ => rfl | 1, _ => rfl | 2, _ => rfl | 3, _ => rfl | 4, _ => rfl | 5, _ => rfl | 6, _ => rfl | q + 7, h => absurd h (by omega)) (by simp (disch := omega) only [yI_X4, yI_X5, kcs, kce, kcWe]) ⟨Nat.le_of_ble_eq_true rfl, Nat.le_of_ble_eq_true rfl⟩ ?_
  refine x_dup dX7_init_38 rfl ?_
  refine x_initN (R' := xR 1 0 0) (As := []) (b := B + 6) dX7_init_39 (by decide +kernel) wi_X4_init wn_X4 wc_X4_init rfl hp_X4_init ⟨Nat.le_of_ble_eq_true rfl, Nat.le_of_ble_eq_true rfl⟩ rfl (Nat.le_of_ble_eq_true rfl) ⟨Nat.le_of_ble_eq_true rfl, Nat.le_of_ble_eq_true rfl⟩ (I_X4 (kcq rfl)) ?_
  refine x_putF dX7_init_42 vc_X7 xin7 tyX7_ok nmX7 fb_X7_4 fl_X7_30 ff_X7_4 rfl rfl xr_X7_4 rfl rfl (by simp (disch := omega) only [yI_X4, yI_X5, kcs, kck, kcW, k0]) ?_
  refine x_aload_n 0 dX7_init_45 rfl rfl ?_
  refine x_newO (q := B + 7) dX7_init_46 vc_X6 xin6 tyX6_ok kl9_X7_34 it9_X6 wn_X6 (fun j hj => match j, hj with | 0, _ => rfl | 1, _ => rfl | 2, _ => rfl | 3, _ => rfl | 4, _ => rfl | 5, _ => rfl | 6, _ => rfl | 7, _ => rfl | 8, _ => rfl | 9, _ => rfl | 10, _ => rfl | 11, _ => rfl | 12, _ => rfl | 13, _ => rfl | 14, _ => rfl | q + 15, h => absurd h (by omega)) (by simp (disch := omega) only [yI_X4, yI_X5, kcs, kce, kcWe]) ⟨Nat.le_of_ble_eq_true rfl, Nat.le_of_ble_eq_true rfl⟩ ?_
  refine x_dup dX7_init_49 rfl ?_
  refine x_init (R' := xR 2 89 1382) (As := []) (b := B + 7) dX7_init_50 ml_X7_36 wi_X6_init wn_X6 wc_X6_init rfl hp_X6_init ⟨Nat.le_of_ble_eq_true rfl, Nat.le_of_ble_eq_true rfl⟩ rfl (Nat.le_of_ble_eq_true rfl) ⟨Nat.le_of_ble_eq_true rfl, Nat.le_of_ble_eq_true rfl⟩ (I_X6 (kcq rfl) (kce rfl)) ?_
  refine x_putF dX7_init_53 vc_X7 xin7 tyX7_ok nmX7 fb_X7_5 fl_X7_37 ff_X7_5 rfl rfl xr_X7_5 rfl rfl (by simp (disch := omega) only [yI_X4, yI_X5, kcs, kck, kcW, k0]) ?_
  refine x_aload_n 0 dX7_init_56 rfl rfl ?_
  refine x_newO (q := B + 97) dX7_init_57 vc_X6 xin6 tyX6_ok kl9_X7_34 it9_X6 wn_X6 (fun j hj => match j, hj with | 0, _ => rfl | 1, _ => rfl | 2, _ => rfl | 3, _ => rfl | 4, _ => rfl | 5, _ => rfl | 6, _ => rfl | 7, _ => rfl | 8, _ => rfl | 9, _ => rfl | 10, _ => rfl | 11, _ => rfl | 12, _ => rfl | 13, _ => rfl | 14, _ => rfl | q + 15, h => absurd h (by omega)) (by simp (disch := omega) only [yI_X4, yI_X5, kcs, kce, kcWe]) ⟨Nat.le_of_ble_eq_true rfl, Nat.le_of_ble_eq_true rfl⟩ ?_
  refine x_dup dX7_init_60 rfl ?_
  refine x_init (R' := xR 2 89 1382) (As := []) (b := B + 97) dX7_init_61 ml_X7_36 wi_X6_init wn_X6 wc_X6_init rfl hp_X6_init ⟨Nat.le_of_ble_eq_true rfl, Nat.le_of_ble_eq_true rfl⟩ rfl (Nat.le_of_ble_eq_true rfl) ⟨Nat.le_of_ble_eq_true rfl, Nat.le_of_ble_eq_true rfl⟩ (I_X6 (kcq rfl) (kce rfl)) ?_
  refine x_putF dX7_init_64 vc_X7 xin7 tyX7_ok nmX7 fb_X7_6 fl_X7_41 ff_X7_6 rfl rfl xr_X7_6 rfl rfl (by simp (disch := omega) only [yI_X4, yI_X5, kcs, kck, kcW, k0]) ?_
  refine x_aload_n 0 dX7_init_67 rfl rfl ?_
  refine x_bipush (v := 8) dX7_init_68 rfl ?_
  refine x_newR (q := B + 187) (M := 8) (j := 3) dX7_init_70 kl9_X7_34 ao9_X6 (by decide) rfl (by decide) (by decide) rfl (by simp (disch := omega) only [yI_X4, yI_X5, kcs, kce, kcWe]) ⟨Nat.le_of_ble_eq_true rfl, Nat.le_of_ble_eq_true rfl⟩ ?_
  refine x_putF dX7_init_73 vc_X7 xin7 tyX7_ok nmX7 fb_X7_7 fl_X7_44 ff_X7_7 rfl rfl xr_X7_7 rfl rfl (by simp (disch := omega) only [yI_X4, yI_X5, kcs, kck, kcW, k0]) ?_
  refine x_iconst (v := 0) dX7_init_76 rfl ?_
  refine x_istore_n (L' := [(0, .ref B), (1, .int 0)]) [1, 0] dX7_init_77 rfl (by decide) rfl ?_
  have b0 : BV (yL0 Y B) B (B + 188) := BV.l0 k0
  have b8 : BV (yL Y B) B (B + 908) := BV.p b0 8
  refine I_P (Y := yL0 Y B) (N := mL0 N B) (c := 187) (s := 5616) (C := 907) (S := 16792) b0 (by decide) (by decide) ?_ 8 0 rfl
  refine x_aload_n 0 dX7_init_106 rfl rfl ?_
  refine x_iconst (v := 0) dX7_init_107 rfl ?_
  refine x_puti dX7_init_108 vc_X7 xin7 tyX7_ok nmX7 fb_X7_8 fl_X7_48 ff_X7_8 xr_X7_8 (nf_X7_8 _) (ft_X7_8 _) b8.1 ?_
  refine x_aload_n 0 dX7_init_111 rfl rfl ?_
  refine x_iconst (v := 0) dX7_init_112 rfl ?_
  refine x_puti dX7_init_113 vc_X7 xin7 tyX7_ok nmX7 fb_X7_9 fl_X7_51 ff_X7_9 xr_X7_9 (nf_X7_9 _) (ft_X7_9 _) b8.1 ?_
  exact x_mret dX7_init_116 rfl rfl rfl
