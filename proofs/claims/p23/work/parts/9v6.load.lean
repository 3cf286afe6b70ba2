/-! LOAD, loadText (first rows: of whole) -/
section RF9
variable {Y : XY} {B w rd tk wd : Nat}
theorem gp_yrd {b : Nat} (h : b ≠ rd) (j : Nat) : gp (yrd Y rd tk wd) b j = gp Y b j := by
  unfold yrd
  rw [gp_sr_ne h, gp_sr_ne h]
theorem kn_yrd (b : Nat) : kn (yrd Y rd tk wd) b = kn Y b := rfl
theorem gp_yrd2 : gp (yrd Y rd tk wd) rd 2 = tk ∧ gp (yrd Y rd tk wd) rd 3 = wd := by
  constructor
  · show (if rd = rd ∧ 2 = 3 then some wd else if rd = rd ∧ 2 = 2 then some tk else Y.1 rd 2).getD 0 = tk
    rw [if_neg (by omega), if_pos ⟨rfl, rfl⟩]
    rfl
  · show (if rd = rd ∧ 3 = 3 then some wd else if rd = rd ∧ 3 = 2 then some tk else Y.1 rd 3).getD 0 = wd
    rw [if_pos ⟨rfl, rfl⟩]
    rfl
theorem WY_yrd (hW : WY Y w) (h : rd < w) : WY (yrd Y rd tk wd) w := by
  obtain ⟨⟨a1, a2, a3, a4, a5⟩, ⟨b1, b2⟩, c1, c2, c3, c4⟩ := hW
  refine ⟨⟨?_, ?_, ?_, ?_, ?_⟩, ⟨?_, ?_⟩, fun i hi => ?_, fun i hi => ?_, fun i hi => ?_, fun i hi => ?_⟩
  · rw [gp_yrd (by omega)]; exact a1
  · rw [gp_yrd (by omega)]; exact a2
  · rw [gp_yrd (by omega)]; exact a3
  · rw [gp_yrd (by omega)]; exact a4
  · rw [gp_yrd (by omega)]; exact a5
  · rw [gp_yrd (by omega)]; exact b1
  · rw [gp_yrd (by omega)]; exact b2
  · rw [gp_yrd (by omega)]; exact c1 i hi
  · rw [gp_yrd (by omega)]; exact c2 i hi
  · rw [gp_yrd (by omega)]; exact c3 i hi
  · rw [gp_yrd (by omega)]; exact c4 i hi
theorem RD_yrd (hY : YO Y B) : RD (yrd Y (B + 6) (B + 2) (B + 97)) B := by
  obtain ⟨-, -, ⟨t0, t1, t2⟩, hW, hW2, -⟩ := hY
  refine ⟨gp_yrd2.1, gp_yrd2.2, ?_, ?_, ?_, WY_yrd hW2 (by omega)⟩
  · rw [gp_yrd (by omega)]; exact t0
  · rw [gp_yrd (by omega)]; exact t1
  · rw [gp_yrd (by omega)]; exact t2
theorem YO_yrd (hY : YO Y B) : YO (yrd Y (B + 6) (B + 2) (B + 97)) B := by
  obtain ⟨⟨a0, a1, a2, a3, a4, a5⟩, b, ⟨t0, t1, t2⟩, e, f, g, i, j⟩ := hY
  have go : ∀ c k, c ≠ B + 6 → gp (yrd Y (B + 6) (B + 2) (B + 97)) c k = gp Y c k := fun c k h => gp_yrd h k
  refine ⟨⟨(go _ _ (by omega)).trans a0, (go _ _ (by omega)).trans a1, (go _ _ (by omega)).trans a2, (go _ _ (by omega)).trans a3, (go _ _ (by omega)).trans a4, (go _ _ (by omega)).trans a5⟩, fun x hx => (go _ _ (by omega)).trans (b x hx), ⟨(go _ _ (by omega)).trans t0, (go _ _ (by omega)).trans t1, (go _ _ (by omega)).trans t2⟩, WY_yrd e (by omega), WY_yrd f (by omega), fun x hx => WY_yrd (g x hx) (by omega), i, j⟩
end RF9
section LD9
variable {Y : XY} {N N' Ns : XN} {B k p n q bf : Nat} {P P2 : Nat → Int32} {d e : XD} {ops ops2 : List Int32} {c : Nat → Nat → Int32} {g : XD} {hd : Nat → XD} {bs : List Nat} {ts : List (Nat × Nat)}
theorem C_loadB_good (hY : YO Y B) (hD : DJ ops d) (hC : CR P ops d (wc (si (KS Ns B c g) B 2 (-nI 1)) (B + 7))) (hk : k ≤ 8) (hp : p < 8) (e8 : gi Ns B 8 = nI k) (e9 : gi Ns B 9 = nI p) (hQ : QD P2 ops2 e c) : ∃ Nk c2 Q Q2, f_X7_loadB Y B (nI 1) (KS Ns B c g) = some (.inl (e 3), sw Nk (B + 7) c2) ∧ kept1 B p k (si (KS Ns B c g) B 2 (-nI 1)) Nk ∧ CR Q ops d (wc Nk (B + (188 + 90 * p))) ∧ CR Q2 ops2 e c2 := by
  have hY' := hY
  obtain ⟨⟨g0, g3, g4, h5, h6, g7⟩, gr, -, hW, hW2, hWr, hM, -⟩ := hY'
  have e8' : gi (si (KS Ns B c g) B 2 (-nI 1)) B 8 = nI k := by rw [gi_si_n (Or.inr (by omega)), gi_KSt (by omega)]; exact e8
  have e9' : gi (si (KS Ns B c g) B 2 (-nI 1)) B 9 = nI p := by rw [gi_si_n (Or.inr (by omega)), gi_KSt (by omega)]; exact e9
  obtain ⟨Nk, Q, b1, b2, b3⟩ := K_keep hY hD hC hk hp e8' e9'
  have hCt : CR P2 ops2 e (wc Nk (B + 97)) := hQ.2.1.cells hQ.1.H6 hQ.1.L8 hQ.1.R60 (fun o j ho => by
    unfold wc
    rw [b2.2.1 _ (by omega) (by omega), si_row (by omega)]
    show gi (KS Ns B c g) (B + 97 + o) j = _
    exact gi_KSw j ho)
  obtain ⟨Q2, c2, a1, a2⟩ := C_copyOf (N := Nk) hW hW2 (Or.inr (by omega)) hQ.1 hCt (wc Nk (B + 7))
  rw [sw_wc] at a1
  have r5 : gi (sw Nk (B + 7) c2) (B + 7) 5 = e 3 := by rw [gi_sw0]; exact a2.1.w5
  refine ⟨Nk, c2, Q, Q2, ?_, b2, b3, a2⟩
  unfold f_X7_loadB
  simp only [nI_lit, nz10, ↓reduceIte, lt_eq, b1, bd_some, h5, h6, a1, r5]
theorem sd_ne {N : XN} {a b : Nat} {f : XD} (h : b ≠ a) : (sd N a f).1 b = N.1 b := if_neg h
theorem KS_row {a : Nat} (h1 : a ≠ B + 6) (h2 : a < B + 97 ∨ B + 187 ≤ a) : (KS N B c g).1 a = N.1 a := by
  unfold KS
  rw [sd_ne h1]
  exact funext (fun j => gi_sw_ne j (by omega))
theorem IK.same2 (h : IK B N ops d k p hd) (e : ∀ a, (B + 7 ≤ a ∧ a < B + 97) ∨ (B + 188 ≤ a ∧ a < B + 908) → N'.1 a = N.1 a) (e8 : gi N' B 8 = gi N B 8) (e9 : gi N' B 9 = gi N B 9) : IK B N' ops d k p hd := by
  obtain ⟨h1, h2, ⟨P, h3⟩, h4⟩ := h
  refine ⟨h1, h2, ⟨P, h3.cells h1.H6 h1.L8 h1.R60 (fun o j ho => ?_)⟩, h4.same e8 e9 (fun _ _ => rfl) (fun o j ho => ?_)⟩
  · unfold wc; rw [e _ (by omega)]
  · unfold wc; rw [e _ (by omega)]
/-- a text's tokens, whole -/
def TXE (ts : List (Nat × Nat)) (e : XD) (ops : List Int32) : Prop := ∃ b tb, BLD tb e b ∧ ((ts = tb ∧ ops = []) ∨ ∃ D0 tk, D0 ≤ 3 ∧ tk 0 = tk 1 ∧ RDT D0 tk ops ∧ ts = tb ++ (19, 0) :: (tk 0 ++ [(3, 0)]))
theorem L_load (hY : YO Y B) (h : IK B N ops d k p hd) (h1 : gi N B 1 = nI n) (hn : bs.length ≤ n ∧ n ≤ 700) (hb : ∀ j, j < bs.length → gi N (B + 1) j = nI (gd bs j)) (h128 : ∀ j, gd bs j < 128) (hx : LXR bs ((10, 0) :: (3, 0) :: ts)) (ht : TXE ts e ops2) : ∃ e' N', f_L_load Y B (nI bs.length) N = some (nI (nR e), N') ∧ EQC e e' ∧ IK B N' ops2 e' (min (k + 1) 8) ((p + 1) % 8) (nhd k hd d) ∧ FB B N N' ∧ gi N' B 1 = nI 0 := by
  obtain ⟨N1, T, e1, hT, hf⟩ := load_head hY h1 hn.2 hn.1 (t := gd bs) (fun i hi => ⟨by have := h128 i; omega, by rw [hb i hi]; unfold sb; rw [if_pos (h128 i)]⟩)
  have hR := RD_yrd hY
  have sq : TSQ (gd bs) bs.length (tS (gd bs) bs.length 0) ((10, 0) :: (3, 0) :: ts) := hx.tsq (t := gd bs) (L := bs.length) (s := 0) (fun j _ => by rw [Nat.zero_add]) (by omega)
  obtain ⟨G, f1, f2, f3, f4, f5, f6⟩ := V_reads (N := N1) (c := wc N1 (B + 97)) (g := N1.1 (B + 6)) hR hT sq
  rw [KS_self] at f1
  obtain ⟨b, tb, g1, g2⟩ := ht
  have rdx := g1.read (N := N1) hR hT f2 f3 f4 f6
  have key : ∃ c g e', f_X4_reads (yrd Y (B + 6) (B + 2) (B + 97)) (B + 6) N1 = some (nI 1, KS N1 B c g) ∧ QD (fun k => wc N1 (B + 97) 7 k) ops2 e' c ∧ EQC e e' := by
    rcases g2 with ⟨rfl, rfl⟩ | ⟨D0, tk, u1, u2, u3, rfl⟩
    · obtain ⟨c, g, v1, v2⟩ := V_end0 hR hT rdx f5
      exact ⟨c, g, e, f1.trans v1, v2, fun _ _ _ _ => rfl⟩
    · obtain ⟨c, g, e', v1, v2, v3⟩ := V_end1 hR hT rdx u1 u2 u3 f5
      exact ⟨c, g, e', f1.trans v1, v2, v3⟩
  obtain ⟨c, g, e', r1, hQ, hE⟩ := key
  have tf := hf.2.1
  have gB : ∀ j, j ≠ 1 → gi N1 B j = gi N B j := fun j hj => by
    unfold gi
    rw [tf B (Or.inl (by omega))]
    exact gi_si_n (Or.inr hj)
  have rows : ∀ a, a < B ∨ (B + 7 ≤ a ∧ a < B + 97) ∨ B + 187 ≤ a → (si (KS N1 B c g) B 2 (-nI 1)).1 a = N.1 a := fun a ha => by
    rw [si_row (by omega), KS_row (by omega) (by omega), tf a (by omega), si_row (by omega)]
  have mB : ∀ j, j ≠ 1 → j ≠ 2 → gi (si (KS N1 B c g) B 2 (-nI 1)) B j = gi N B j := fun j hj hj2 => by
    rw [gi_si_n (Or.inr hj2), gi_KSt (by omega), gB j hj]
  have hM : IK B (si (KS N1 B c g) B 2 (-nI 1)) ops d k p hd := h.same2 (fun a ha => rows a (by omega)) (mB 8 (by omega) (by omega)) (mB 9 (by omega) (by omega))
  have hr := h.2.2.2
  obtain ⟨PM, hCM⟩ := hM.2.2.1
  obtain ⟨Nk, c2, Q, Q2, k1, k2, k3, k4⟩ := C_loadB_good (Y := yrd Y (B + 6) (B + 2) (B + 97)) (YO_yrd hY) h.1 hCM hr.1 hr.2.1 ((gB 8 (by omega)).trans hr.2.2.1) ((gB 9 (by omega)).trans hr.2.2.2.1) hQ
  obtain ⟨c3, c4, c5⟩ := hM.change k2 k3 k4
  have t0 : tM e' = 0 := by
    unfold tM
    rw [hQ.2.2.1]
    exact nI_clamp (by omega)
  have eR : nR e' = nR e := nR_same (hE 3 (by omega) (by omega) (by omega))
  have m1 : gi (si (KS N1 B c g) B 2 (-nI 1)) B 1 = nI 0 := by
    rw [gi_si_n (Or.inr (by omega)), gi_KSt (by omega)]
    unfold gi
    rw [tf B (Or.inl (by omega))]
    exact gi_si _ _ _ _
  refine ⟨e', sw Nk (B + 7) c2, ?_, hE, c3 hQ.1 (by omega), fun a ha => (c4 a ha).trans (rows a (by omega)), c5.trans m1⟩
  unfold f_L_load
  rw [e1, r1, bd2_some, k1, hQ.1.R, eR]
theorem L_loadText (hY : YO Y B) (hw : WT Y) (kB : kc Y B = 17) (kb : kc Y bf = 1 ∧ kn Y bf = 8) (hbf : B + 908 ≤ bf) (h : IK B N ops d k p hd) (ht : TXT N B bf bs) (hx : LXR bs ((10, 0) :: (3, 0) :: ts)) (he : TXE ts e ops2) : ∃ e' N', f_L_loadText Y q B bf N = some (nI (nR e), yrd Y (B + 6) (B + 2) (B + 97), q, N') ∧ EQC e e' ∧ IK B N' ops2 e' (min (k + 1) 8) ((p + 1) % 8) (nhd k hd d) ∧ (∀ a, a < B ∨ B + 908 ≤ a → a ≠ bf → N'.1 a = N.1 a) ∧ gi N' B 1 = nI 0 := by
  obtain ⟨t1, t2, t3, t4, t5, t6⟩ := ht
  have g3 := hY.1.2.1
  have g4 := hY.1.2.2.1
  have g6 := hY.1.2.2.2.2.1
  have er : nI bs.length - nI bs.length / nI 20 * nI 20 = nI (bs.length % 20) := pk_rem (by omega) (by omega) (by omega)
  by_cases z : bs.length % 20 = 0
  · have el : lo20 bs.length = bs.length := by unfold lo20; omega
    rw [el] at t4 t5
    have r5 : ∀ a, a ≠ bf → (si N bf 0 (nI 0)).1 a = N.1 a := fun a ha => si_row ha
    obtain ⟨e', N', a1, a2, a3, a4, a5⟩ := L_load (N := si N bf 0 (nI 0)) hY (h.same (fun a q1 q2 => r5 a (by omega))) (n := bs.length) (by rw [gi_si_n (Or.inl (by omega))]; exact t4) ⟨Nat.le_refl _, by omega⟩ (fun j hj => by rw [gi_si_n (Or.inl (by omega))]; exact t5 j hj) t2 hx he
    refine ⟨e', N', ?_, a2, a3, fun a ha hn => (a4 a ha).trans (r5 a hn), a5⟩
    unfold f_L_loadText
    simp (disch := omega) only [↓ck, ↓ckW_t hw, ↓lt_eq, nI_lit, xb_nI, ↓reduceIte, pLEt, pLEf, pLTt, pLTf, pEQf, pML, pMG, pMf, pMg, ↓bd_ite, ↓bd2_ite, ↓bd3_ite, ↓bd4_ite, Option.isSome_some, Option.getD_some, kb.1, kb.2, t3, er, z, kB, a1, g3, g4, g6]
  · have lo : lo20 bs.length + 20 ≤ 700 ∧ bs.length ≤ lo20 bs.length + 20 := by unfold lo20; omega
    obtain ⟨N1, f1, f2, f3, f4, f5, f6⟩ := T_flush (Y := Y) hY.1.1 kb kB (by omega) lo.1 t2 t4 t5 t6
    have r5 : ∀ a, a ≠ bf → (si N1 bf 0 (nI 0)).1 a = N1.1 a := fun a ha => si_row ha
    have hI : IK B N1 ops d k p hd := h.same2 (fun a ha => f6.1 a (by omega) (by omega) (by omega)) (f6.2 8 (by omega)) (f6.2 9 (by omega))
    obtain ⟨e', N', a1, a2, a3, a4, a5⟩ := L_load (N := si N1 bf 0 (nI 0)) hY (hI.same (fun a q1 q2 => r5 a (by omega))) (n := lo20 bs.length + 20) (by rw [gi_si_n (Or.inl (by omega))]; exact f2) ⟨lo.2, lo.1⟩ (fun j hj => by rw [gi_si_n (Or.inl (by omega))]; exact f3 j (by omega)) t2 hx he
    refine ⟨e', N', ?_, a2, a3, fun a ha hn => ((a4 a ha).trans (r5 a hn)).trans (f6.1 a hn (by omega) (by omega)), a5⟩
    have gb : gi (si N1 bf 0 (nI 0)) bf 0 = nI 0 := gi_si _ _ _ _
    have z2 : (nI (bs.length % 20) ≤ nI 0) = False := pLEf (by omega) (by omega)
    unfold f_L_loadText
    simp (disch := omega) only [↓ck, ↓ckW_t hw, ↓lt_eq, nI_lit, xb_nI, ↓reduceIte, pLEt, pLEf, pLTt, pLTf, pEQf, pML, pMG, pMf, pMg, ↓bd_ite, ↓bd2_ite, ↓bd3_ite, ↓bd4_ite, Option.isSome_some, Option.getD_some, kb.1, kb.2, t3, er, z2, f1, f5, kB, a1, g3, g4, g6]
end LD9
