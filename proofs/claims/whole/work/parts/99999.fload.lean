/-! A WHOLE LOAD, BOTH SIDES -/
section FL
variable {Y : XY} {N M Ns : XN} {B T L n k p m : Nat} {d e h : XD} {ops : List Int32} {c : Nat → Nat → Int32} {g : XD}
theorem KS_row {a : Nat} (h1 : a ≠ B + 6) (h2 : a < B + 97 ∨ B + 187 ≤ a) : (KS N B c g).1 a = N.1 a := by
  unfold KS
  rw [sd_ne h1]
  exact funext (fun j => gi_sw_ne j (by omega))
theorem KS_self : KS N B (wc N (B + 97)) (N.1 (B + 6)) = N := by
  unfold KS
  rw [sw_wc, sd_self]
theorem MM_cong {N' : XN} {a : Nat} (h1 : N.1 a = N'.1 a) : (MM N m h e).1 a = (MM N' m h e).1 a := by
  unfold MM
  show (if a = m then h else if a = m + 3 then e else N.1 a) = (if a = m then h else if a = m + 3 then e else N'.1 a)
  rw [h1]
theorem MM_sw {w : Nat} (hw : w + 90 ≤ m) : (MM (sw N w c) m h e).1 = (sw (MM N m h e) w c).1 := by
  funext a j
  show (if a = m then h else if a = m + 3 then e else fun j => if w ≤ a ∧ a < w + 90 then c (a - w) j else N.1 a j) j = (if w ≤ a ∧ a < w + 90 then c (a - w) j else (if a = m then h else if a = m + 3 then e else N.1 a) j)
  by_cases q1 : a = m
  · rw [if_pos q1, if_neg (c := w ≤ a ∧ a < w + 90) (by omega), if_pos q1]
  · rw [if_neg q1, if_neg q1]
    by_cases q2 : a = m + 3
    · rw [if_pos q2, if_neg (c := w ≤ a ∧ a < w + 90) (by omega), if_pos q2]
    · rw [if_neg q2, if_neg q2]
theorem IV_text (hdd : IVd B N ops d) (hh : IVh B N k p) (h1 : ∀ a, (B + 7 ≤ a ∧ a < B + 97) ∨ (B + 188 ≤ a ∧ a < B + 908) ∨ a = B + 910 ∨ (B + 915 ≤ a ∧ a < B + 923) → M.1 a = N.1 a) (h8 : gi M B 8 = gi N B 8) (h9 : gi M B 9 = gi N B 9) (h13 : gi M (B + 908) 13 = gi N (B + 908) 13) (t1 : gi M B 1 = nI 0) (t2 : gi M (B + 908) 2 = nI 0) (t3 : gi M B 2 = gi M (B + 908) 7) : IVd B M ops d ∧ IVh B M k p ∧ IVt B M 0 :=
  ⟨hdd.same (fun k => by rw [h1 _ (by omega)]) (fun o j ho => by unfold wc; rw [h1 _ (by omega)]), hh.same h13 h8 h9 (fun i j hi => by rw [h1 _ (by omega)]) (fun o j ho => by unfold wc; rw [h1 _ (by omega)]), Nat.zero_le _, t1, t2, fun i hi => absurd hi (Nat.not_lt_zero i), t3⟩
theorem mm_MM {e9 : XD} (h0 : h 0 = nI 0) : mm (MM N (B + 908) h e9) B (nI 0) = MM N (B + 908) h e9 := by
  unfold mm
  rw [si_MM]
  have := upd_self h 0
  rw [h0] at this
  rw [this]
/-- the references behind a load that ends so -/
def YL (Y : XY) (B : Nat) (o : Int32 ⊕ String) : XY := match o with
  | .inl _ => yrd Y (B + 6) (B + 2) (B + 97)
  | .inr _ => Y
/-- what is owed of a load -/
def FCL (Y : XY) (B : Nat) (x : Int32) (N : XN) : Prop :=
  ∃ o N1, f_X7_load Y B x N = some (o, N1) ∧ ∀ N', N'.1 = N1.1 → ∃ v N2, f_X8_load (YL Y B o) (B + 908) x N' = some (v, N2) ∧ IV B N2 ∧ (∀ a, a ≠ B + 923 → N2.2 a = N'.2 a) ∧ AG [IAE] o v (gi N2 (B + 908) 0)
theorem F_load_out (hI : IV B N) {x : Int32} (ht : IVt B N n) (h : outR x (n + 1)) : FCL Y B x N := by
  obtain ⟨h700, hb1, hb2, hby, herr⟩ := ht
  refine ⟨.inr IAE, N, ?_, fun N' hN' => ⟨nI 0, mm N' B (nI 1), ?_, (after_read hN' hI _).1, (after_read hN' hI _).2, 0, by decide, rfl, gi_mm _ _ _⟩⟩
  · unfold f_X7_load
    rcases h with h | h
    · simp only [nI_lit, eq_true h, if_true]
      rfl
    · have q1 : (x < nI 0) = False := eq_false (fun z => by rw [Int32.lt_iff_toInt_lt, nI_toInt (by omega)] at z; rw [Int32.le_iff_toInt_le, nI_toInt (by omega)] at h; omega)
      have q2 : (x ≤ nI n) = False := eq_false (fun z => by rw [Int32.le_iff_toInt_le, nI_toInt (by omega)] at z; rw [Int32.le_iff_toInt_le, nI_toInt (by omega)] at h; omega)
      simp only [nI_lit, q1, hb1, q2, if_false]
      rfl
  · show f_X8_load Y (B + 908) x N' = _
    have e0 : si N' (B + 908) 0 (nI 0) = mm N' B (nI 0) := rfl
    have e2 : gi (mm N' B (nI 0)) (B + 908) 2 = nI n := by
      rw [show gi (mm N' B (nI 0)) (B + 908) 2 = gi N' (B + 908) 2 from gi_si_n (Or.inr (by omega))]
      unfold gi
      rw [hN']
      exact hb2
    have ef := fails_t (Y := Y) (N := N') (B := B) (c := 1) (by omega) (by omega)
    have ei : ∀ N9 : XN, f_X8_in Y x (nI 0) (nI n) N9 = nI 0 := fun N9 => in_outS (Y := Y) (N := N9) (by omega) h
    unfold f_X8_load
    simp only [nI_lit]
    rw [lt_eq, e0]
    simp only [e2, ei, ↓reduceIte]
    rw [ef, bd2_some]
    simp only [nz10, ↓reduceIte]
end FL
