/-! A RANDOM DESK'S HANDLERS ARE NOT BANKRUPT -/
theorem eTn_48 {l : Nat} : ∀ (xs : List Nat) (e : XD) (j : Nat), j < 48 → eTn e l xs j = e j := by
  intro xs
  induction xs with
  | nil => intro e j _; rfl
  | cons x r ih =>
    intro e j hj
    show eTn (sAddT e x l) l r j = e j
    rw [ih _ _ hj]
    exact (sAddT_at (d := e) x l).2.2 j (by omega) (by omega)
theorem BLD.no14 {ts : List (Nat × Nat)} {e : XD} {b : Nat} (h : BLD ts e b) : ∀ i, i < 6 → e (14 + 6 * i) = nI 0 := by
  refine h (fun _ e _ => ∀ i, i < 6 → e (14 + 6 * i) = nI 0) (fun i hi => (eUsual_at (e := fun _ => nI 0)).1 _ (by omega) (by omega)) (fun ts e b us e' b' ih hs i hi => ?_)
  rcases hs with ⟨x, y, -, -, -, -, rfl, rfl⟩ | ⟨x, y, z, xs, -, -, -, -, -, -, -, rfl, rfl⟩ | ⟨l, x, k, -, -, -, -, -, rfl, rfl⟩ | ⟨q, v, -, -, hq, -, rfl, rfl⟩
  · rw [(eHd_at e _ _).2.2 _ (by omega) (by omega) (by omega)]
    exact ih i hi
  · rw [eTn_48 _ _ _ (by omega), (eLn_at e _ _ _).2.2.2.2 _ (by omega) (by omega) (by omega) (by omega)]
    exact ih i hi
  · rw [(sPut_at (d := e) _ _ _).2.1 _ (by omega) (by omega)]
    exact ih i hi
  · rw [upd_n (by omega)]
    exact ih i hi
theorem BLD.bk {ts : List (Nat × Nat)} {e e' : XD} {b : Nat} (h : BLD ts e b) (he : EQC e e') (h6 : nH e' ≤ 6) : BK e' :=
  ⟨fun _ _ _ _ x hx _ => (he _ (by omega) (by omega) (by omega)).trans (h.no14 x (by omega)), fun _ _ _ x hx _ => (he _ (by omega) (by omega) (by omega)).trans (h.no14 x (by omega))⟩
theorem BLD.time {ts : List (Nat × Nat)} {e : XD} {b : Nat} (h : BLD ts e b) : e 0 = nI 0 := by
  refine h (fun _ e _ => e 0 = nI 0) ((eUsual_at (e := fun _ => nI 0)).1 0 (by omega) (by omega)) (fun ts e b us e' b' ih hs => ?_)
  rcases hs with ⟨x, y, -, -, -, -, rfl, rfl⟩ | ⟨x, y, z, xs, -, -, -, -, -, -, -, rfl, rfl⟩ | ⟨l, x, k, -, -, -, -, -, rfl, rfl⟩ | ⟨q, v, -, -, hq, -, rfl, rfl⟩
  · rw [(eHd_at e _ _).2.2 0 (by omega) (by omega) (by omega)]
    exact ih
  · rw [eTn_48 _ _ _ (by omega), (eLn_at e _ _ _).2.2.2.2 0 (by omega) (by omega) (by omega) (by omega)]
    exact ih
  · rw [(sPut_at (d := e) _ _ _).2.1 0 (by omega) (by omega)]
    exact ih
  · rw [upd_n (by omega)]
    exact ih
