/-! THE LAW'S LOOP -/
/-- the law's own end -/
theorem law_ret9 {p : Program} {l : Launch} {e : Env} {s : State} {m : MethodId} {args : Array Value} {below : List Frame} {meth : Method} {c : Code} (hx : p.tables.exec = Jvm.exec) (hb : c.code = cL_law) (hr : meth.sig.returnType = ret) (hlocks : meth.locks = false) {pc : Nat} {H : Heap} {ls : Array Slot} (hdg : decode cL_law pc = .ok (.ireturn, 1)) : W p l e room_1 s m args below meth c H [] 601024 7293034 (lw_Z below args s) (F0 m pc ls [.int 1]) := by
  intro T hT X
  obtain ⟨fs, hret, hrun, hended, hW, hframe⟩ := X.leave (v := some (.int 1)) (hlocks := hlocks) (fun h => by rw [hr] at h; cases h)
  have hmeth' : T.vm.method? m = some meth := X.method'
  refine ⟨T.setFrames fs, ?_, .returned (some (.int 1)), hrun, hended, rfl, ⟨_, rfl⟩, hW, hframe⟩
  jvm_step X.here [X.here.top, hx, hb, hdg, hmeth', hr, ret, narrow_b1]
  (try refine ⟨rfl, ?_⟩); (try refine ⟨rfl, ?_⟩)
  first | (intro acts; rw [hret _ acts rfl rfl rfl]) | rw [hret _ _ rfl rfl rfl]
  exact Steps.refl _
theorem x_law {G : XG} {tb : List ExceptionTableEntry} {yy : MethodName} {Y : XY} {N : XN} {c s pc : Nat} {L : List (Nat × Value)} (hd : decode cL_law pc = .ok (.ireturn, 1)) (hc : c ≤ 601024) (hs : s ≤ 7293034) : ExZ G yy cL_law 7 ret tb room_1 (law_Z G) c s pc L [.int 1] Y N := by
  intro p l e s9 m args below meth c9 H locs ls C hH hS hL
  by_cases hB : xB G = s9.heap.size
  · have key := W.widen hc hs (va_forget (locs := locs) (fun q hq => (by rw [← hB]; exact hS.2.2 q hq : s9.heap.size ≤ q.base)) (law_ret9 (p := p) (l := l) (e := e) (s := s9) (m := m) (args := args) (below := below) (meth := meth) (c := c9) C.1 C.2.2.1 C.2.2.2.2.2.2.1 C.2.2.2.2.2.2.2.1 (H := H) (ls := ls) hd))
    intro T hT X
    obtain ⟨t, a, b⟩ := key T hT X
    exact ⟨t, a, fun _ => b⟩
  · exact fun T hT X => ⟨_, Steps.refl _, fun h => absurd h hB⟩
theorem sw20 (v : Int32) : (∃ k : Nat, k < 20 ∧ v = nI k) ∨ (v.toInt < 0 ∨ 19 < v.toInt) := by
  rcases ix_or v (n := 20) (by omega) with (h | h) | h
  · rw [Int32.lt_iff_toInt_lt, nI_toInt (by omega)] at h
    exact Or.inr (Or.inl (by omega))
  · rw [Int32.le_iff_toInt_le, nI_toInt (by omega)] at h
    exact Or.inr (Or.inr (by omega))
  · exact Or.inl h
theorem len6 {t L : Nat} (hL : L ≤ 3072) (ht : t ≤ 513) : (Int32.ofNat L - nI 6 < nI (6 * t)) ↔ L < 6 * t + 6 := by
  rw [Int32.lt_iff_toInt_lt, show Int32.ofNat L - nI 6 = nI L - nI 6 from rfl, pk_sub_toInt (by omega) (by omega), nI_toInt (by omega)]
  omega
set_option maxHeartbeats 4000000 in
theorem law_loop {G : XG} {tb : List ExceptionTableEntry} {nm ds : String} {B : Nat} (hN : xSl G ≤ 3072) : ∀ (z t : Nat) (Y : XY) (N : XN) (c s : Nat), OK9 Y B → IV B N → t + z = 513 → c ≤ 926 + t → s ≤ 37741 + 6 * t → ExZ G ⟨RL, nm, ds⟩ cL_law 7 ret tb room_1 (law_Z G) c s 23 [(0, .ref (xSb G)), (1, .ref B), (2, .ref (B + 908)), (3, .ref (B + 925)), (4, .int (nI (6 * t)))] [] Y N := by
  intro z
  induction z with
  | zero =>
    intro t Y N c s ok hI ht hc hs
    refine x_iload 4 dL_law_23 rfl ?_
    refine x_aload_n 0 dL_law_25 rfl rfl ?_
    refine x_scrlen dL_law_26 ?_
    refine x_bipush (v := nI 6) dL_law_27 (by decide) ?_
    refine x_isub dL_law_29 ?_
    refine x_icmp_gt_t (tgt := 1247) dL_law_30 (by decide) ((len6 hN (by omega)).mpr (by omega)) ?_
    refine x_iconst (v := 1) dL_law_1247 rfl ?_
    exact x_law dL_law_1248 (by omega) (by omega)
  | succ z ih =>
    intro t Y N c s ok hI ht hc hs
    refine x_iload 4 dL_law_23 rfl ?_
    refine x_aload_n 0 dL_law_25 rfl rfl ?_
    refine x_scrlen dL_law_26 ?_
    refine x_bipush (v := nI 6) dL_law_27 (by decide) ?_
    refine x_isub dL_law_29 ?_
    by_cases hlt : xSl G < 6 * t + 6
    · refine x_icmp_gt_t (tgt := 1247) dL_law_30 (by decide) ((len6 hN (by omega)).mpr hlt) ?_
      refine x_iconst (v := 1) dL_law_1247 rfl ?_
      exact x_law dL_law_1248 (by omega) (by omega)
    · refine x_icmp_gt_f (tgt := 1247) dL_law_30 (by decide) (fun q => hlt ((len6 hN (by omega)).mp q)) ?_
      have h6 : 6 * t + 6 ≤ xSl G := by omega
      have i0 := sidx0 h6 hN
      have kk : LK G tb nm ds B t c s := by
        intro Y' N' c' s' ok' hI' hc' hs'
        refine x_iinc (L' := [(0, .ref (xSb G)), (1, .ref B), (2, .ref (B + 908)), (3, .ref (B + 925)), (4, .int (nI (6 * (t + 1))))]) (v := nI (6 * (t + 1))) 4 [1, 2, 3, 4, 0] dL_law_1241 rfl ((nI_add (6 * t) 6).trans (by rw [show 6 * t + 6 = 6 * (t + 1) by omega])) (by decide) rfl ?_
        refine x_goto (tgt := 23) dL_law_1244 (by decide) ?_
        exact ih (t + 1) Y' N' c' s' ok' hI' (by omega) (by omega) (by omega)
      refine x_aload_n 0 dL_law_33 rfl rfl ?_
      refine x_iload 4 dL_law_34 rfl ?_
      refine x_scrld i0.1 i0.2 dL_law_36 ?_
      refine x_bipush (v := 31) dL_law_37 rfl ?_
      refine x_iand dL_law_39 ?_
      generalize xSx G (6 * t) &&& 31 = v
      rcases sw20 v with ⟨k, hk, rfl⟩ | h
      · match k, hk with
        | 0, _ => exact x_swIn (tgt := 136) dL_law_40 (by decide) (by decide) rfl (by decide) (LC_append ok hI h6 hN (by omega) (by omega) kk)
        | 1, _ => exact x_swIn (tgt := 209) dL_law_40 (by decide) (by decide) rfl (by decide) (LC_load ok hI h6 hN (by omega) (by omega) kk)
        | 2, _ => exact x_swIn (tgt := 265) dL_law_40 (by decide) (by decide) rfl (by decide) (LC_errorOffset ok hI h6 hN (by omega) (by omega) kk)
        | 3, _ => exact x_swIn (tgt := 278) dL_law_40 (by decide) (by decide) rfl (by decide) (LC_state ok hI h6 hN (by omega) (by omega) kk)
        | 4, _ => exact x_swIn (tgt := 334) dL_law_40 (by decide) (by decide) rfl (by decide) (LC_handler ok hI h6 hN (by omega) (by omega) kk)
        | 5, _ => exact x_swIn (tgt := 402) dL_law_40 (by decide) (by decide) rfl (by decide) (LC_line ok hI h6 hN (by omega) (by omega) kk)
        | 6, _ => exact x_swIn (tgt := 470) dL_law_40 (by decide) (by decide) rfl (by decide) (LC_tenant ok hI h6 hN (by omega) (by omega) kk)
        | 7, _ => exact x_swIn (tgt := 538) dL_law_40 (by decide) (by decide) rfl (by decide) (LC_request ok hI h6 hN (by omega) (by omega) kk)
        | 8, _ => exact x_swIn (tgt := 606) dL_law_40 (by decide) (by decide) rfl (by decide) (LC_calm ok hI h6 hN (by omega) (by omega) kk)
        | 9, _ => exact x_swIn (tgt := 662) dL_law_40 (by decide) (by decide) rfl (by decide) (LC_endsAt ok hI h6 hN (by omega) (by omega) kk)
        | 10, _ => exact x_swIn (tgt := 718) dL_law_40 (by decide) (by decide) rfl (by decide) (LC_bankruptIn ok hI h6 hN (by omega) (by omega) kk)
        | 11, _ => exact x_swIn (tgt := 774) dL_law_40 (by decide) (by decide) rfl (by decide) (LC_finesIn ok hI h6 hN (by omega) (by omega) kk)
        | 12, _ => exact x_swIn (tgt := 830) dL_law_40 (by decide) (by decide) rfl (by decide) (LC_advise ok hI h6 hN (by omega) (by omega) kk)
        | 13, _ => exact x_swIn (tgt := 886) dL_law_40 (by decide) (by decide) rfl (by decide) (LC_pass ok hI h6 hN (by omega) (by omega) kk)
        | 14, _ => exact x_swIn (tgt := 942) dL_law_40 (by decide) (by decide) rfl (by decide) (LC_raise ok hI h6 hN (by omega) (by omega) kk)
        | 15, _ => exact x_swIn (tgt := 1010) dL_law_40 (by decide) (by decide) rfl (by decide) (LC_lease ok hI h6 hN (by omega) (by omega) kk)
        | 16, _ => exact x_swIn (tgt := 1078) dL_law_40 (by decide) (by decide) rfl (by decide) (LC_release ok hI h6 hN (by omega) (by omega) kk)
        | 17, _ => exact x_swIn (tgt := 1146) dL_law_40 (by decide) (by decide) rfl (by decide) (LC_fund ok hI h6 hN (by omega) (by omega) kk)
        | 18, _ => exact x_swIn (tgt := 1214) dL_law_40 (by decide) (by decide) rfl (by decide) (LC_undo ok hI h6 hN (by omega) (by omega) kk)
        | 19, _ => exact x_swIn (tgt := 1227) dL_law_40 (by decide) (by decide) rfl (by decide) (LC_checksum ok hI h6 hN (by omega) (by omega) kk)
        | k + 20, h => exact absurd h (by omega)
      · exact x_swOut (tgt := 1241) dL_law_40 h (by decide) (kk Y N c s ok hI (by omega) (by omega))
