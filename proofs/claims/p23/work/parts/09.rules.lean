section XSR
variable {G : XG} {yy zz : MethodName} {cc cc' : ByteArray} {nL nL' : Nat} {ret ret' : Option FieldType} {tb : List ExceptionTableEntry} {Z : List Frame → Array Value → State → State → Prop} {Y Y' : XY} {N N' : XN} {k n pc : Nat} {L : List (Nat × Value)} {st rest As : List Value} {ix d d' c0 s0 : Nat} {v : Option Value}
/-- a call on a receiver that the launch's own cells hold -/
theorem x_cvg {b : Nat} (hd : decode cc pc = .ok (.invokevirtual ix, 3)) (hl : Cond.methodLink yy.cls ix zz ∈ UW) (hi : Cond.instanceMethod zz ∈ UW) (hs : Cond.selects zz.cls zz zz ∈ UW) (hn : Cond.initialized zz.cls ∈ UW) (hc : Cond.code zz cc' nL' ret' ∈ UW)
    (hp : zz.cls ≠ "java/lang/invoke/MethodHandle" ∧ zz.cls ≠ "java/lang/invoke/VarHandle" ∧ (parseMethodDescriptor zz.desc).map (fun d => d.parameters.length) = some As.length) (h1 : d' + 1 ≤ d) (h2 : nL' ≤ 23) (hst : st = As.reverse ++ .ref b :: rest) (hW : 2 * 0 + (rest.map fun v => v.category).sum ≤ 8) (hcap : k ≤ c0 ∧ n ≤ s0)
    (hb9 : ∀ (s : State) (H : Heap) (locs : List Loc), xC G s s.heap → va_S (xA G) s.heap H locs → ∃ cell : Cell, H[b]? = some cell ∧ cell.vm.isStatics = false ∧ s.vm.findClass zz.cls = some cell.cls) (hC9 : Cl G zz cc' nL' ret' (xR d' 0 0) (.ref b :: As) (.inl v) Y N Y' N')
    (kk : ExZ G yy cc nL ret tb (xR d c0 s0) Z k n (pc + 3) L (v.toList ++ rest) Y' N') : ExZ G yy cc nL ret tb (xR d c0 s0) Z k n pc L st Y N := by
  intro p l e s m args below meth c H locs ls C hH hS hL
  have hts := C.2.2.2.2.2.2.2.2.2.1
  exact x_back (R := xR d c0 s0) (R' := xR d' 0 0) (vx_runV (C := zz.cls) (Ts := UW) (n := As.length) ⟨C.1, C.2.2.1, C.2.2.2.1, C.2.2.2.2.1, hts⟩ (hC9 l C.2.1) ⟨x_cw hts hl hn hc hp ⟨h1, by show 8 + (nL' + 11) + 42 * d' ≤ 42 * d; omega⟩, hts _ hi, hts _ hs⟩ ⟨xPre_blind, hb9 s H locs C.2.2.2.2.2.2.2.2.2.2.2.1 hS, fun U hU hW => ⟨rfl, xPre_at C hH hS hU hW⟩⟩ rfl rfl hL.1 hst hW hd hcap) C hS hL kk
theorem x_strc {w : Nat} (hw : w < 37) (s : State) (H : Heap) (locs : List Loc) (h : xC G s s.heap) (hS : va_S (xA G) s.heap H locs) : ∃ cell : Cell, H[xS G w]? = some cell ∧ cell.vm.isStatics = false ∧ s.vm.findClass RJ0 = some cell.cls := by
  obtain ⟨cell, h1, h2, h3, -⟩ := (h.1 w hw).1.kept hS.2.1
  exact ⟨cell, h1, h2, h3⟩
theorem x_strcoder {w : Nat} (hw : w < 37) (hd : decode cc pc = .ok (.getfield ix, 3)) (hl : Cond.fieldLink yy.cls ix "java/lang/String" "coder" "B" ∈ UW) (kk : ExZ G yy cc nL ret tb (xR d c0 s0) Z k n (pc + 3) L (.int 0 :: st) Y N) : ExZ G yy cc nL ret tb (xR d c0 s0) Z k n pc L (.ref (xS G w) :: st) Y N := by
  intro p l e s m args below meth c H locs ls C hH hS hL
  exact vk_getf C.1 C.2.2.1 (C.2.2.2.2.2.2.2.2.2.2.2.1.1 w hw).2.1 hS C.2.2.2.2.1 (C.2.2.2.2.2.2.2.2.2.1 _ hl) (fun _ h => h) hd (kk p l e s m args below meth c H locs ls C hH hS hL)
theorem x_strvalue {w : Nat} (hw : w < 37) (hd : decode cc pc = .ok (.getfield ix, 3)) (hl : Cond.fieldLink yy.cls ix "java/lang/String" "value" "[B" ∈ UW) (kk : ExZ G yy cc nL ret tb (xR d c0 s0) Z k n (pc + 3) L (.ref (G.2.2.2.1 w) :: st) Y N) : ExZ G yy cc nL ret tb (xR d c0 s0) Z k n pc L (.ref (xS G w) :: st) Y N := by
  intro p l e s m args below meth c H locs ls C hH hS hL
  exact vk_getf C.1 C.2.2.1 (C.2.2.2.2.2.2.2.2.2.2.2.1.1 w hw).2.2.1 hS C.2.2.2.2.1 (C.2.2.2.2.2.2.2.2.2.1 _ hl) (fun _ h => h) hd (kk p l e s m args below meth c H locs ls C hH hS hL)
theorem x_strlen {w : Nat} (hw : w < 37) (hd : decode cc pc = .ok (.arraylength, 1)) (kk : ExZ G yy cc nL ret tb (xR d c0 s0) Z k n (pc + 1) L (.int (nI (xWo w).length) :: st) Y N) : ExZ G yy cc nL ret tb (xR d c0 s0) Z k n pc L (.ref (G.2.2.2.1 w) :: st) Y N := by
  intro p l e s m args below meth c H locs ls C hH hS hL
  exact va_tlen C.1 C.2.2.1 (C.2.2.2.2.2.2.2.2.2.2.2.1.1 w hw).2.2.2 hS rfl hd (kk p l e s m args below meth c H locs ls C hH hS hL)
theorem x_strbyte {w : Nat} {i : Int32} (hw : w < 37) (hi : vp_in i (xWo w).length) (hd : decode cc pc = .ok (.baload, 1)) (kk : ExZ G yy cc nL ret tb (xR d c0 s0) Z k n (pc + 1) L (.int ((xWo w).getD i.toNatClampNeg 0) :: st) Y N) : ExZ G yy cc nL ret tb (xR d c0 s0) Z k n pc L (.int i :: .ref (G.2.2.2.1 w) :: st) Y N := by
  intro p l e s m args below meth c H locs ls C hH hS hL
  exact va_tb C.1 C.2.2.1 (C.2.2.2.2.2.2.2.2.2.2.2.1.1 w hw).2.2.2 hS hi rfl hd (kk p l e s m args below meth c H locs ls C hH hS hL)
theorem x_compact (hd : decode cc pc = .ok (.getstatic ix, 3)) (hl : Cond.fieldLink yy.cls ix "java/lang/String" "COMPACT_STRINGS" "Z" ∈ UW) (kk : ExZ G yy cc nL ret tb (xR d c0 s0) Z k n (pc + 3) L (.int 1 :: st) Y N) : ExZ G yy cc nL ret tb (xR d c0 s0) Z k n pc L st Y N := by
  intro p l e s m args below meth c H locs ls C hH hS hL
  exact va_gets C.1 C.2.2.1 C.2.2.2.2.2.2.2.2.2.2.2.1.2.2.2.2.2.1 hS C.2.2.2.2.1 (C.2.2.2.2.2.2.2.2.2.1 _ hl) (fun _ h => h) hd (kk p l e s m args below meth c H locs ls C hH hS hL)
theorem x_sioobe (hd : decode cc pc = .ok (.getstatic ix, 3)) (hl : Cond.fieldLink yy.cls ix "jdk/internal/util/Preconditions" "SIOOBE_FORMATTER" "Ljava/util/function/BiFunction;" ∈ UW) (kn : ExZ G yy cc nL ret tb (xR d c0 s0) Z k n (pc + 3) L (.null :: st) Y N) (kk : ∀ t : Nat, ExZ G yy cc nL ret tb (xR d c0 s0) Z k n (pc + 3) L (.ref t :: st) Y N) : ExZ G yy cc nL ret tb (xR d c0 s0) Z k n pc L st Y N := by
  intro p l e s m args below meth c H locs ls C hH hS hL
  rcases C.2.2.2.2.2.2.2.2.2.2.2.1.2.2.2.2.2.2.1 with h | ⟨t, h⟩
  · exact va_gets C.1 C.2.2.1 h hS C.2.2.2.2.1 (C.2.2.2.2.2.2.2.2.2.1 _ hl) (fun _ h => h) hd (kn p l e s m args below meth c H locs ls C hH hS hL)
  · exact va_gets C.1 C.2.2.1 h hS C.2.2.2.2.1 (C.2.2.2.2.2.2.2.2.2.1 _ hl) (fun _ h => h) hd (kk t p l e s m args below meth c H locs ls C hH hS hL)
theorem x_nret {v : Int32} {ty : FieldType} (hd : decode cc pc = .ok (.ireturn, 1)) (hr : ret = some ty) (hz : narrow ty (.int v) = .int v) (hk : (xR d c0 s0).cells = k) (hn : (xR d c0 s0).slots = n) : ExZ G yy cc nL ret tb (xR d c0 s0) (xZ G (xR d c0 s0) (.inl (some (.int v))) Y N) k n pc L [.int v] Y N := by
  intro p l e s m args below meth c H locs ls C hH hS hL
  subst hk; subst hn
  exact vx_ret (W.zret C.1 C.2.2.1 (C.2.2.2.2.2.2.1.trans hr) hz (fun t ht _ => xq_ret hH hS ht) hS.2.2 hd C.2.2.2.2.2.2.2.1)
theorem x_i2c {x : Int32} (hd : decode cc pc = .ok (.i2c, 1)) (kk : ExZ G yy cc nL ret tb (xR d c0 s0) Z k n (pc + 1) L (.int (x.toUInt32 % 65536).toInt32 :: st) Y N) : ExZ G yy cc nL ret tb (xR d c0 s0) Z k n pc L (.int x :: st) Y N := by
  intro p l e s m args below meth c H locs ls C hH hS hL
  exact lv_i2c C.1 C.2.2.1 hd rfl (kk p l e s m args below meth c H locs ls C hH hS hL)
theorem T_J0_coder {w : Nat} (hw : w < 37) : Cl G yJ0_coder_7d493 cJ0_coder_7d493 1 (some .byte) (xR 1 0 0) [.ref (xS G w)] (.inl (some (.int 0))) Y N Y N := by
  refine x_entry (by decide) (Nat.le_of_ble_eq_true rfl) rfl ?_
  refine x_compact dJ0_coder_7d493_0 fl_J0_38 ?_
  refine x_if_eq_f (tgt := 13) dJ0_coder_7d493_3 (by decide) (by decide) ?_
  refine x_aload_n 0 dJ0_coder_7d493_6 rfl rfl ?_
  refine x_strcoder hw dJ0_coder_7d493_7 fl_J0_15 ?_
  refine x_goto (tgt := 14) dJ0_coder_7d493_10 (by decide) ?_
  exact x_nret dJ0_coder_7d493_14 rfl rfl rfl rfl
theorem T_J0_isLatin1 {w : Nat} (hw : w < 37) : Cl G yJ0_isLatin1_aae02 cJ0_isLatin1_aae02 1 (some .boolean) (xR 1 0 0) [.ref (xS G w)] (.inl (some (.int 1))) Y N Y N := by
  refine x_entry (by decide) (Nat.le_of_ble_eq_true rfl) rfl ?_
  refine x_compact dJ0_isLatin1_aae02_0 fl_J0_38 ?_
  refine x_if_eq_f (tgt := 17) dJ0_isLatin1_aae02_3 (by decide) (by decide) ?_
  refine x_aload_n 0 dJ0_isLatin1_aae02_6 rfl rfl ?_
  refine x_strcoder hw dJ0_isLatin1_aae02_7 fl_J0_15 ?_
  refine x_if_ne_f (tgt := 17) dJ0_isLatin1_aae02_10 (by decide) rfl ?_
  refine x_iconst (v := 1) dJ0_isLatin1_aae02_13 rfl ?_
  refine x_goto (tgt := 18) dJ0_isLatin1_aae02_14 (by decide) ?_
  exact x_zret dJ0_isLatin1_aae02_18 rfl (by decide) rfl rfl
theorem T_J0_length {w : Nat} (hw : w < 37) : Cl G yJ0_length_8abf5 cJ0_length_8abf5 1 (some .int) (xR 2 0 0) [.ref (xS G w)] (.inl (some (.int (nI (xWo w).length)))) Y N Y N := by
  refine x_entry (by decide) (Nat.le_of_ble_eq_true rfl) rfl ?_
  refine x_aload_n 0 dJ0_length_8abf5_0 rfl rfl ?_
  refine x_strvalue hw dJ0_length_8abf5_1 fl_J0_9 ?_
  refine x_strlen hw dJ0_length_8abf5_4 ?_
  refine x_aload_n 0 dJ0_length_8abf5_5 rfl rfl ?_
  refine x_cvg (b := xS G w) (As := []) (d' := 1) (zz := yJ0_coder_7d493) dJ0_length_8abf5_6 ml_J0_335 wi_J0_coder_7d493 wv_J0_coder_7d493 wn_J0 wc_J0_coder_7d493 hp_J0_coder_7d493 (by decide) (by decide) rfl (Nat.le_of_ble_eq_true rfl) ⟨Nat.zero_le _, Nat.zero_le _⟩ (x_strc hw) (T_J0_coder hw) ?_
  refine x_ishr dJ0_length_8abf5_9 ?_
  rw [sb_shr0]
  exact x_iret dJ0_length_8abf5_10 rfl rfl rfl
theorem T_J3_checkIndex {i m : Int32} {v : Value} (hv : v = .null ∨ ∃ t, v = .ref t) (h0 : ¬ i < 0) (h1 : i < m) : Cl G yJ3_checkIndex_8e157 cJ3_checkIndex_8e157 3 (some .int) (xR 1 0 0) [.int i, .int m, v] (.inl (some (.int i))) Y N Y N := by
  rcases hv with rfl | ⟨t, rfl⟩ <;>
  · refine x_entry (by decide) (Nat.le_of_ble_eq_true rfl) rfl ?_
    refine x_iload_n 0 dJ3_checkIndex_8e157_0 rfl rfl ?_
    refine x_if_lt_f (tgt := 9) dJ3_checkIndex_8e157_1 (by decide) h0 ?_
    refine x_iload_n 0 dJ3_checkIndex_8e157_4 rfl rfl ?_
    refine x_iload_n 1 dJ3_checkIndex_8e157_5 rfl rfl ?_
    refine x_icmp_lt_t (tgt := 16) dJ3_checkIndex_8e157_6 (by decide) h1 ?_
    refine x_iload_n 0 dJ3_checkIndex_8e157_16 rfl rfl ?_
    exact x_iret dJ3_checkIndex_8e157_17 rfl rfl rfl
theorem T_J0_checkIndex {i m : Int32} (h0 : ¬ i < 0) (h1 : i < m) : Cl G yJ0_checkIndex_df160 cJ0_checkIndex_df160 2 none (xR 2 0 0) [.int i, .int m] (.inl none) Y N Y N := by
  refine x_entry (by decide) (Nat.le_of_ble_eq_true rfl) rfl ?_
  refine x_iload_n 0 dJ0_checkIndex_df160_0 rfl rfl ?_
  refine x_iload_n 1 dJ0_checkIndex_df160_1 rfl rfl ?_
  have rest9 : ∀ v : Value, (v = .null ∨ ∃ t, v = .ref t) → v.category = 1 → Ex G yJ0_checkIndex_df160 cJ0_checkIndex_df160 2 none (xR 2 0 0) (.inl none) Y N 0 0 5 [(0, .int i), (1, .int m)] [v, .int m, .int i] Y N := by
    intro v hv hcat
    refine x_cs (As := [.int i, .int m, v]) (d' := 1) (zz := yJ3_checkIndex_8e157) dJ0_checkIndex_df160_5 ml_J0_1059 wt_J3_checkIndex_8e157 wn_J3 wc_J3_checkIndex_8e157 hp_J3_checkIndex_8e157 (by decide) (by decide) rfl (Nat.le_of_ble_eq_true rfl) ⟨Nat.zero_le _, Nat.zero_le _⟩ (T_J3_checkIndex hv h0 h1) ?_
    refine x_pop dJ0_checkIndex_df160_8 rfl ?_
    exact x_vret dJ0_checkIndex_df160_9 rfl rfl rfl
  exact x_sioobe dJ0_checkIndex_df160_2 fl_J0_1053 (rest9 _ (Or.inl rfl) rfl) (fun t => rest9 _ (Or.inr ⟨t, rfl⟩) rfl)
theorem xWo_len (w : Nat) : (xWo w).length < 16 := by
  by_cases h : w < 37
  · exact (show ∀ w, w < 37 → (xWo w).length < 16 by decide) w h
  · have : xTx.length ≤ w := Nat.not_lt.mp h
    unfold xWo
    rw [List.getD_eq_getElem?_getD, List.getElem?_eq_none this]
    decide
theorem xWo_letter {w j : Nat} (hw : w < 37) (hj : j < (xWo w).length) : (((xWo w).getD j 0 &&& 255).toUInt32 % 65536).toInt32 = (xWo w).getD j 0 ∧ narrow .char (.int ((xWo w).getD j 0)) = .int ((xWo w).getD j 0) :=
  (show ∀ w, w < 37 → ∀ j, j < (xWo w).length → (((xWo w).getD j 0 &&& 255).toUInt32 % 65536).toInt32 = (xWo w).getD j 0 ∧ narrow .char (.int ((xWo w).getD j 0)) = .int ((xWo w).getD j 0) by decide +kernel) w hw j hj
theorem vp_lt {i : Int32} {m : Nat} (hm : m < 2 ^ 31) (h : vp_in i m) : ¬ i < 0 ∧ i < nI m := by
  obtain ⟨j, hj, rfl⟩ := vp_in_of h hm
  exact ⟨nI_pos (by omega), nI_lt hj hm⟩
theorem T_J1_charAt {w : Nat} {i : Int32} (hw : w < 37) (hi : vp_in i (xWo w).length) : Cl G yJ1_charAt_3b067 cJ1_charAt_3b067 2 (some .char) (xR 3 0 0) [.ref (G.2.2.2.1 w), .int i] (.inl (some (.int ((xWo w).getD i.toNatClampNeg 0)))) Y N Y N := by
  have hlen := xWo_len w
  obtain ⟨h0, h1⟩ := vp_lt (by omega) hi
  have hlt : i.toNatClampNeg < (xWo w).length := Nat.not_le.mp fun q => hi (Or.inr q)
  obtain ⟨e1, e2⟩ := xWo_letter hw hlt
  refine x_entry (by decide) (Nat.le_of_ble_eq_true rfl) rfl ?_
  refine x_iload_n 1 dJ1_charAt_3b067_0 rfl rfl ?_
  refine x_aload_n 0 dJ1_charAt_3b067_1 rfl rfl ?_
  refine x_strlen hw dJ1_charAt_3b067_2 ?_
  refine x_cs (As := [.int i, .int (nI (xWo w).length)]) (d' := 2) (zz := yJ0_checkIndex_df160) dJ1_charAt_3b067_3 ml_J1_9 wt_J0_checkIndex_df160 wn_J0 wc_J0_checkIndex_df160 hp_J0_checkIndex_df160 (by decide) (by decide) rfl (Nat.le_of_ble_eq_true rfl) ⟨Nat.zero_le _, Nat.zero_le _⟩ (T_J0_checkIndex h0 h1) ?_
  refine x_aload_n 0 dJ1_charAt_3b067_6 rfl rfl ?_
  refine x_iload_n 1 dJ1_charAt_3b067_7 rfl rfl ?_
  refine x_strbyte hw hi dJ1_charAt_3b067_8 ?_
  refine x_sipush (v := 255) dJ1_charAt_3b067_9 rfl ?_
  refine x_iand dJ1_charAt_3b067_12 ?_
  refine x_i2c dJ1_charAt_3b067_13 ?_
  rw [e1]
  exact x_nret dJ1_charAt_3b067_14 rfl e2 rfl rfl
theorem T_J0_charAt {w : Nat} {i : Int32} (hw : w < 37) (hi : vp_in i (xWo w).length) : Cl G yJ0_charAt_5068e cJ0_charAt_5068e 2 (some .char) (xR 4 0 0) [.ref (xS G w), .int i] (.inl (some (.int ((xWo w).getD i.toNatClampNeg 0)))) Y N Y N := by
  have hlt : i.toNatClampNeg < (xWo w).length := Nat.not_le.mp fun q => hi (Or.inr q)
  obtain ⟨e1, e2⟩ := xWo_letter hw hlt
  refine x_entry (by decide) (Nat.le_of_ble_eq_true rfl) rfl ?_
  refine x_aload_n 0 dJ0_charAt_5068e_0 rfl rfl ?_
  refine x_cvg (b := xS G w) (As := []) (d' := 1) (zz := yJ0_isLatin1_aae02) dJ0_charAt_5068e_1 ml_J0_492 wi_J0_isLatin1_aae02 wv_J0_isLatin1_aae02 wn_J0 wc_J0_isLatin1_aae02 hp_J0_isLatin1_aae02 (by decide) (by decide) rfl (Nat.le_of_ble_eq_true rfl) ⟨Nat.zero_le _, Nat.zero_le _⟩ (x_strc hw) (T_J0_isLatin1 hw) ?_
  refine x_if_eq_f (tgt := 16) dJ0_charAt_5068e_4 (by decide) (by decide) ?_
  refine x_aload_n 0 dJ0_charAt_5068e_7 rfl rfl ?_
  refine x_strvalue hw dJ0_charAt_5068e_8 fl_J0_9 ?_
  refine x_iload_n 1 dJ0_charAt_5068e_11 rfl rfl ?_
  refine x_cs (As := [.ref (G.2.2.2.1 w), .int i]) (d' := 3) (zz := yJ1_charAt_3b067) dJ0_charAt_5068e_12 ml_J0_495 wt_J1_charAt_3b067 wn_J1 wc_J1_charAt_3b067 hp_J1_charAt_3b067 (by decide) (by decide) rfl (Nat.le_of_ble_eq_true rfl) ⟨Nat.zero_le _, Nat.zero_le _⟩ (T_J1_charAt hw hi) ?_
  exact x_nret dJ0_charAt_5068e_15 rfl e2 rfl rfl
theorem x_slen {w : Nat} (hd : decode cc pc = .ok (.invokevirtual ix, 3)) (hl : Cond.methodLink yy.cls ix yJ0_length_8abf5 ∈ UW) (hw : w < 37) (h1 : 8 ≤ d) (hW : 2 * 0 + (st.map fun v => v.category).sum ≤ 8) (hcap : k ≤ c0 ∧ n ≤ s0)
    (kk : ExZ G yy cc nL ret tb (xR d c0 s0) Z k n (pc + 3) L (.int (nI (xWo w).length) :: st) Y N) : ExZ G yy cc nL ret tb (xR d c0 s0) Z k n pc L (.ref (xS G w) :: st) Y N :=
  x_cvg (b := xS G w) (As := []) (d' := 2) (zz := yJ0_length_8abf5) hd hl wi_J0_length_8abf5 wv_J0_length_8abf5 wn_J0 wc_J0_length_8abf5 hp_J0_length_8abf5 (by omega) (by decide) rfl hW hcap (x_strc hw) (T_J0_length hw) kk
theorem x_schar {w : Nat} {i : Int32} (hd : decode cc pc = .ok (.invokevirtual ix, 3)) (hl : Cond.methodLink yy.cls ix yJ0_charAt_5068e ∈ UW) (hw : w < 37) (hi : vp_in i (xWo w).length) (h1 : 8 ≤ d) (hW : 2 * 0 + (st.map fun v => v.category).sum ≤ 8) (hcap : k ≤ c0 ∧ n ≤ s0)
    (kk : ExZ G yy cc nL ret tb (xR d c0 s0) Z k n (pc + 3) L (.int ((xWo w).getD i.toNatClampNeg 0) :: st) Y N) : ExZ G yy cc nL ret tb (xR d c0 s0) Z k n pc L (.int i :: .ref (xS G w) :: st) Y N :=
  x_cvg (b := xS G w) (As := [.int i]) (d' := 4) (zz := yJ0_charAt_5068e) hd hl wi_J0_charAt_5068e wv_J0_charAt_5068e wn_J0 wc_J0_charAt_5068e hp_J0_charAt_5068e (by omega) (by decide) rfl hW hcap (x_strc hw) (T_J0_charAt hw hi) kk
variable {is : Nat}
theorem xH.grow {G : XG} {Y : XY} {N : XN} {H H' : Heap} (hno : ∀ a, kc Y a ≠ 9) (h : xH G Y N H) (hq : ∀ q : Nat, q < H.size → H'[q]? = H[q]?) : xH G Y N H' := by
  exact ⟨fun a => (h.1 a).keptA (hno a) (fun hl => hq a hl) rfl (fun _ => rfl) (fun _ => rfl) (fun _ => rfl), h.2⟩
theorem xg_iae : ∀ w ∈ (Cond.classLink RX7 58 "java/lang/IllegalArgumentException" :: Cond.initialized "java/lang/IllegalArgumentException" :: vx_atS RX7 62 "java/lang/IllegalArgumentException" ["java/lang/RuntimeException", "java/lang/Exception"]), vx_ot w = true := by decide +kernel
theorem xw_iae : ∀ w ∈ (Cond.classLink RX7 58 "java/lang/IllegalArgumentException" :: Cond.initialized "java/lang/IllegalArgumentException" :: vx_atS RX7 62 "java/lang/IllegalArgumentException" ["java/lang/RuntimeException", "java/lang/Exception"]).filter goodWord, w ∈ UW := by decide +kernel
theorem xv_iae : ∀ w ∈ (Cond.classLink RX7 58 "java/lang/IllegalArgumentException" :: Cond.initialized "java/lang/IllegalArgumentException" :: vx_atS RX7 62 "java/lang/IllegalArgumentException" ["java/lang/RuntimeException", "java/lang/Exception"]).filter (fun w => !goodWord w), w ∈ xDe.map Cond.declares ++ xEx.map (fun x => Cond.castable x x) := by decide +kernel
theorem xt_iae {tx : String} (d0 : decode cc pc = .ok (.new 58, 3)) (d3 : decode cc (pc + 3) = .ok (.dup, 1)) (d4 : decode cc (pc + 4) = .ok (.ldc is, 2)) (d6 : decode cc (pc + 6) = .ok (.invokespecial 62, 3)) (d9 : decode cc (pc + 9) = .ok (.athrow, 1)) (hw : (is, tx) ∈ xMs) (hy : yy.cls = RX7) (hno : ∀ a, kc Y a ≠ 9) (hd : 7 ≤ d) (hW : (st.map fun v => v.category).sum ≤ 8) :
    Ex G yy cc nL ret (xR d 1 6) (.inr "java/lang/IllegalArgumentException") Y N 0 0 pc L st Y N := by
  intro p l e s m args below meth c H locs ls C hH hS hL
  obtain ⟨hx, hl, hb, hml, hown, -, -, hlk, het, hts, hK, hC, hB⟩ := C
  obtain ⟨sa, hstr⟩ := hC.2.2.1 (is, tx) hw
  obtain ⟨-, -, -, hU, hN, -, -, hD, hE, -⟩ := hC
  have hall : ∀ w ∈ (Cond.classLink RX7 58 "java/lang/IllegalArgumentException" :: Cond.initialized "java/lang/IllegalArgumentException" :: vx_atS RX7 62 "java/lang/IllegalArgumentException" ["java/lang/RuntimeException", "java/lang/Exception"]), w.before args s = true := vx_hat (fun w hw => hts w (xw_iae w hw)) xv_iae (fun w hw => by
    rcases List.mem_append.mp hw with h | h
    · obtain ⟨x, hx9, rfl⟩ := List.mem_map.mp h
      exact va_Nw.use rfl (hD x hx9)
    · obtain ⟨x, hx9, rfl⟩ := List.mem_map.mp h
      exact va_Nw.use rfl (hE x hx9))
  rw [hy] at hown
  exact vx_throwS hx hb hl hown (by decide) (by decide) (hall _ List.mem_cons_self) (hall _ (List.mem_cons_of_mem _ List.mem_cons_self)) hstr (fun w hw => hall w (List.mem_cons_of_mem _ (List.mem_cons_of_mem _ hw))) xg_iae hU hN hS (hL.1.trans hml.symm) d0 d3 d4 d6 d9 (fun x hx => by rw [het] at hx; cases hx)
    (by show 2 + 3 < d; omega) (by show _ + (13 * (2 + 1) + 43) ≤ 42 * d; omega) (Nat.le_refl 1) (Nat.le_refl 6) hlk
    (fun t hv hz hq => ⟨rfl, xH.grow hno hH hq, Nat.le_trans hS.1 hz, fun q h1 h2 => (hq q (Nat.lt_of_lt_of_le h1 hS.1)).trans (hS.2.1 q h1 h2)⟩) hS.2.2 (Nat.le_refl 1) (Nat.le_refl 6)
theorem xt_iaew {tx : String} (d0 : decode cc pc = .ok (.new 58, 3)) (d3 : decode cc (pc + 3) = .ok (.dup, 1)) (d4 : decode cc (pc + 4) = .ok (.ldc_w is, 3)) (d6 : decode cc (pc + 7) = .ok (.invokespecial 62, 3)) (d9 : decode cc (pc + 10) = .ok (.athrow, 1)) (hw : (is, tx) ∈ xMs) (hy : yy.cls = RX7) (hno : ∀ a, kc Y a ≠ 9) (hd : 7 ≤ d) (hW : (st.map fun v => v.category).sum ≤ 8) :
    Ex G yy cc nL ret (xR d 1 6) (.inr "java/lang/IllegalArgumentException") Y N 0 0 pc L st Y N := by
  intro p l e s m args below meth c H locs ls C hH hS hL
  obtain ⟨hx, hl, hb, hml, hown, -, -, hlk, het, hts, hK, hC, hB⟩ := C
  obtain ⟨sa, hstr⟩ := hC.2.2.1 (is, tx) hw
  obtain ⟨-, -, -, hU, hN, -, -, hD, hE, -⟩ := hC
  have hall : ∀ w ∈ (Cond.classLink RX7 58 "java/lang/IllegalArgumentException" :: Cond.initialized "java/lang/IllegalArgumentException" :: vx_atS RX7 62 "java/lang/IllegalArgumentException" ["java/lang/RuntimeException", "java/lang/Exception"]), w.before args s = true := vx_hat (fun w hw => hts w (xw_iae w hw)) xv_iae (fun w hw => by
    rcases List.mem_append.mp hw with h | h
    · obtain ⟨x, hx9, rfl⟩ := List.mem_map.mp h
      exact va_Nw.use rfl (hD x hx9)
    · obtain ⟨x, hx9, rfl⟩ := List.mem_map.mp h
      exact va_Nw.use rfl (hE x hx9))
  rw [hy] at hown
  exact vx_throwSW hx hb hl hown (by decide) (by decide) (hall _ List.mem_cons_self) (hall _ (List.mem_cons_of_mem _ List.mem_cons_self)) hstr (fun w hw => hall w (List.mem_cons_of_mem _ (List.mem_cons_of_mem _ hw))) xg_iae hU hN hS (hL.1.trans hml.symm) d0 d3 d4 d6 d9 (fun x hx => by rw [het] at hx; cases hx)
    (by show 2 + 3 < d; omega) (by show _ + (13 * (2 + 1) + 43) ≤ 42 * d; omega) (Nat.le_refl 1) (Nat.le_refl 6) hlk
    (fun t hv hz hq => ⟨rfl, xH.grow hno hH hq, Nat.le_trans hS.1 hz, fun q h1 h2 => (hq q (Nat.lt_of_lt_of_le h1 hS.1)).trans (hS.2.1 q h1 h2)⟩) hS.2.2 (Nat.le_refl 1) (Nat.le_refl 6)
theorem xg_iob : ∀ w ∈ (Cond.classLink RX7 116 "java/lang/IndexOutOfBoundsException" :: Cond.initialized "java/lang/IndexOutOfBoundsException" :: vx_atS RX7 120 "java/lang/IndexOutOfBoundsException" ["java/lang/RuntimeException", "java/lang/Exception"]), vx_ot w = true := by decide +kernel
theorem xw_iob : ∀ w ∈ (Cond.classLink RX7 116 "java/lang/IndexOutOfBoundsException" :: Cond.initialized "java/lang/IndexOutOfBoundsException" :: vx_atS RX7 120 "java/lang/IndexOutOfBoundsException" ["java/lang/RuntimeException", "java/lang/Exception"]).filter goodWord, w ∈ UW := by decide +kernel
theorem xv_iob : ∀ w ∈ (Cond.classLink RX7 116 "java/lang/IndexOutOfBoundsException" :: Cond.initialized "java/lang/IndexOutOfBoundsException" :: vx_atS RX7 120 "java/lang/IndexOutOfBoundsException" ["java/lang/RuntimeException", "java/lang/Exception"]).filter (fun w => !goodWord w), w ∈ xDe.map Cond.declares ++ xEx.map (fun x => Cond.castable x x) := by decide +kernel
theorem xt_iob {tx : String} (d0 : decode cc pc = .ok (.new 116, 3)) (d3 : decode cc (pc + 3) = .ok (.dup, 1)) (d4 : decode cc (pc + 4) = .ok (.ldc is, 2)) (d6 : decode cc (pc + 6) = .ok (.invokespecial 120, 3)) (d9 : decode cc (pc + 9) = .ok (.athrow, 1)) (hw : (is, tx) ∈ xMs) (hy : yy.cls = RX7) (hno : ∀ a, kc Y a ≠ 9) (hd : 7 ≤ d) (hW : (st.map fun v => v.category).sum ≤ 8) :
    Ex G yy cc nL ret (xR d 1 6) (.inr "java/lang/IndexOutOfBoundsException") Y N 0 0 pc L st Y N := by
  intro p l e s m args below meth c H locs ls C hH hS hL
  obtain ⟨hx, hl, hb, hml, hown, -, -, hlk, het, hts, hK, hC, hB⟩ := C
  obtain ⟨sa, hstr⟩ := hC.2.2.1 (is, tx) hw
  obtain ⟨-, -, -, hU, hN, -, -, hD, hE, -⟩ := hC
  have hall : ∀ w ∈ (Cond.classLink RX7 116 "java/lang/IndexOutOfBoundsException" :: Cond.initialized "java/lang/IndexOutOfBoundsException" :: vx_atS RX7 120 "java/lang/IndexOutOfBoundsException" ["java/lang/RuntimeException", "java/lang/Exception"]), w.before args s = true := vx_hat (fun w hw => hts w (xw_iob w hw)) xv_iob (fun w hw => by
    rcases List.mem_append.mp hw with h | h
    · obtain ⟨x, hx9, rfl⟩ := List.mem_map.mp h
      exact va_Nw.use rfl (hD x hx9)
    · obtain ⟨x, hx9, rfl⟩ := List.mem_map.mp h
      exact va_Nw.use rfl (hE x hx9))
  rw [hy] at hown
  exact vx_throwS hx hb hl hown (by decide) (by decide) (hall _ List.mem_cons_self) (hall _ (List.mem_cons_of_mem _ List.mem_cons_self)) hstr (fun w hw => hall w (List.mem_cons_of_mem _ (List.mem_cons_of_mem _ hw))) xg_iob hU hN hS (hL.1.trans hml.symm) d0 d3 d4 d6 d9 (fun x hx => by rw [het] at hx; cases hx)
    (by show 2 + 3 < d; omega) (by show _ + (13 * (2 + 1) + 43) ≤ 42 * d; omega) (Nat.le_refl 1) (Nat.le_refl 6) hlk
    (fun t hv hz hq => ⟨rfl, xH.grow hno hH hq, Nat.le_trans hS.1 hz, fun q h1 h2 => (hq q (Nat.lt_of_lt_of_le h1 hS.1)).trans (hS.2.1 q h1 h2)⟩) hS.2.2 (Nat.le_refl 1) (Nat.le_refl 6)
theorem xt_iobw {tx : String} (d0 : decode cc pc = .ok (.new 116, 3)) (d3 : decode cc (pc + 3) = .ok (.dup, 1)) (d4 : decode cc (pc + 4) = .ok (.ldc_w is, 3)) (d6 : decode cc (pc + 7) = .ok (.invokespecial 120, 3)) (d9 : decode cc (pc + 10) = .ok (.athrow, 1)) (hw : (is, tx) ∈ xMs) (hy : yy.cls = RX7) (hno : ∀ a, kc Y a ≠ 9) (hd : 7 ≤ d) (hW : (st.map fun v => v.category).sum ≤ 8) :
    Ex G yy cc nL ret (xR d 1 6) (.inr "java/lang/IndexOutOfBoundsException") Y N 0 0 pc L st Y N := by
  intro p l e s m args below meth c H locs ls C hH hS hL
  obtain ⟨hx, hl, hb, hml, hown, -, -, hlk, het, hts, hK, hC, hB⟩ := C
  obtain ⟨sa, hstr⟩ := hC.2.2.1 (is, tx) hw
  obtain ⟨-, -, -, hU, hN, -, -, hD, hE, -⟩ := hC
  have hall : ∀ w ∈ (Cond.classLink RX7 116 "java/lang/IndexOutOfBoundsException" :: Cond.initialized "java/lang/IndexOutOfBoundsException" :: vx_atS RX7 120 "java/lang/IndexOutOfBoundsException" ["java/lang/RuntimeException", "java/lang/Exception"]), w.before args s = true := vx_hat (fun w hw => hts w (xw_iob w hw)) xv_iob (fun w hw => by
    rcases List.mem_append.mp hw with h | h
    · obtain ⟨x, hx9, rfl⟩ := List.mem_map.mp h
      exact va_Nw.use rfl (hD x hx9)
    · obtain ⟨x, hx9, rfl⟩ := List.mem_map.mp h
      exact va_Nw.use rfl (hE x hx9))
  rw [hy] at hown
  exact vx_throwSW hx hb hl hown (by decide) (by decide) (hall _ List.mem_cons_self) (hall _ (List.mem_cons_of_mem _ List.mem_cons_self)) hstr (fun w hw => hall w (List.mem_cons_of_mem _ (List.mem_cons_of_mem _ hw))) xg_iob hU hN hS (hL.1.trans hml.symm) d0 d3 d4 d6 d9 (fun x hx => by rw [het] at hx; cases hx)
    (by show 2 + 3 < d; omega) (by show _ + (13 * (2 + 1) + 43) ≤ 42 * d; omega) (Nat.le_refl 1) (Nat.le_refl 6) hlk
    (fun t hv hz hq => ⟨rfl, xH.grow hno hH hq, Nat.le_trans hS.1 hz, fun q h1 h2 => (hq q (Nat.lt_of_lt_of_le h1 hS.1)).trans (hS.2.1 q h1 h2)⟩) hS.2.2 (Nat.le_refl 1) (Nat.le_refl 6)
theorem xg_ise : ∀ w ∈ (Cond.classLink RX7 242 "java/lang/IllegalStateException" :: Cond.initialized "java/lang/IllegalStateException" :: vx_atS RX7 246 "java/lang/IllegalStateException" ["java/lang/RuntimeException", "java/lang/Exception"]), vx_ot w = true := by decide +kernel
theorem xw_ise : ∀ w ∈ (Cond.classLink RX7 242 "java/lang/IllegalStateException" :: Cond.initialized "java/lang/IllegalStateException" :: vx_atS RX7 246 "java/lang/IllegalStateException" ["java/lang/RuntimeException", "java/lang/Exception"]).filter goodWord, w ∈ UW := by decide +kernel
theorem xv_ise : ∀ w ∈ (Cond.classLink RX7 242 "java/lang/IllegalStateException" :: Cond.initialized "java/lang/IllegalStateException" :: vx_atS RX7 246 "java/lang/IllegalStateException" ["java/lang/RuntimeException", "java/lang/Exception"]).filter (fun w => !goodWord w), w ∈ xDe.map Cond.declares ++ xEx.map (fun x => Cond.castable x x) := by decide +kernel
theorem xt_ise {tx : String} (d0 : decode cc pc = .ok (.new 242, 3)) (d3 : decode cc (pc + 3) = .ok (.dup, 1)) (d4 : decode cc (pc + 4) = .ok (.ldc is, 2)) (d6 : decode cc (pc + 6) = .ok (.invokespecial 246, 3)) (d9 : decode cc (pc + 9) = .ok (.athrow, 1)) (hw : (is, tx) ∈ xMs) (hy : yy.cls = RX7) (hno : ∀ a, kc Y a ≠ 9) (hd : 7 ≤ d) (hW : (st.map fun v => v.category).sum ≤ 8) :
    Ex G yy cc nL ret (xR d 1 6) (.inr "java/lang/IllegalStateException") Y N 0 0 pc L st Y N := by
  intro p l e s m args below meth c H locs ls C hH hS hL
  obtain ⟨hx, hl, hb, hml, hown, -, -, hlk, het, hts, hK, hC, hB⟩ := C
  obtain ⟨sa, hstr⟩ := hC.2.2.1 (is, tx) hw
  obtain ⟨-, -, -, hU, hN, -, -, hD, hE, -⟩ := hC
  have hall : ∀ w ∈ (Cond.classLink RX7 242 "java/lang/IllegalStateException" :: Cond.initialized "java/lang/IllegalStateException" :: vx_atS RX7 246 "java/lang/IllegalStateException" ["java/lang/RuntimeException", "java/lang/Exception"]), w.before args s = true := vx_hat (fun w hw => hts w (xw_ise w hw)) xv_ise (fun w hw => by
    rcases List.mem_append.mp hw with h | h
    · obtain ⟨x, hx9, rfl⟩ := List.mem_map.mp h
      exact va_Nw.use rfl (hD x hx9)
    · obtain ⟨x, hx9, rfl⟩ := List.mem_map.mp h
      exact va_Nw.use rfl (hE x hx9))
  rw [hy] at hown
  exact vx_throwS hx hb hl hown (by decide) (by decide) (hall _ List.mem_cons_self) (hall _ (List.mem_cons_of_mem _ List.mem_cons_self)) hstr (fun w hw => hall w (List.mem_cons_of_mem _ (List.mem_cons_of_mem _ hw))) xg_ise hU hN hS (hL.1.trans hml.symm) d0 d3 d4 d6 d9 (fun x hx => by rw [het] at hx; cases hx)
    (by show 2 + 3 < d; omega) (by show _ + (13 * (2 + 1) + 43) ≤ 42 * d; omega) (Nat.le_refl 1) (Nat.le_refl 6) hlk
    (fun t hv hz hq => ⟨rfl, xH.grow hno hH hq, Nat.le_trans hS.1 hz, fun q h1 h2 => (hq q (Nat.lt_of_lt_of_le h1 hS.1)).trans (hS.2.1 q h1 h2)⟩) hS.2.2 (Nat.le_refl 1) (Nat.le_refl 6)
theorem xt_isew {tx : String} (d0 : decode cc pc = .ok (.new 242, 3)) (d3 : decode cc (pc + 3) = .ok (.dup, 1)) (d4 : decode cc (pc + 4) = .ok (.ldc_w is, 3)) (d6 : decode cc (pc + 7) = .ok (.invokespecial 246, 3)) (d9 : decode cc (pc + 10) = .ok (.athrow, 1)) (hw : (is, tx) ∈ xMs) (hy : yy.cls = RX7) (hno : ∀ a, kc Y a ≠ 9) (hd : 7 ≤ d) (hW : (st.map fun v => v.category).sum ≤ 8) :
    Ex G yy cc nL ret (xR d 1 6) (.inr "java/lang/IllegalStateException") Y N 0 0 pc L st Y N := by
  intro p l e s m args below meth c H locs ls C hH hS hL
  obtain ⟨hx, hl, hb, hml, hown, -, -, hlk, het, hts, hK, hC, hB⟩ := C
  obtain ⟨sa, hstr⟩ := hC.2.2.1 (is, tx) hw
  obtain ⟨-, -, -, hU, hN, -, -, hD, hE, -⟩ := hC
  have hall : ∀ w ∈ (Cond.classLink RX7 242 "java/lang/IllegalStateException" :: Cond.initialized "java/lang/IllegalStateException" :: vx_atS RX7 246 "java/lang/IllegalStateException" ["java/lang/RuntimeException", "java/lang/Exception"]), w.before args s = true := vx_hat (fun w hw => hts w (xw_ise w hw)) xv_ise (fun w hw => by
    rcases List.mem_append.mp hw with h | h
    · obtain ⟨x, hx9, rfl⟩ := List.mem_map.mp h
      exact va_Nw.use rfl (hD x hx9)
    · obtain ⟨x, hx9, rfl⟩ := List.mem_map.mp h
      exact va_Nw.use rfl (hE x hx9))
  rw [hy] at hown
  exact vx_throwSW hx hb hl hown (by decide) (by decide) (hall _ List.mem_cons_self) (hall _ (List.mem_cons_of_mem _ List.mem_cons_self)) hstr (fun w hw => hall w (List.mem_cons_of_mem _ (List.mem_cons_of_mem _ hw))) xg_ise hU hN hS (hL.1.trans hml.symm) d0 d3 d4 d6 d9 (fun x hx => by rw [het] at hx; cases hx)
    (by show 2 + 3 < d; omega) (by show _ + (13 * (2 + 1) + 43) ≤ 42 * d; omega) (Nat.le_refl 1) (Nat.le_refl 6) hlk
    (fun t hv hz hq => ⟨rfl, xH.grow hno hH hq, Nat.le_trans hS.1 hz, fun q h1 h2 => (hq q (Nat.lt_of_lt_of_le h1 hS.1)).trans (hS.2.1 q h1 h2)⟩) hS.2.2 (Nat.le_refl 1) (Nat.le_refl 6)
end XSR
