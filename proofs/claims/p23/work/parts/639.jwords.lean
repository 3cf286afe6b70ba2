theorem hp_J9_max_7cf53 : HP yJ9_max_7cf53 2 := by decide +kernel
theorem hp_J9_max_f86c9 : HP yJ9_max_f86c9 2 := by decide +kernel
theorem hp_J9_min_7cf53 : HP yJ9_min_7cf53 2 := by decide +kernel
theorem hp_J9_min_f86c9 : HP yJ9_min_f86c9 2 := by decide +kernel
theorem hp_J8_newLength_cabcc : HP yJ8_newLength_cabcc 3 := by decide +kernel
theorem hp_J7_checkLength_df160 : HP yJ7_checkLength_df160 2 := by decide +kernel
theorem hp_J7_copyOf_9075b : HP yJ7_copyOf_9075b 2 := by decide +kernel
theorem hp_J7_copyOfRangeByte_39247 : HP yJ7_copyOfRangeByte_39247 3 := by decide +kernel
theorem hp_J7_copyOfRange_39247 : HP yJ7_copyOfRange_39247 3 := by decide +kernel
theorem hp_J6_stringSize_0f7a4 : HP yJ6_stringSize_0f7a4 1 := by decide +kernel
theorem hp_J6_getChars_ba4f3 : HP yJ6_getChars_ba4f3 3 := by decide +kernel
theorem hp_J5_init_d00df : HP yJ5_init_d00df 1 := by decide +kernel
theorem hp_J5_isLatin1_aae02 : HP yJ5_isLatin1_aae02 0 := by decide +kernel
theorem hp_J5_newCapacity_0f7a4 : HP yJ5_newCapacity_0f7a4 1 := by decide +kernel
theorem hp_J5_ensureCapacityInternal_d00df : HP yJ5_ensureCapacityInternal_d00df 1 := by decide +kernel
theorem hp_J5_inflateIfNeededFor_a7421 : HP yJ5_inflateIfNeededFor_a7421 1 := by decide +kernel
theorem hp_J0_getBytes_840e7 : HP yJ0_getBytes_840e7 3 := by decide +kernel
theorem hp_J5_putStringAt_47b60 : HP yJ5_putStringAt_47b60 2 := by decide +kernel
theorem hp_J5_append_cf1ce : HP yJ5_append_cf1ce 1 := by decide +kernel
theorem hp_J5_append_c97b9 : HP yJ5_append_c97b9 1 := by decide +kernel
theorem hp_J5_getValue_6d5f1 : HP yJ5_getValue_6d5f1 0 := by decide +kernel
theorem hp_J5_length_8abf5 : HP yJ5_length_8abf5 0 := by decide +kernel
theorem hp_J4_length_8abf5 : HP yJ4_length_8abf5 0 := by decide +kernel
theorem hp_J0_init_db425 : HP yJ0_init_db425 2 := by decide +kernel
theorem hp_J0_init_81219 : HP yJ0_init_81219 1 := by decide +kernel
theorem hp_J4_init_da8c8 : HP yJ4_init_da8c8 0 := by decide +kernel
theorem hp_J4_append_15ec4 : HP yJ4_append_15ec4 1 := by decide +kernel
theorem hp_J4_append_bf812 : HP yJ4_append_bf812 1 := by decide +kernel
theorem hp_J4_toString_0e30d : HP yJ4_toString_0e30d 0 := by decide +kernel
theorem hp_X10_init : HP yX10_init 1 := by decide +kernel
theorem hp_X10_below : HP yX10_below 1 := by decide +kernel
theorem hp_X9_init : HP yX9_init 0 := by decide +kernel
theorem hp_X9_random : HP yX9_random 2 := by decide +kernel
theorem hp_X9_text : HP yX9_text 1 := by decide +kernel
theorem hp_X9_value : HP yX9_value 1 := by decide +kernel
theorem hp_L_with : HP yL_with 2 := by decide +kernel
theorem hp_L_copied : HP yL_copied 1 := by decide +kernel
theorem hp_L_placeIn : HP yL_placeIn 2 := by decide +kernel
theorem hp_L_extended : HP yL_extended 2 := by decide +kernel
theorem hp_L_without : HP yL_without 2 := by decide +kernel
theorem hp_X8_init : HP yX8_init 0 := by decide +kernel
theorem hp_X8_copy : HP yX8_copy 0 := by decide +kernel
theorem hp_X8_held : HP yX8_held 1 := by decide +kernel
theorem hp_X8_assign : HP yX8_assign 1 := by decide +kernel
theorem hp_X8_raised : HP yX8_raised 1 := by decide +kernel
theorem hp_X8_raises : HP yX8_raises 1 := by decide +kernel
theorem hp_X8_pays : HP yX8_pays 2 := by decide +kernel
theorem hp_X8_tick : HP yX8_tick 0 := by decide +kernel
theorem hp_X8_lease : HP yX8_lease 2 := by decide +kernel
theorem hp_X8_release : HP yX8_release 2 := by decide +kernel
theorem hp_X8_count : HP yX8_count 1 := by decide +kernel
theorem hp_X8_told : HP yX8_told 1 := by decide +kernel
theorem hp_X8_ofHandler : HP yX8_ofHandler 2 := by decide +kernel
theorem hp_X8_ofLine : HP yX8_ofLine 2 := by decide +kernel
theorem hp_X8_checksum : HP yX8_checksum 0 := by decide +kernel
theorem hp_L_flush : HP yL_flush 2 := by decide +kernel
theorem hp_L_put : HP yL_put 3 := by decide +kernel
theorem hp_L_write : HP yL_write 3 := by decide +kernel
theorem hp_L_writeNumber : HP yL_writeNumber 3 := by decide +kernel
theorem hp_L_writeNumbers : HP yL_writeNumbers 4 := by decide +kernel
theorem hp_L_agrees : HP yL_agrees 2 := by decide +kernel
theorem hp_L_loadText : HP yL_loadText 2 := by decide +kernel
theorem hp_L_randomDesk : HP yL_randomDesk 3 := by decide +kernel
theorem mc_J7_310 : Cond.methodLink RJ7 310 ⟨"[B", "clone", "()Ljava/lang/Object;"⟩ ∈ UW := xu_mem (List.mem_of_getElem? (i := 1150) (by decide +kernel)) (by decide +kernel)
theorem ml_J7_150 : Cond.methodLink RJ7 150 arraycopyName ∈ UW := xu_mem (List.mem_of_getElem? (i := 1156) (by decide +kernel)) (by decide +kernel)
theorem fs_J6_83 : Cond.fieldLink RJ6 83 "java/lang/Integer" "DigitOnes" "[B" ∈ UW := xu_mem (List.mem_of_getElem? (i := 1227) (by decide +kernel)) (by decide +kernel)
theorem fs_J6_87 : Cond.fieldLink RJ6 87 "java/lang/Integer" "DigitTens" "[B" ∈ UW := xu_mem (List.mem_of_getElem? (i := 1229) (by decide +kernel)) (by decide +kernel)
theorem fs_J5_18 : Cond.fieldLink RJ5 18 "java/lang/String" "COMPACT_STRINGS" "Z" ∈ UW := xu_mem (List.mem_of_getElem? (i := 1095) (by decide +kernel)) (by decide +kernel)
abbrev yx_J5_104 : MethodName := ⟨RJ5, "newCapacity", "(I)I"⟩
theorem mu_J5_104 : Cond.methodLink RJ5 104 yx_J5_104 ∈ UW := xu_mem (List.mem_of_getElem? (i := 1132) (by decide +kernel)) (by decide +kernel)
theorem su_J5_104 : Cond.sameMethod yx_J5_104.cls RJ5 yx_J5_104.name yx_J5_104.desc ∈ UW := xu_mem (List.mem_of_getElem? (i := 1429) (by decide +kernel)) (by decide +kernel)
theorem du_J5_104 : Cond.instanceMethod ⟨RJ5, yx_J5_104.name, yx_J5_104.desc⟩ ∈ UW := xu_mem (List.mem_of_getElem? (i := 1134) (by decide +kernel)) (by decide +kernel)
theorem dc_J5_104 : Cond.code ⟨RJ5, yx_J5_104.name, yx_J5_104.desc⟩ prog_15_method_10_code 6 (some .int) ∈ UW := xu_mem (List.mem_of_getElem? (i := 1135) (by decide +kernel)) (by decide +kernel)
theorem sq_J5_104 : Cond.selects RJ4 yJ5_newCapacity_0f7a4 yJ5_newCapacity_0f7a4 ∈ UW := xu_sb (by simp [xSB]) (by decide +kernel)
theorem se_J5_104 (args : Array Value) (s : State) (hts : ∀ w ∈ UW, w.before args s = true) : (Cond.selects RJ4 yx_J5_104 yJ5_newCapacity_0f7a4).before args s = true := hts _ sq_J5_104
theorem hu_J5_104 : RJ5 ≠ "java/lang/invoke/MethodHandle" ∧ RJ5 ≠ "java/lang/invoke/VarHandle" ∧ (parseMethodDescriptor yx_J5_104.desc).map (fun d => d.parameters.length) = some 1 := by decide +kernel
theorem fs_J0_38 : Cond.fieldLink RJ0 38 "java/lang/String" "COMPACT_STRINGS" "Z" ∈ UW := xu_mem (List.mem_of_getElem? (i := 645) (by decide +kernel)) (by decide +kernel)
theorem ml_J0_212 : Cond.methodLink RJ0 212 arraycopyName ∈ UW := xu_mem (List.mem_of_getElem? (i := 1212) (by decide +kernel)) (by decide +kernel)
abbrev yx_J5_397 : MethodName := ⟨RJ5, "inflateIfNeededFor", "(Ljava/lang/String;)V"⟩
theorem mu_J5_397 : Cond.methodLink RJ5 397 yx_J5_397 ∈ UW := xu_mem (List.mem_of_getElem? (i := 1184) (by decide +kernel)) (by decide +kernel)
theorem su_J5_397 : Cond.sameMethod yx_J5_397.cls RJ5 yx_J5_397.name yx_J5_397.desc ∈ UW := xu_mem (List.mem_of_getElem? (i := 1431) (by decide +kernel)) (by decide +kernel)
theorem du_J5_397 : Cond.instanceMethod ⟨RJ5, yx_J5_397.name, yx_J5_397.desc⟩ ∈ UW := xu_mem (List.mem_of_getElem? (i := 1186) (by decide +kernel)) (by decide +kernel)
theorem dc_J5_397 : Cond.code ⟨RJ5, yx_J5_397.name, yx_J5_397.desc⟩ prog_15_method_71_code 2 none ∈ UW := xu_mem (List.mem_of_getElem? (i := 1187) (by decide +kernel)) (by decide +kernel)
theorem sq_J5_397 : Cond.selects RJ4 yJ5_inflateIfNeededFor_a7421 yJ5_inflateIfNeededFor_a7421 ∈ UW := xu_sb (by simp [xSB]) (by decide +kernel)
theorem se_J5_397 (args : Array Value) (s : State) (hts : ∀ w ∈ UW, w.before args s = true) : (Cond.selects RJ4 yx_J5_397 yJ5_inflateIfNeededFor_a7421).before args s = true := hts _ sq_J5_397
theorem hu_J5_397 : RJ5 ≠ "java/lang/invoke/MethodHandle" ∧ RJ5 ≠ "java/lang/invoke/VarHandle" ∧ (parseMethodDescriptor yx_J5_397.desc).map (fun d => d.parameters.length) = some 1 := by decide +kernel
abbrev yx_J5_100 : MethodName := ⟨RJ5, "ensureCapacityInternal", "(I)V"⟩
theorem mu_J5_100 : Cond.methodLink RJ5 100 yx_J5_100 ∈ UW := xu_mem (List.mem_of_getElem? (i := 1128) (by decide +kernel)) (by decide +kernel)
theorem su_J5_100 : Cond.sameMethod yx_J5_100.cls RJ5 yx_J5_100.name yx_J5_100.desc ∈ UW := xu_mem (List.mem_of_getElem? (i := 1428) (by decide +kernel)) (by decide +kernel)
theorem du_J5_100 : Cond.instanceMethod ⟨RJ5, yx_J5_100.name, yx_J5_100.desc⟩ ∈ UW := xu_mem (List.mem_of_getElem? (i := 1130) (by decide +kernel)) (by decide +kernel)
theorem dc_J5_100 : Cond.code ⟨RJ5, yx_J5_100.name, yx_J5_100.desc⟩ prog_15_method_9_code 3 none ∈ UW := xu_mem (List.mem_of_getElem? (i := 1131) (by decide +kernel)) (by decide +kernel)
theorem sq_J5_100 : Cond.selects RJ4 yJ5_ensureCapacityInternal_d00df yJ5_ensureCapacityInternal_d00df ∈ UW := xu_sb (by simp [xSB]) (by decide +kernel)
theorem se_J5_100 (args : Array Value) (s : State) (hts : ∀ w ∈ UW, w.before args s = true) : (Cond.selects RJ4 yx_J5_100 yJ5_ensureCapacityInternal_d00df).before args s = true := hts _ sq_J5_100
theorem hu_J5_100 : RJ5 ≠ "java/lang/invoke/MethodHandle" ∧ RJ5 ≠ "java/lang/invoke/VarHandle" ∧ (parseMethodDescriptor yx_J5_100.desc).map (fun d => d.parameters.length) = some 1 := by decide +kernel
abbrev yx_J5_208 : MethodName := ⟨RJ5, "putStringAt", "(ILjava/lang/String;)V"⟩
theorem mu_J5_208 : Cond.methodLink RJ5 208 yx_J5_208 ∈ UW := xu_mem (List.mem_of_getElem? (i := 1180) (by decide +kernel)) (by decide +kernel)
theorem su_J5_208 : Cond.sameMethod yx_J5_208.cls RJ5 yx_J5_208.name yx_J5_208.desc ∈ UW := xu_mem (List.mem_of_getElem? (i := 1430) (by decide +kernel)) (by decide +kernel)
theorem du_J5_208 : Cond.instanceMethod ⟨RJ5, yx_J5_208.name, yx_J5_208.desc⟩ ∈ UW := xu_mem (List.mem_of_getElem? (i := 1182) (by decide +kernel)) (by decide +kernel)
theorem dc_J5_208 : Cond.code ⟨RJ5, yx_J5_208.name, yx_J5_208.desc⟩ prog_15_method_73_code 3 none ∈ UW := xu_mem (List.mem_of_getElem? (i := 1183) (by decide +kernel)) (by decide +kernel)
theorem sq_J5_208 : Cond.selects RJ4 yJ5_putStringAt_47b60 yJ5_putStringAt_47b60 ∈ UW := xu_sb (by simp [xSB]) (by decide +kernel)
theorem se_J5_208 (args : Array Value) (s : State) (hts : ∀ w ∈ UW, w.before args s = true) : (Cond.selects RJ4 yx_J5_208 yJ5_putStringAt_47b60).before args s = true := hts _ sq_J5_208
theorem hu_J5_208 : RJ5 ≠ "java/lang/invoke/MethodHandle" ∧ RJ5 ≠ "java/lang/invoke/VarHandle" ∧ (parseMethodDescriptor yx_J5_208.desc).map (fun d => d.parameters.length) = some 2 := by decide +kernel
abbrev yx_J5_83 : MethodName := ⟨RJ5, "isLatin1", "()Z"⟩
theorem mu_J5_83 : Cond.methodLink RJ5 83 yx_J5_83 ∈ UW := xu_mem (List.mem_of_getElem? (i := 1159) (by decide +kernel)) (by decide +kernel)
theorem su_J5_83 : Cond.sameMethod yx_J5_83.cls RJ5 yx_J5_83.name yx_J5_83.desc ∈ UW := xu_mem (List.mem_of_getElem? (i := 1161) (by decide +kernel)) (by decide +kernel)
theorem du_J5_83 : Cond.instanceMethod ⟨RJ5, yx_J5_83.name, yx_J5_83.desc⟩ ∈ UW := xu_mem (List.mem_of_getElem? (i := 1160) (by decide +kernel)) (by decide +kernel)
theorem dc_J5_83 : Cond.code ⟨RJ5, yx_J5_83.name, yx_J5_83.desc⟩ prog_15_method_68_code 1 (some .boolean) ∈ UW := xu_mem (List.mem_of_getElem? (i := 1163) (by decide +kernel)) (by decide +kernel)
theorem sq_J5_83 : Cond.selects RJ4 yx_J5_83 yJ5_isLatin1_aae02 ∈ UW := xu_mem (List.mem_of_getElem? (i := 1162) (by decide +kernel)) (by decide +kernel)
theorem se_J5_83 (args : Array Value) (s : State) (hts : ∀ w ∈ UW, w.before args s = true) : (Cond.selects RJ4 yx_J5_83 yJ5_isLatin1_aae02).before args s = true := hts _ sq_J5_83
theorem hu_J5_83 : RJ5 ≠ "java/lang/invoke/MethodHandle" ∧ RJ5 ≠ "java/lang/invoke/VarHandle" ∧ (parseMethodDescriptor yx_J5_83.desc).map (fun d => d.parameters.length) = some 0 := by decide +kernel
theorem ga_J4_343 : Cond.methodLink RJ4 343 yJ5_length_8abf5 ∈ UW := xu_mem (List.mem_of_getElem? (i := 1263) (by decide +kernel)) (by decide +kernel)
theorem gb_J4_343 : Cond.sameMethod yJ5_length_8abf5.cls yJ5_length_8abf5.cls yJ5_length_8abf5.name yJ5_length_8abf5.desc ∈ UW := xu_mem (List.mem_of_getElem? (i := 1259) (by decide +kernel)) (by decide +kernel)
theorem gc_J4_343 : Cond.superclass RJ4 yJ5_length_8abf5.cls ∈ UW := xu_mem (List.mem_of_getElem? (i := 1115) (by decide +kernel)) (by decide +kernel)
theorem gd_J4_343 : Cond.instanceMethod yJ5_length_8abf5 ∈ UW := xu_mem (List.mem_of_getElem? (i := 1258) (by decide +kernel)) (by decide +kernel)
theorem ge_J4_343 : Cond.initialized yJ5_length_8abf5.cls ∈ UW := xu_mem (List.mem_of_getElem? (i := 50) (by decide +kernel)) (by decide +kernel)
theorem gsu_J4_343 : GoodIn UW (va_wsSU RJ4 343 yJ5_length_8abf5 (Cond.code yJ5_length_8abf5 cJ5_length_8abf5 1 (some .int) :: UW)) := by
  intro w hw
  unfold va_wsSU at hw
  rcases List.mem_append.mp hw with h | h
  · simp only [List.mem_cons, List.not_mem_nil, or_false] at h
    rcases h with rfl | rfl | rfl | rfl | rfl
    · exact ⟨ga_J4_343, good_of_word (List.mem_filter.mp ga_J4_343).2⟩
    · exact ⟨gb_J4_343, good_of_word (List.mem_filter.mp gb_J4_343).2⟩
    · exact ⟨gc_J4_343, good_of_word (List.mem_filter.mp gc_J4_343).2⟩
    · exact ⟨gd_J4_343, good_of_word (List.mem_filter.mp gd_J4_343).2⟩
    · exact ⟨ge_J4_343, good_of_word (List.mem_filter.mp ge_J4_343).2⟩
  · exact xu_good _ _ _ _ wc_J5_length_8abf5 w h
abbrev yx_J0_552 : MethodName := ⟨RJ5, "getValue", "()[B"⟩
theorem mu_J0_552 : Cond.methodLink RJ0 552 yx_J0_552 ∈ UW := xu_mem (List.mem_of_getElem? (i := 1252) (by decide +kernel)) (by decide +kernel)
theorem su_J0_552 : Cond.sameMethod yx_J0_552.cls RJ5 yx_J0_552.name yx_J0_552.desc ∈ UW := xu_mem (List.mem_of_getElem? (i := 1254) (by decide +kernel)) (by decide +kernel)
theorem du_J0_552 : Cond.instanceMethod ⟨RJ5, yx_J0_552.name, yx_J0_552.desc⟩ ∈ UW := xu_mem (List.mem_of_getElem? (i := 1253) (by decide +kernel)) (by decide +kernel)
theorem dc_J0_552 : Cond.code ⟨RJ5, yx_J0_552.name, yx_J0_552.desc⟩ prog_15_method_64_code 1 (some (.array .byte)) ∈ UW := xu_mem (List.mem_of_getElem? (i := 1256) (by decide +kernel)) (by decide +kernel)
theorem sq_J0_552 : Cond.selects RJ4 yx_J0_552 yJ5_getValue_6d5f1 ∈ UW := xu_mem (List.mem_of_getElem? (i := 1255) (by decide +kernel)) (by decide +kernel)
theorem se_J0_552 (args : Array Value) (s : State) (hts : ∀ w ∈ UW, w.before args s = true) : (Cond.selects RJ4 yx_J0_552 yJ5_getValue_6d5f1).before args s = true := hts _ sq_J0_552
theorem hu_J0_552 : RJ5 ≠ "java/lang/invoke/MethodHandle" ∧ RJ5 ≠ "java/lang/invoke/VarHandle" ∧ (parseMethodDescriptor yx_J0_552.desc).map (fun d => d.parameters.length) = some 0 := by decide +kernel
abbrev yx_J0_549 : MethodName := ⟨RJ5, "length", "()I"⟩
theorem mu_J0_549 : Cond.methodLink RJ0 549 yx_J0_549 ∈ UW := xu_mem (List.mem_of_getElem? (i := 1257) (by decide +kernel)) (by decide +kernel)
theorem su_J0_549 : Cond.sameMethod yx_J0_549.cls RJ5 yx_J0_549.name yx_J0_549.desc ∈ UW := xu_mem (List.mem_of_getElem? (i := 1259) (by decide +kernel)) (by decide +kernel)
theorem du_J0_549 : Cond.instanceMethod ⟨RJ5, yx_J0_549.name, yx_J0_549.desc⟩ ∈ UW := xu_mem (List.mem_of_getElem? (i := 1258) (by decide +kernel)) (by decide +kernel)
theorem dc_J0_549 : Cond.code ⟨RJ5, yx_J0_549.name, yx_J0_549.desc⟩ prog_15_method_6_code 1 (some .int) ∈ UW := xu_mem (List.mem_of_getElem? (i := 1264) (by decide +kernel)) (by decide +kernel)
theorem sq_J0_549 : Cond.selects RJ4 yx_J0_549 yJ4_length_8abf5 ∈ UW := xu_mem (List.mem_of_getElem? (i := 1260) (by decide +kernel)) (by decide +kernel)
theorem se_J0_549 (args : Array Value) (s : State) (hts : ∀ w ∈ UW, w.before args s = true) : (Cond.selects RJ4 yx_J0_549 yJ4_length_8abf5).before args s = true := hts _ sq_J0_549
theorem hu_J0_549 : RJ5 ≠ "java/lang/invoke/MethodHandle" ∧ RJ5 ≠ "java/lang/invoke/VarHandle" ∧ (parseMethodDescriptor yx_J0_549.desc).map (fun d => d.parameters.length) = some 0 := by decide +kernel
abbrev yx_J0_1047 : MethodName := ⟨RJ5, "isLatin1", "()Z"⟩
theorem mu_J0_1047 : Cond.methodLink RJ0 1047 yx_J0_1047 ∈ UW := xu_mem (List.mem_of_getElem? (i := 1265) (by decide +kernel)) (by decide +kernel)
theorem su_J0_1047 : Cond.sameMethod yx_J0_1047.cls RJ5 yx_J0_1047.name yx_J0_1047.desc ∈ UW := xu_mem (List.mem_of_getElem? (i := 1161) (by decide +kernel)) (by decide +kernel)
theorem du_J0_1047 : Cond.instanceMethod ⟨RJ5, yx_J0_1047.name, yx_J0_1047.desc⟩ ∈ UW := xu_mem (List.mem_of_getElem? (i := 1160) (by decide +kernel)) (by decide +kernel)
theorem dc_J0_1047 : Cond.code ⟨RJ5, yx_J0_1047.name, yx_J0_1047.desc⟩ prog_15_method_68_code 1 (some .boolean) ∈ UW := xu_mem (List.mem_of_getElem? (i := 1163) (by decide +kernel)) (by decide +kernel)
theorem sq_J0_1047 : Cond.selects RJ4 yx_J0_1047 yJ5_isLatin1_aae02 ∈ UW := xu_mem (List.mem_of_getElem? (i := 1162) (by decide +kernel)) (by decide +kernel)
theorem se_J0_1047 (args : Array Value) (s : State) (hts : ∀ w ∈ UW, w.before args s = true) : (Cond.selects RJ4 yx_J0_1047 yJ5_isLatin1_aae02).before args s = true := hts _ sq_J0_1047
theorem hu_J0_1047 : RJ5 ≠ "java/lang/invoke/MethodHandle" ∧ RJ5 ≠ "java/lang/invoke/VarHandle" ∧ (parseMethodDescriptor yx_J0_1047.desc).map (fun d => d.parameters.length) = some 0 := by decide +kernel
theorem ga_J4_29 : Cond.methodLink RJ4 29 yJ5_append_cf1ce ∈ UW := xu_mem (List.mem_of_getElem? (i := 1121) (by decide +kernel)) (by decide +kernel)
theorem gb_J4_29 : Cond.sameMethod yJ5_append_cf1ce.cls yJ5_append_cf1ce.cls yJ5_append_cf1ce.name yJ5_append_cf1ce.desc ∈ UW := xu_mem (List.mem_of_getElem? (i := 1426) (by decide +kernel)) (by decide +kernel)
theorem gc_J4_29 : Cond.superclass RJ4 yJ5_append_cf1ce.cls ∈ UW := xu_mem (List.mem_of_getElem? (i := 1115) (by decide +kernel)) (by decide +kernel)
theorem gd_J4_29 : Cond.instanceMethod yJ5_append_cf1ce ∈ UW := xu_mem (List.mem_of_getElem? (i := 1122) (by decide +kernel)) (by decide +kernel)
theorem ge_J4_29 : Cond.initialized yJ5_append_cf1ce.cls ∈ UW := xu_mem (List.mem_of_getElem? (i := 50) (by decide +kernel)) (by decide +kernel)
theorem gsu_J4_29 : GoodIn UW (va_wsSU RJ4 29 yJ5_append_cf1ce (Cond.code yJ5_append_cf1ce cJ5_append_cf1ce 3 (some (.object "java/lang/AbstractStringBuilder")) :: UW)) := by
  intro w hw
  unfold va_wsSU at hw
  rcases List.mem_append.mp hw with h | h
  · simp only [List.mem_cons, List.not_mem_nil, or_false] at h
    rcases h with rfl | rfl | rfl | rfl | rfl
    · exact ⟨ga_J4_29, good_of_word (List.mem_filter.mp ga_J4_29).2⟩
    · exact ⟨gb_J4_29, good_of_word (List.mem_filter.mp gb_J4_29).2⟩
    · exact ⟨gc_J4_29, good_of_word (List.mem_filter.mp gc_J4_29).2⟩
    · exact ⟨gd_J4_29, good_of_word (List.mem_filter.mp gd_J4_29).2⟩
    · exact ⟨ge_J4_29, good_of_word (List.mem_filter.mp ge_J4_29).2⟩
  · exact xu_good _ _ _ _ wc_J5_append_cf1ce w h
theorem ga_J4_53 : Cond.methodLink RJ4 53 yJ5_append_c97b9 ∈ UW := xu_mem (List.mem_of_getElem? (i := 1218) (by decide +kernel)) (by decide +kernel)
theorem gb_J4_53 : Cond.sameMethod yJ5_append_c97b9.cls yJ5_append_c97b9.cls yJ5_append_c97b9.name yJ5_append_c97b9.desc ∈ UW := xu_mem (List.mem_of_getElem? (i := 1433) (by decide +kernel)) (by decide +kernel)
theorem gc_J4_53 : Cond.superclass RJ4 yJ5_append_c97b9.cls ∈ UW := xu_mem (List.mem_of_getElem? (i := 1115) (by decide +kernel)) (by decide +kernel)
theorem gd_J4_53 : Cond.instanceMethod yJ5_append_c97b9 ∈ UW := xu_mem (List.mem_of_getElem? (i := 1219) (by decide +kernel)) (by decide +kernel)
theorem ge_J4_53 : Cond.initialized yJ5_append_c97b9.cls ∈ UW := xu_mem (List.mem_of_getElem? (i := 50) (by decide +kernel)) (by decide +kernel)
theorem gsu_J4_53 : GoodIn UW (va_wsSU RJ4 53 yJ5_append_c97b9 (Cond.code yJ5_append_c97b9 cJ5_append_c97b9 4 (some (.object "java/lang/AbstractStringBuilder")) :: UW)) := by
  intro w hw
  unfold va_wsSU at hw
  rcases List.mem_append.mp hw with h | h
  · simp only [List.mem_cons, List.not_mem_nil, or_false] at h
    rcases h with rfl | rfl | rfl | rfl | rfl
    · exact ⟨ga_J4_53, good_of_word (List.mem_filter.mp ga_J4_53).2⟩
    · exact ⟨gb_J4_53, good_of_word (List.mem_filter.mp gb_J4_53).2⟩
    · exact ⟨gc_J4_53, good_of_word (List.mem_filter.mp gc_J4_53).2⟩
    · exact ⟨gd_J4_53, good_of_word (List.mem_filter.mp gd_J4_53).2⟩
    · exact ⟨ge_J4_53, good_of_word (List.mem_filter.mp ge_J4_53).2⟩
  · exact xu_good _ _ _ _ wc_J5_append_c97b9 w h
theorem mc_L_100 : Cond.methodLink RL 100 ⟨"[I", "clone", "()Ljava/lang/Object;"⟩ ∈ UW := xu_mem (List.mem_of_getElem? (i := 445) (by decide +kernel)) (by decide +kernel)
theorem fs_L_159 : Cond.fieldLink RL 159 "LineLeasesLaw" "NUMBERS" "[Ljava/lang/String;" ∈ UW := xu_mem (List.mem_of_getElem? (i := 1055) (by decide +kernel)) (by decide +kernel)
