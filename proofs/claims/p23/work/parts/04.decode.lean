theorem dX0_init_0 : decode cX0_init 0 = .ok (.aload_n 0, 1) := by decide +kernel
theorem dX0_init_1 : decode cX0_init 1 = .ok (.invokespecial 3, 3) := by decide +kernel
theorem dX0_init_4 : decode cX0_init 4 = .ok (.aload_n 0, 1) := by decide +kernel
theorem dX0_init_5 : decode cX0_init 5 = .ok (.sipush 700, 3) := by decide +kernel
theorem dX0_init_8 : decode cX0_init 8 = .ok (.newarray .int, 2) := by decide +kernel
theorem dX0_init_10 : decode cX0_init 10 = .ok (.putfield 9, 3) := by decide +kernel
theorem dX0_init_13 : decode cX0_init 13 = .ok (.aload_n 0, 1) := by decide +kernel
theorem dX0_init_14 : decode cX0_init 14 = .ok (.bipush 16, 2) := by decide +kernel
theorem dX0_init_16 : decode cX0_init 16 = .ok (.newarray .int, 2) := by decide +kernel
theorem dX0_init_18 : decode cX0_init 18 = .ok (.putfield 15, 3) := by decide +kernel
theorem dX0_init_21 : decode cX0_init 21 = .ok (.return_, 1) := by decide +kernel
theorem dX0_copyOf_0 : decode cX0_copyOf 0 = .ok (.aload_n 0, 1) := by decide +kernel
theorem dX0_copyOf_1 : decode cX0_copyOf 1 = .ok (.aload_n 1, 1) := by decide +kernel
theorem dX0_copyOf_2 : decode cX0_copyOf 2 = .ok (.getfield 18, 3) := by decide +kernel
theorem dX0_copyOf_5 : decode cX0_copyOf 5 = .ok (.putfield 18, 3) := by decide +kernel
theorem dX0_copyOf_8 : decode cX0_copyOf 8 = .ok (.iconst 0, 1) := by decide +kernel
theorem dX0_copyOf_9 : decode cX0_copyOf 9 = .ok (.istore_n 2, 1) := by decide +kernel
theorem dX0_copyOf_10 : decode cX0_copyOf 10 = .ok (.iload_n 2, 1) := by decide +kernel
theorem dX0_copyOf_11 : decode cX0_copyOf 11 = .ok (.aload_n 0, 1) := by decide +kernel
theorem dX0_copyOf_12 : decode cX0_copyOf 12 = .ok (.getfield 18, 3) := by decide +kernel
theorem dX0_copyOf_15 : decode cX0_copyOf 15 = .ok (.if_icmp .ge 21, 3) := by decide +kernel
theorem dX0_copyOf_18 : decode cX0_copyOf 18 = .ok (.aload_n 0, 1) := by decide +kernel
theorem dX0_copyOf_19 : decode cX0_copyOf 19 = .ok (.getfield 9, 3) := by decide +kernel
theorem dX0_copyOf_22 : decode cX0_copyOf 22 = .ok (.iload_n 2, 1) := by decide +kernel
theorem dX0_copyOf_23 : decode cX0_copyOf 23 = .ok (.aload_n 1, 1) := by decide +kernel
theorem dX0_copyOf_24 : decode cX0_copyOf 24 = .ok (.getfield 9, 3) := by decide +kernel
theorem dX0_copyOf_27 : decode cX0_copyOf 27 = .ok (.iload_n 2, 1) := by decide +kernel
theorem dX0_copyOf_28 : decode cX0_copyOf 28 = .ok (.iaload, 1) := by decide +kernel
theorem dX0_copyOf_29 : decode cX0_copyOf 29 = .ok (.iastore, 1) := by decide +kernel
theorem dX0_copyOf_30 : decode cX0_copyOf 30 = .ok (.iinc 2 1, 3) := by decide +kernel
theorem dX0_copyOf_33 : decode cX0_copyOf 33 = .ok (.goto (-23), 3) := by decide +kernel
theorem dX0_copyOf_36 : decode cX0_copyOf 36 = .ok (.return_, 1) := by decide +kernel
theorem dX0_addStep_0 : decode cX0_addStep 0 = .ok (.aload_n 0, 1) := by decide +kernel
theorem dX0_addStep_1 : decode cX0_addStep 1 = .ok (.getfield 18, 3) := by decide +kernel
theorem dX0_addStep_4 : decode cX0_addStep 4 = .ok (.aload_n 0, 1) := by decide +kernel
theorem dX0_addStep_5 : decode cX0_addStep 5 = .ok (.getfield 9, 3) := by decide +kernel
theorem dX0_addStep_8 : decode cX0_addStep 8 = .ok (.arraylength, 1) := by decide +kernel
theorem dX0_addStep_9 : decode cX0_addStep 9 = .ok (.if_icmp .ge 23, 3) := by decide +kernel
theorem dX0_addStep_12 : decode cX0_addStep 12 = .ok (.aload_n 0, 1) := by decide +kernel
theorem dX0_addStep_13 : decode cX0_addStep 13 = .ok (.getfield 9, 3) := by decide +kernel
theorem dX0_addStep_16 : decode cX0_addStep 16 = .ok (.aload_n 0, 1) := by decide +kernel
theorem dX0_addStep_17 : decode cX0_addStep 17 = .ok (.getfield 18, 3) := by decide +kernel
theorem dX0_addStep_20 : decode cX0_addStep 20 = .ok (.iload_n 1, 1) := by decide +kernel
theorem dX0_addStep_21 : decode cX0_addStep 21 = .ok (.iastore, 1) := by decide +kernel
theorem dX0_addStep_22 : decode cX0_addStep 22 = .ok (.aload_n 0, 1) := by decide +kernel
theorem dX0_addStep_23 : decode cX0_addStep 23 = .ok (.dup, 1) := by decide +kernel
theorem dX0_addStep_24 : decode cX0_addStep 24 = .ok (.getfield 18, 3) := by decide +kernel
theorem dX0_addStep_27 : decode cX0_addStep 27 = .ok (.iconst 1, 1) := by decide +kernel
theorem dX0_addStep_28 : decode cX0_addStep 28 = .ok (.iadd, 1) := by decide +kernel
theorem dX0_addStep_29 : decode cX0_addStep 29 = .ok (.putfield 18, 3) := by decide +kernel
theorem dX0_addStep_32 : decode cX0_addStep 32 = .ok (.return_, 1) := by decide +kernel
theorem dX0_value_0 : decode cX0_value 0 = .ok (.iconst 0, 1) := by decide +kernel
theorem dX0_value_1 : decode cX0_value 1 = .ok (.istore 5, 2) := by decide +kernel
theorem dX0_value_3 : decode cX0_value 3 = .ok (.iconst 0, 1) := by decide +kernel
theorem dX0_value_4 : decode cX0_value 4 = .ok (.istore 6, 2) := by decide +kernel
theorem dX0_value_6 : decode cX0_value 6 = .ok (.iload 6, 2) := by decide +kernel
theorem dX0_value_8 : decode cX0_value 8 = .ok (.aload_n 0, 1) := by decide +kernel
theorem dX0_value_9 : decode cX0_value 9 = .ok (.getfield 18, 3) := by decide +kernel
theorem dX0_value_12 : decode cX0_value 12 = .ok (.if_icmp .ge 152, 3) := by decide +kernel
theorem dX0_value_15 : decode cX0_value 15 = .ok (.aload_n 0, 1) := by decide +kernel
theorem dX0_value_16 : decode cX0_value 16 = .ok (.getfield 9, 3) := by decide +kernel
theorem dX0_value_19 : decode cX0_value 19 = .ok (.iload 6, 2) := by decide +kernel
theorem dX0_value_21 : decode cX0_value 21 = .ok (.iaload, 1) := by decide +kernel
theorem dX0_value_22 : decode cX0_value 22 = .ok (.istore 7, 2) := by decide +kernel
theorem dX0_value_24 : decode cX0_value 24 = .ok (.iload 7, 2) := by decide +kernel
theorem dX0_value_26 : decode cX0_value 26 = .ok (.bipush (-6), 2) := by decide +kernel
theorem dX0_value_28 : decode cX0_value 28 = .ok (.if_icmp .gt 65, 3) := by decide +kernel
theorem dX0_value_31 : decode cX0_value 31 = .ok (.iload 7, 2) := by decide +kernel
theorem dX0_value_33 : decode cX0_value 33 = .ok (.bipush (-9), 2) := by decide +kernel
theorem dX0_value_35 : decode cX0_value 35 = .ok (.if_icmp .lt 58, 3) := by decide +kernel
theorem dX0_value_38 : decode cX0_value 38 = .ok (.iload 5, 2) := by decide +kernel
theorem dX0_value_40 : decode cX0_value 40 = .ok (.iconst 2, 1) := by decide +kernel
theorem dX0_value_41 : decode cX0_value 41 = .ok (.if_icmp .lt 117, 3) := by decide +kernel
theorem dX0_value_44 : decode cX0_value 44 = .ok (.iload 5, 2) := by decide +kernel
theorem dX0_value_46 : decode cX0_value 46 = .ok (.aload_n 0, 1) := by decide +kernel
theorem dX0_value_47 : decode cX0_value 47 = .ok (.getfield 15, 3) := by decide +kernel
theorem dX0_value_50 : decode cX0_value 50 = .ok (.arraylength, 1) := by decide +kernel
theorem dX0_value_51 : decode cX0_value 51 = .ok (.if_icmp .gt 107, 3) := by decide +kernel
theorem dX0_value_54 : decode cX0_value 54 = .ok (.aload_n 0, 1) := by decide +kernel
theorem dX0_value_55 : decode cX0_value 55 = .ok (.getfield 15, 3) := by decide +kernel
theorem dX0_value_58 : decode cX0_value 58 = .ok (.iload 5, 2) := by decide +kernel
theorem dX0_value_60 : decode cX0_value 60 = .ok (.iconst 2, 1) := by decide +kernel
theorem dX0_value_61 : decode cX0_value 61 = .ok (.isub, 1) := by decide +kernel
theorem dX0_value_62 : decode cX0_value 62 = .ok (.iload 7, 2) := by decide +kernel
theorem dX0_value_64 : decode cX0_value 64 = .ok (.ineg, 1) := by decide +kernel
theorem dX0_value_65 : decode cX0_value 65 = .ok (.aload_n 0, 1) := by decide +kernel
theorem dX0_value_66 : decode cX0_value 66 = .ok (.getfield 15, 3) := by decide +kernel
theorem dX0_value_69 : decode cX0_value 69 = .ok (.iload 5, 2) := by decide +kernel
theorem dX0_value_71 : decode cX0_value 71 = .ok (.iconst 2, 1) := by decide +kernel
theorem dX0_value_72 : decode cX0_value 72 = .ok (.isub, 1) := by decide +kernel
theorem dX0_value_73 : decode cX0_value 73 = .ok (.iaload, 1) := by decide +kernel
theorem dX0_value_74 : decode cX0_value 74 = .ok (.aload_n 0, 1) := by decide +kernel
theorem dX0_value_75 : decode cX0_value 75 = .ok (.getfield 15, 3) := by decide +kernel
theorem dX0_value_78 : decode cX0_value 78 = .ok (.iload 5, 2) := by decide +kernel
theorem dX0_value_80 : decode cX0_value 80 = .ok (.iconst 1, 1) := by decide +kernel
theorem dX0_value_81 : decode cX0_value 81 = .ok (.isub, 1) := by decide +kernel
theorem dX0_value_82 : decode cX0_value 82 = .ok (.iaload, 1) := by decide +kernel
theorem dX0_value_83 : decode cX0_value 83 = .ok (.invokestatic 22, 3) := by decide +kernel
theorem dX0_value_86 : decode cX0_value 86 = .ok (.iastore, 1) := by decide +kernel
theorem dX0_value_87 : decode cX0_value 87 = .ok (.iinc 5 (-1), 3) := by decide +kernel
theorem dX0_value_90 : decode cX0_value 90 = .ok (.goto 68, 3) := by decide +kernel
theorem dX0_value_93 : decode cX0_value 93 = .ok (.iload 5, 2) := by decide +kernel
theorem dX0_value_95 : decode cX0_value 95 = .ok (.aload_n 0, 1) := by decide +kernel
theorem dX0_value_96 : decode cX0_value 96 = .ok (.getfield 15, 3) := by decide +kernel
theorem dX0_value_99 : decode cX0_value 99 = .ok (.arraylength, 1) := by decide +kernel
theorem dX0_value_100 : decode cX0_value 100 = .ok (.if_icmp .ge 58, 3) := by decide +kernel
theorem dX0_value_103 : decode cX0_value 103 = .ok (.aload_n 0, 1) := by decide +kernel
theorem dX0_value_104 : decode cX0_value 104 = .ok (.getfield 15, 3) := by decide +kernel
theorem dX0_value_107 : decode cX0_value 107 = .ok (.iload 5, 2) := by decide +kernel
theorem dX0_value_109 : decode cX0_value 109 = .ok (.iload 7, 2) := by decide +kernel
theorem dX0_value_111 : decode cX0_value 111 = .ok (.ifCond .lt 8, 3) := by decide +kernel
theorem dX0_value_114 : decode cX0_value 114 = .ok (.iload 7, 2) := by decide +kernel
theorem dX0_value_116 : decode cX0_value 116 = .ok (.goto 38, 3) := by decide +kernel
theorem dX0_value_119 : decode cX0_value 119 = .ok (.iload 7, 2) := by decide +kernel
theorem dX0_value_121 : decode cX0_value 121 = .ok (.bipush (-12), 2) := by decide +kernel
theorem dX0_value_123 : decode cX0_value 123 = .ok (.if_icmp .ne 7, 3) := by decide +kernel
theorem dX0_value_126 : decode cX0_value 126 = .ok (.iload_n 1, 1) := by decide +kernel
theorem dX0_value_127 : decode cX0_value 127 = .ok (.goto 27, 3) := by decide +kernel
theorem dX0_value_130 : decode cX0_value 130 = .ok (.iload 7, 2) := by decide +kernel
theorem dX0_value_132 : decode cX0_value 132 = .ok (.bipush (-20), 2) := by decide +kernel
theorem dX0_value_134 : decode cX0_value 134 = .ok (.if_icmp .ne 7, 3) := by decide +kernel
theorem dX0_value_137 : decode cX0_value 137 = .ok (.iload_n 2, 1) := by decide +kernel
theorem dX0_value_138 : decode cX0_value 138 = .ok (.goto 16, 3) := by decide +kernel
theorem dX0_value_141 : decode cX0_value 141 = .ok (.iload 7, 2) := by decide +kernel
theorem dX0_value_143 : decode cX0_value 143 = .ok (.bipush (-21), 2) := by decide +kernel
theorem dX0_value_145 : decode cX0_value 145 = .ok (.if_icmp .ne 7, 3) := by decide +kernel
theorem dX0_value_148 : decode cX0_value 148 = .ok (.iload_n 3, 1) := by decide +kernel
theorem dX0_value_149 : decode cX0_value 149 = .ok (.goto 5, 3) := by decide +kernel
theorem dX0_value_152 : decode cX0_value 152 = .ok (.iload 4, 2) := by decide +kernel
theorem dX0_value_154 : decode cX0_value 154 = .ok (.iastore, 1) := by decide +kernel
theorem dX0_value_155 : decode cX0_value 155 = .ok (.iinc 5 1, 3) := by decide +kernel
theorem dX0_value_158 : decode cX0_value 158 = .ok (.iinc 6 1, 3) := by decide +kernel
theorem dX0_value_161 : decode cX0_value 161 = .ok (.goto (-155), 3) := by decide +kernel
theorem dX0_value_164 : decode cX0_value 164 = .ok (.aload_n 0, 1) := by decide +kernel
theorem dX0_value_165 : decode cX0_value 165 = .ok (.getfield 18, 3) := by decide +kernel
theorem dX0_value_168 : decode cX0_value 168 = .ok (.ifCond .ne 7, 3) := by decide +kernel
theorem dX0_value_171 : decode cX0_value 171 = .ok (.iload_n 2, 1) := by decide +kernel
theorem dX0_value_172 : decode cX0_value 172 = .ok (.goto 9, 3) := by decide +kernel
theorem dX0_value_175 : decode cX0_value 175 = .ok (.aload_n 0, 1) := by decide +kernel
theorem dX0_value_176 : decode cX0_value 176 = .ok (.getfield 15, 3) := by decide +kernel
theorem dX0_value_179 : decode cX0_value 179 = .ok (.iconst 0, 1) := by decide +kernel
theorem dX0_value_180 : decode cX0_value 180 = .ok (.iaload, 1) := by decide +kernel
theorem dX0_value_181 : decode cX0_value 181 = .ok (.istore 6, 2) := by decide +kernel
theorem dX0_value_183 : decode cX0_value 183 = .ok (.iload 6, 2) := by decide +kernel
theorem dX0_value_185 : decode cX0_value 185 = .ok (.ifCond .ge 7, 3) := by decide +kernel
theorem dX0_value_188 : decode cX0_value 188 = .ok (.iconst 0, 1) := by decide +kernel
theorem dX0_value_189 : decode cX0_value 189 = .ok (.goto 19, 3) := by decide +kernel
theorem dX0_value_192 : decode cX0_value 192 = .ok (.iload 6, 2) := by decide +kernel
theorem dX0_value_194 : decode cX0_value 194 = .ok (.sipush 9999, 3) := by decide +kernel
theorem dX0_value_197 : decode cX0_value 197 = .ok (.if_icmp .le 9, 3) := by decide +kernel
theorem dX0_value_200 : decode cX0_value 200 = .ok (.sipush 9999, 3) := by decide +kernel
theorem dX0_value_203 : decode cX0_value 203 = .ok (.goto 5, 3) := by decide +kernel
theorem dX0_value_206 : decode cX0_value 206 = .ok (.iload 6, 2) := by decide +kernel
theorem dX0_value_208 : decode cX0_value 208 = .ok (.ireturn, 1) := by decide +kernel
theorem dX0_result_0 : decode cX0_result 0 = .ok (.iload_n 0, 1) := by decide +kernel
theorem dX0_result_1 : decode cX0_result 1 = .ok (.bipush 6, 2) := by decide +kernel
theorem dX0_result_3 : decode cX0_result 3 = .ok (.if_icmp .ne 12, 3) := by decide +kernel
theorem dX0_result_6 : decode cX0_result 6 = .ok (.iload_n 1, 1) := by decide +kernel
theorem dX0_result_7 : decode cX0_result 7 = .ok (.i2l, 1) := by decide +kernel
theorem dX0_result_8 : decode cX0_result 8 = .ok (.iload_n 2, 1) := by decide +kernel
theorem dX0_result_9 : decode cX0_result 9 = .ok (.i2l, 1) := by decide +kernel
theorem dX0_result_10 : decode cX0_result 10 = .ok (.ladd, 1) := by decide +kernel
theorem dX0_result_11 : decode cX0_result 11 = .ok (.lstore_n 3, 1) := by decide +kernel
theorem dX0_result_12 : decode cX0_result 12 = .ok (.goto 46, 3) := by decide +kernel
theorem dX0_result_15 : decode cX0_result 15 = .ok (.iload_n 0, 1) := by decide +kernel
theorem dX0_result_16 : decode cX0_result 16 = .ok (.bipush 7, 2) := by decide +kernel
theorem dX0_result_18 : decode cX0_result 18 = .ok (.if_icmp .ne 12, 3) := by decide +kernel
theorem dX0_result_21 : decode cX0_result 21 = .ok (.iload_n 1, 1) := by decide +kernel
theorem dX0_result_22 : decode cX0_result 22 = .ok (.i2l, 1) := by decide +kernel
theorem dX0_result_23 : decode cX0_result 23 = .ok (.iload_n 2, 1) := by decide +kernel
theorem dX0_result_24 : decode cX0_result 24 = .ok (.i2l, 1) := by decide +kernel
theorem dX0_result_25 : decode cX0_result 25 = .ok (.lsub, 1) := by decide +kernel
theorem dX0_result_26 : decode cX0_result 26 = .ok (.lstore_n 3, 1) := by decide +kernel
theorem dX0_result_27 : decode cX0_result 27 = .ok (.goto 31, 3) := by decide +kernel
theorem dX0_result_30 : decode cX0_result 30 = .ok (.iload_n 0, 1) := by decide +kernel
theorem dX0_result_31 : decode cX0_result 31 = .ok (.bipush 8, 2) := by decide +kernel
theorem dX0_result_33 : decode cX0_result 33 = .ok (.if_icmp .ne 12, 3) := by decide +kernel
theorem dX0_result_36 : decode cX0_result 36 = .ok (.iload_n 1, 1) := by decide +kernel
theorem dX0_result_37 : decode cX0_result 37 = .ok (.i2l, 1) := by decide +kernel
theorem dX0_result_38 : decode cX0_result 38 = .ok (.iload_n 2, 1) := by decide +kernel
theorem dX0_result_39 : decode cX0_result 39 = .ok (.i2l, 1) := by decide +kernel
theorem dX0_result_40 : decode cX0_result 40 = .ok (.lmul, 1) := by decide +kernel
theorem dX0_result_41 : decode cX0_result 41 = .ok (.lstore_n 3, 1) := by decide +kernel
theorem dX0_result_42 : decode cX0_result 42 = .ok (.goto 16, 3) := by decide +kernel
theorem dX0_result_45 : decode cX0_result 45 = .ok (.iload_n 2, 1) := by decide +kernel
theorem dX0_result_46 : decode cX0_result 46 = .ok (.ifCond .ne 7, 3) := by decide +kernel
theorem dX0_result_49 : decode cX0_result 49 = .ok (.lconst 0, 1) := by decide +kernel
theorem dX0_result_50 : decode cX0_result 50 = .ok (.goto 7, 3) := by decide +kernel
theorem dX0_result_53 : decode cX0_result 53 = .ok (.iload_n 1, 1) := by decide +kernel
theorem dX0_result_54 : decode cX0_result 54 = .ok (.iload_n 2, 1) := by decide +kernel
theorem dX0_result_55 : decode cX0_result 55 = .ok (.idiv, 1) := by decide +kernel
theorem dX0_result_56 : decode cX0_result 56 = .ok (.i2l, 1) := by decide +kernel
theorem dX0_result_57 : decode cX0_result 57 = .ok (.lstore_n 3, 1) := by decide +kernel
theorem dX0_result_58 : decode cX0_result 58 = .ok (.lload_n 3, 1) := by decide +kernel
theorem dX0_result_59 : decode cX0_result 59 = .ok (.ldc2_w 26, 3) := by decide +kernel
theorem dX0_result_62 : decode cX0_result 62 = .ok (.lcmp, 1) := by decide +kernel
theorem dX0_result_63 : decode cX0_result 63 = .ok (.ifCond .ge 9, 3) := by decide +kernel
theorem dX0_result_66 : decode cX0_result 66 = .ok (.ldc2_w 26, 3) := by decide +kernel
theorem dX0_result_69 : decode cX0_result 69 = .ok (.goto 18, 3) := by decide +kernel
theorem dX0_result_72 : decode cX0_result 72 = .ok (.lload_n 3, 1) := by decide +kernel
theorem dX0_result_73 : decode cX0_result 73 = .ok (.ldc2_w 28, 3) := by decide +kernel
theorem dX0_result_76 : decode cX0_result 76 = .ok (.lcmp, 1) := by decide +kernel
theorem dX0_result_77 : decode cX0_result 77 = .ok (.ifCond .le 9, 3) := by decide +kernel
theorem dX0_result_80 : decode cX0_result 80 = .ok (.ldc2_w 28, 3) := by decide +kernel
theorem dX0_result_83 : decode cX0_result 83 = .ok (.goto 4, 3) := by decide +kernel
theorem dX0_result_86 : decode cX0_result 86 = .ok (.lload_n 3, 1) := by decide +kernel
theorem dX0_result_87 : decode cX0_result 87 = .ok (.l2i, 1) := by decide +kernel
theorem dX0_result_88 : decode cX0_result 88 = .ok (.ireturn, 1) := by decide +kernel
theorem dX1_init_0 : decode cX1_init 0 = .ok (.aload_n 0, 1) := by decide +kernel
theorem dX1_init_1 : decode cX1_init 1 = .ok (.invokespecial 1, 3) := by decide +kernel
theorem dX1_init_4 : decode cX1_init 4 = .ok (.return_, 1) := by decide +kernel
theorem dX1_begin_0 : decode cX1_begin 0 = .ok (.aload_n 0, 1) := by decide +kernel
theorem dX1_begin_1 : decode cX1_begin 1 = .ok (.iload_n 1, 1) := by decide +kernel
theorem dX1_begin_2 : decode cX1_begin 2 = .ok (.putfield 7, 3) := by decide +kernel
theorem dX1_begin_5 : decode cX1_begin 5 = .ok (.aload_n 0, 1) := by decide +kernel
theorem dX1_begin_6 : decode cX1_begin 6 = .ok (.iload_n 2, 1) := by decide +kernel
theorem dX1_begin_7 : decode cX1_begin 7 = .ok (.putfield 13, 3) := by decide +kernel
theorem dX1_begin_10 : decode cX1_begin 10 = .ok (.aload_n 0, 1) := by decide +kernel
theorem dX1_begin_11 : decode cX1_begin 11 = .ok (.iconst 0, 1) := by decide +kernel
theorem dX1_begin_12 : decode cX1_begin 12 = .ok (.putfield 16, 3) := by decide +kernel
theorem dX1_begin_15 : decode cX1_begin 15 = .ok (.aload_n 0, 1) := by decide +kernel
theorem dX1_begin_16 : decode cX1_begin 16 = .ok (.iconst 0, 1) := by decide +kernel
theorem dX1_begin_17 : decode cX1_begin 17 = .ok (.putfield 20, 3) := by decide +kernel
theorem dX1_begin_20 : decode cX1_begin 20 = .ok (.aload_n 0, 1) := by decide +kernel
theorem dX1_begin_21 : decode cX1_begin 21 = .ok (.iconst 0, 1) := by decide +kernel
theorem dX1_begin_22 : decode cX1_begin 22 = .ok (.putfield 23, 3) := by decide +kernel
theorem dX1_begin_25 : decode cX1_begin 25 = .ok (.aload_n 0, 1) := by decide +kernel
theorem dX1_begin_26 : decode cX1_begin 26 = .ok (.iconst 0, 1) := by decide +kernel
theorem dX1_begin_27 : decode cX1_begin 27 = .ok (.putfield 26, 3) := by decide +kernel
theorem dX1_begin_30 : decode cX1_begin 30 = .ok (.aload_n 0, 1) := by decide +kernel
theorem dX1_begin_31 : decode cX1_begin 31 = .ok (.iconst 0, 1) := by decide +kernel
theorem dX1_begin_32 : decode cX1_begin 32 = .ok (.putfield 29, 3) := by decide +kernel
theorem dX1_begin_35 : decode cX1_begin 35 = .ok (.return_, 1) := by decide +kernel
theorem dX1_copyOf_0 : decode cX1_copyOf 0 = .ok (.aload_n 0, 1) := by decide +kernel
theorem dX1_copyOf_1 : decode cX1_copyOf 1 = .ok (.aload_n 1, 1) := by decide +kernel
theorem dX1_copyOf_2 : decode cX1_copyOf 2 = .ok (.getfield 7, 3) := by decide +kernel
theorem dX1_copyOf_5 : decode cX1_copyOf 5 = .ok (.putfield 7, 3) := by decide +kernel
theorem dX1_copyOf_8 : decode cX1_copyOf 8 = .ok (.aload_n 0, 1) := by decide +kernel
theorem dX1_copyOf_9 : decode cX1_copyOf 9 = .ok (.aload_n 1, 1) := by decide +kernel
theorem dX1_copyOf_10 : decode cX1_copyOf 10 = .ok (.getfield 13, 3) := by decide +kernel
theorem dX1_copyOf_13 : decode cX1_copyOf 13 = .ok (.putfield 13, 3) := by decide +kernel
theorem dX1_copyOf_16 : decode cX1_copyOf 16 = .ok (.aload_n 0, 1) := by decide +kernel
theorem dX1_copyOf_17 : decode cX1_copyOf 17 = .ok (.aload_n 1, 1) := by decide +kernel
theorem dX1_copyOf_18 : decode cX1_copyOf 18 = .ok (.getfield 16, 3) := by decide +kernel
theorem dX1_copyOf_21 : decode cX1_copyOf 21 = .ok (.putfield 16, 3) := by decide +kernel
theorem dX1_copyOf_24 : decode cX1_copyOf 24 = .ok (.aload_n 0, 1) := by decide +kernel
theorem dX1_copyOf_25 : decode cX1_copyOf 25 = .ok (.aload_n 1, 1) := by decide +kernel
theorem dX1_copyOf_26 : decode cX1_copyOf 26 = .ok (.getfield 20, 3) := by decide +kernel
theorem dX1_copyOf_29 : decode cX1_copyOf 29 = .ok (.putfield 20, 3) := by decide +kernel
theorem dX1_copyOf_32 : decode cX1_copyOf 32 = .ok (.aload_n 0, 1) := by decide +kernel
theorem dX1_copyOf_33 : decode cX1_copyOf 33 = .ok (.aload_n 1, 1) := by decide +kernel
theorem dX1_copyOf_34 : decode cX1_copyOf 34 = .ok (.getfield 23, 3) := by decide +kernel
theorem dX1_copyOf_37 : decode cX1_copyOf 37 = .ok (.putfield 23, 3) := by decide +kernel
theorem dX1_copyOf_40 : decode cX1_copyOf 40 = .ok (.aload_n 0, 1) := by decide +kernel
theorem dX1_copyOf_41 : decode cX1_copyOf 41 = .ok (.aload_n 1, 1) := by decide +kernel
theorem dX1_copyOf_42 : decode cX1_copyOf 42 = .ok (.getfield 26, 3) := by decide +kernel
theorem dX1_copyOf_45 : decode cX1_copyOf 45 = .ok (.putfield 26, 3) := by decide +kernel
theorem dX1_copyOf_48 : decode cX1_copyOf 48 = .ok (.aload_n 0, 1) := by decide +kernel
theorem dX1_copyOf_49 : decode cX1_copyOf 49 = .ok (.aload_n 1, 1) := by decide +kernel
theorem dX1_copyOf_50 : decode cX1_copyOf 50 = .ok (.getfield 29, 3) := by decide +kernel
theorem dX1_copyOf_53 : decode cX1_copyOf 53 = .ok (.putfield 29, 3) := by decide +kernel
theorem dX1_copyOf_56 : decode cX1_copyOf 56 = .ok (.return_, 1) := by decide +kernel
theorem dX2_init_0 : decode cX2_init 0 = .ok (.aload_n 0, 1) := by decide +kernel
theorem dX2_init_1 : decode cX2_init 1 = .ok (.invokespecial 3, 3) := by decide +kernel
theorem dX2_init_4 : decode cX2_init 4 = .ok (.aload_n 0, 1) := by decide +kernel
theorem dX2_init_5 : decode cX2_init 5 = .ok (.iconst 3, 1) := by decide +kernel
theorem dX2_init_6 : decode cX2_init 6 = .ok (.newarray .int, 2) := by decide +kernel
theorem dX2_init_8 : decode cX2_init 8 = .ok (.putfield 9, 3) := by decide +kernel
theorem dX2_init_11 : decode cX2_init 11 = .ok (.return_, 1) := by decide +kernel
theorem dX2_begin_0 : decode cX2_begin 0 = .ok (.aload_n 0, 1) := by decide +kernel
theorem dX2_begin_1 : decode cX2_begin 1 = .ok (.iload_n 1, 1) := by decide +kernel
theorem dX2_begin_2 : decode cX2_begin 2 = .ok (.putfield 15, 3) := by decide +kernel
theorem dX2_begin_5 : decode cX2_begin 5 = .ok (.aload_n 0, 1) := by decide +kernel
theorem dX2_begin_6 : decode cX2_begin 6 = .ok (.iload_n 2, 1) := by decide +kernel
theorem dX2_begin_7 : decode cX2_begin 7 = .ok (.putfield 19, 3) := by decide +kernel
theorem dX2_begin_10 : decode cX2_begin 10 = .ok (.aload_n 0, 1) := by decide +kernel
theorem dX2_begin_11 : decode cX2_begin 11 = .ok (.iload_n 3, 1) := by decide +kernel
theorem dX2_begin_12 : decode cX2_begin 12 = .ok (.putfield 22, 3) := by decide +kernel
theorem dX2_begin_15 : decode cX2_begin 15 = .ok (.aload_n 0, 1) := by decide +kernel
theorem dX2_begin_16 : decode cX2_begin 16 = .ok (.iconst 0, 1) := by decide +kernel
theorem dX2_begin_17 : decode cX2_begin 17 = .ok (.putfield 25, 3) := by decide +kernel
theorem dX2_begin_20 : decode cX2_begin 20 = .ok (.return_, 1) := by decide +kernel
theorem dX2_copyOf_0 : decode cX2_copyOf 0 = .ok (.aload_n 0, 1) := by decide +kernel
theorem dX2_copyOf_1 : decode cX2_copyOf 1 = .ok (.aload_n 1, 1) := by decide +kernel
theorem dX2_copyOf_2 : decode cX2_copyOf 2 = .ok (.getfield 15, 3) := by decide +kernel
theorem dX2_copyOf_5 : decode cX2_copyOf 5 = .ok (.putfield 15, 3) := by decide +kernel
theorem dX2_copyOf_8 : decode cX2_copyOf 8 = .ok (.aload_n 0, 1) := by decide +kernel
theorem dX2_copyOf_9 : decode cX2_copyOf 9 = .ok (.aload_n 1, 1) := by decide +kernel
theorem dX2_copyOf_10 : decode cX2_copyOf 10 = .ok (.getfield 19, 3) := by decide +kernel
theorem dX2_copyOf_13 : decode cX2_copyOf 13 = .ok (.putfield 19, 3) := by decide +kernel
theorem dX2_copyOf_16 : decode cX2_copyOf 16 = .ok (.aload_n 0, 1) := by decide +kernel
theorem dX2_copyOf_17 : decode cX2_copyOf 17 = .ok (.aload_n 1, 1) := by decide +kernel
theorem dX2_copyOf_18 : decode cX2_copyOf 18 = .ok (.getfield 22, 3) := by decide +kernel
theorem dX2_copyOf_21 : decode cX2_copyOf 21 = .ok (.putfield 22, 3) := by decide +kernel
theorem dX2_copyOf_24 : decode cX2_copyOf 24 = .ok (.aload_n 0, 1) := by decide +kernel
theorem dX2_copyOf_25 : decode cX2_copyOf 25 = .ok (.aload_n 1, 1) := by decide +kernel
theorem dX2_copyOf_26 : decode cX2_copyOf 26 = .ok (.getfield 25, 3) := by decide +kernel
theorem dX2_copyOf_29 : decode cX2_copyOf 29 = .ok (.putfield 25, 3) := by decide +kernel
theorem dX2_copyOf_32 : decode cX2_copyOf 32 = .ok (.iconst 0, 1) := by decide +kernel
theorem dX2_copyOf_33 : decode cX2_copyOf 33 = .ok (.istore_n 2, 1) := by decide +kernel
theorem dX2_copyOf_34 : decode cX2_copyOf 34 = .ok (.iload_n 2, 1) := by decide +kernel
theorem dX2_copyOf_35 : decode cX2_copyOf 35 = .ok (.aload_n 0, 1) := by decide +kernel
theorem dX2_copyOf_36 : decode cX2_copyOf 36 = .ok (.getfield 9, 3) := by decide +kernel
theorem dX2_copyOf_39 : decode cX2_copyOf 39 = .ok (.arraylength, 1) := by decide +kernel
theorem dX2_copyOf_40 : decode cX2_copyOf 40 = .ok (.if_icmp .ge 21, 3) := by decide +kernel
theorem dX2_copyOf_43 : decode cX2_copyOf 43 = .ok (.aload_n 0, 1) := by decide +kernel
theorem dX2_copyOf_44 : decode cX2_copyOf 44 = .ok (.getfield 9, 3) := by decide +kernel
theorem dX2_copyOf_47 : decode cX2_copyOf 47 = .ok (.iload_n 2, 1) := by decide +kernel
theorem dX2_copyOf_48 : decode cX2_copyOf 48 = .ok (.aload_n 1, 1) := by decide +kernel
theorem dX2_copyOf_49 : decode cX2_copyOf 49 = .ok (.getfield 9, 3) := by decide +kernel
theorem dX2_copyOf_52 : decode cX2_copyOf 52 = .ok (.iload_n 2, 1) := by decide +kernel
theorem dX2_copyOf_53 : decode cX2_copyOf 53 = .ok (.iaload, 1) := by decide +kernel
theorem dX2_copyOf_54 : decode cX2_copyOf 54 = .ok (.iastore, 1) := by decide +kernel
theorem dX2_copyOf_55 : decode cX2_copyOf 55 = .ok (.iinc 2 1, 3) := by decide +kernel
theorem dX2_copyOf_58 : decode cX2_copyOf 58 = .ok (.goto (-24), 3) := by decide +kernel
theorem dX2_copyOf_61 : decode cX2_copyOf 61 = .ok (.return_, 1) := by decide +kernel
theorem dX2_placeOf_0 : decode cX2_placeOf 0 = .ok (.iconst 0, 1) := by decide +kernel
theorem dX2_placeOf_1 : decode cX2_placeOf 1 = .ok (.istore_n 2, 1) := by decide +kernel
theorem dX2_placeOf_2 : decode cX2_placeOf 2 = .ok (.iload_n 2, 1) := by decide +kernel
theorem dX2_placeOf_3 : decode cX2_placeOf 3 = .ok (.aload_n 0, 1) := by decide +kernel
theorem dX2_placeOf_4 : decode cX2_placeOf 4 = .ok (.getfield 25, 3) := by decide +kernel
theorem dX2_placeOf_7 : decode cX2_placeOf 7 = .ok (.if_icmp .ge 21, 3) := by decide +kernel
theorem dX2_placeOf_10 : decode cX2_placeOf 10 = .ok (.aload_n 0, 1) := by decide +kernel
theorem dX2_placeOf_11 : decode cX2_placeOf 11 = .ok (.getfield 9, 3) := by decide +kernel
theorem dX2_placeOf_14 : decode cX2_placeOf 14 = .ok (.iload_n 2, 1) := by decide +kernel
theorem dX2_placeOf_15 : decode cX2_placeOf 15 = .ok (.iaload, 1) := by decide +kernel
theorem dX2_placeOf_16 : decode cX2_placeOf 16 = .ok (.iload_n 1, 1) := by decide +kernel
theorem dX2_placeOf_17 : decode cX2_placeOf 17 = .ok (.if_icmp .ne 5, 3) := by decide +kernel
theorem dX2_placeOf_20 : decode cX2_placeOf 20 = .ok (.iload_n 2, 1) := by decide +kernel
theorem dX2_placeOf_21 : decode cX2_placeOf 21 = .ok (.ireturn, 1) := by decide +kernel
theorem dX2_placeOf_22 : decode cX2_placeOf 22 = .ok (.iinc 2 1, 3) := by decide +kernel
theorem dX2_placeOf_25 : decode cX2_placeOf 25 = .ok (.goto (-23), 3) := by decide +kernel
theorem dX2_placeOf_28 : decode cX2_placeOf 28 = .ok (.iconst (-1), 1) := by decide +kernel
theorem dX2_placeOf_29 : decode cX2_placeOf 29 = .ok (.ireturn, 1) := by decide +kernel
theorem dX2_addTenant_0 : decode cX2_addTenant 0 = .ok (.aload_n 0, 1) := by decide +kernel
theorem dX2_addTenant_1 : decode cX2_addTenant 1 = .ok (.getfield 25, 3) := by decide +kernel
theorem dX2_addTenant_4 : decode cX2_addTenant 4 = .ok (.aload_n 0, 1) := by decide +kernel
theorem dX2_addTenant_5 : decode cX2_addTenant 5 = .ok (.getfield 9, 3) := by decide +kernel
theorem dX2_addTenant_8 : decode cX2_addTenant 8 = .ok (.arraylength, 1) := by decide +kernel
theorem dX2_addTenant_9 : decode cX2_addTenant 9 = .ok (.if_icmp .ge 23, 3) := by decide +kernel
theorem dX2_addTenant_12 : decode cX2_addTenant 12 = .ok (.aload_n 0, 1) := by decide +kernel
theorem dX2_addTenant_13 : decode cX2_addTenant 13 = .ok (.getfield 9, 3) := by decide +kernel
theorem dX2_addTenant_16 : decode cX2_addTenant 16 = .ok (.aload_n 0, 1) := by decide +kernel
theorem dX2_addTenant_17 : decode cX2_addTenant 17 = .ok (.getfield 25, 3) := by decide +kernel
theorem dX2_addTenant_20 : decode cX2_addTenant 20 = .ok (.iload_n 1, 1) := by decide +kernel
theorem dX2_addTenant_21 : decode cX2_addTenant 21 = .ok (.iastore, 1) := by decide +kernel
theorem dX2_addTenant_22 : decode cX2_addTenant 22 = .ok (.aload_n 0, 1) := by decide +kernel
theorem dX2_addTenant_23 : decode cX2_addTenant 23 = .ok (.dup, 1) := by decide +kernel
theorem dX2_addTenant_24 : decode cX2_addTenant 24 = .ok (.getfield 25, 3) := by decide +kernel
theorem dX2_addTenant_27 : decode cX2_addTenant 27 = .ok (.iconst 1, 1) := by decide +kernel
theorem dX2_addTenant_28 : decode cX2_addTenant 28 = .ok (.iadd, 1) := by decide +kernel
theorem dX2_addTenant_29 : decode cX2_addTenant 29 = .ok (.putfield 25, 3) := by decide +kernel
theorem dX2_addTenant_32 : decode cX2_addTenant 32 = .ok (.return_, 1) := by decide +kernel
theorem dX2_removeTenant_0 : decode cX2_removeTenant 0 = .ok (.iconst 0, 1) := by decide +kernel
theorem dX2_removeTenant_1 : decode cX2_removeTenant 1 = .ok (.istore_n 2, 1) := by decide +kernel
theorem dX2_removeTenant_2 : decode cX2_removeTenant 2 = .ok (.iconst 0, 1) := by decide +kernel
theorem dX2_removeTenant_3 : decode cX2_removeTenant 3 = .ok (.istore_n 3, 1) := by decide +kernel
theorem dX2_removeTenant_4 : decode cX2_removeTenant 4 = .ok (.iload_n 3, 1) := by decide +kernel
theorem dX2_removeTenant_5 : decode cX2_removeTenant 5 = .ok (.aload_n 0, 1) := by decide +kernel
theorem dX2_removeTenant_6 : decode cX2_removeTenant 6 = .ok (.getfield 25, 3) := by decide +kernel
theorem dX2_removeTenant_9 : decode cX2_removeTenant 9 = .ok (.if_icmp .ge 34, 3) := by decide +kernel
theorem dX2_removeTenant_12 : decode cX2_removeTenant 12 = .ok (.aload_n 0, 1) := by decide +kernel
theorem dX2_removeTenant_13 : decode cX2_removeTenant 13 = .ok (.getfield 9, 3) := by decide +kernel
theorem dX2_removeTenant_16 : decode cX2_removeTenant 16 = .ok (.iload_n 3, 1) := by decide +kernel
theorem dX2_removeTenant_17 : decode cX2_removeTenant 17 = .ok (.iaload, 1) := by decide +kernel
theorem dX2_removeTenant_18 : decode cX2_removeTenant 18 = .ok (.iload_n 1, 1) := by decide +kernel
theorem dX2_removeTenant_19 : decode cX2_removeTenant 19 = .ok (.if_icmp .eq 18, 3) := by decide +kernel
theorem dX2_removeTenant_22 : decode cX2_removeTenant 22 = .ok (.aload_n 0, 1) := by decide +kernel
theorem dX2_removeTenant_23 : decode cX2_removeTenant 23 = .ok (.getfield 9, 3) := by decide +kernel
theorem dX2_removeTenant_26 : decode cX2_removeTenant 26 = .ok (.iload_n 2, 1) := by decide +kernel
theorem dX2_removeTenant_27 : decode cX2_removeTenant 27 = .ok (.aload_n 0, 1) := by decide +kernel
theorem dX2_removeTenant_28 : decode cX2_removeTenant 28 = .ok (.getfield 9, 3) := by decide +kernel
theorem dX2_removeTenant_31 : decode cX2_removeTenant 31 = .ok (.iload_n 3, 1) := by decide +kernel
theorem dX2_removeTenant_32 : decode cX2_removeTenant 32 = .ok (.iaload, 1) := by decide +kernel
theorem dX2_removeTenant_33 : decode cX2_removeTenant 33 = .ok (.iastore, 1) := by decide +kernel
theorem dX2_removeTenant_34 : decode cX2_removeTenant 34 = .ok (.iinc 2 1, 3) := by decide +kernel
theorem dX2_removeTenant_37 : decode cX2_removeTenant 37 = .ok (.iinc 3 1, 3) := by decide +kernel
theorem dX2_removeTenant_40 : decode cX2_removeTenant 40 = .ok (.goto (-36), 3) := by decide +kernel
theorem dX2_removeTenant_43 : decode cX2_removeTenant 43 = .ok (.aload_n 0, 1) := by decide +kernel
theorem dX2_removeTenant_44 : decode cX2_removeTenant 44 = .ok (.iload_n 2, 1) := by decide +kernel
theorem dX2_removeTenant_45 : decode cX2_removeTenant 45 = .ok (.putfield 25, 3) := by decide +kernel
theorem dX2_removeTenant_48 : decode cX2_removeTenant 48 = .ok (.return_, 1) := by decide +kernel
theorem dX2_payAtMost_0 : decode cX2_payAtMost 0 = .ok (.iload_n 1, 1) := by decide +kernel
theorem dX2_payAtMost_1 : decode cX2_payAtMost 1 = .ok (.aload_n 0, 1) := by decide +kernel
theorem dX2_payAtMost_2 : decode cX2_payAtMost 2 = .ok (.getfield 22, 3) := by decide +kernel
theorem dX2_payAtMost_5 : decode cX2_payAtMost 5 = .ok (.if_icmp .ge 7, 3) := by decide +kernel
theorem dX2_payAtMost_8 : decode cX2_payAtMost 8 = .ok (.iload_n 1, 1) := by decide +kernel
theorem dX2_payAtMost_9 : decode cX2_payAtMost 9 = .ok (.goto 7, 3) := by decide +kernel
theorem dX2_payAtMost_12 : decode cX2_payAtMost 12 = .ok (.aload_n 0, 1) := by decide +kernel
theorem dX2_payAtMost_13 : decode cX2_payAtMost 13 = .ok (.getfield 22, 3) := by decide +kernel
theorem dX2_payAtMost_16 : decode cX2_payAtMost 16 = .ok (.istore_n 2, 1) := by decide +kernel
theorem dX2_payAtMost_17 : decode cX2_payAtMost 17 = .ok (.aload_n 0, 1) := by decide +kernel
theorem dX2_payAtMost_18 : decode cX2_payAtMost 18 = .ok (.dup, 1) := by decide +kernel
theorem dX2_payAtMost_19 : decode cX2_payAtMost 19 = .ok (.getfield 22, 3) := by decide +kernel
theorem dX2_payAtMost_22 : decode cX2_payAtMost 22 = .ok (.iload_n 2, 1) := by decide +kernel
theorem dX2_payAtMost_23 : decode cX2_payAtMost 23 = .ok (.isub, 1) := by decide +kernel
theorem dX2_payAtMost_24 : decode cX2_payAtMost 24 = .ok (.putfield 22, 3) := by decide +kernel
theorem dX2_payAtMost_27 : decode cX2_payAtMost 27 = .ok (.iload_n 2, 1) := by decide +kernel
theorem dX2_payAtMost_28 : decode cX2_payAtMost 28 = .ok (.ireturn, 1) := by decide +kernel
theorem dX3_init_0 : decode cX3_init 0 = .ok (.aload_n 0, 1) := by decide +kernel
theorem dX3_init_1 : decode cX3_init 1 = .ok (.invokespecial 3, 3) := by decide +kernel
theorem dX3_init_4 : decode cX3_init 4 = .ok (.return_, 1) := by decide +kernel
theorem dX3_begin_0 : decode cX3_begin 0 = .ok (.aload_n 0, 1) := by decide +kernel
theorem dX3_begin_1 : decode cX3_begin 1 = .ok (.iload_n 1, 1) := by decide +kernel
theorem dX3_begin_2 : decode cX3_begin 2 = .ok (.putfield 9, 3) := by decide +kernel
theorem dX3_begin_5 : decode cX3_begin 5 = .ok (.aload_n 0, 1) := by decide +kernel
theorem dX3_begin_6 : decode cX3_begin 6 = .ok (.iload_n 2, 1) := by decide +kernel
theorem dX3_begin_7 : decode cX3_begin 7 = .ok (.putfield 15, 3) := by decide +kernel
theorem dX3_begin_10 : decode cX3_begin 10 = .ok (.aload_n 0, 1) := by decide +kernel
theorem dX3_begin_11 : decode cX3_begin 11 = .ok (.iload_n 3, 1) := by decide +kernel
theorem dX3_begin_12 : decode cX3_begin 12 = .ok (.putfield 18, 3) := by decide +kernel
theorem dX3_begin_15 : decode cX3_begin 15 = .ok (.aload_n 0, 1) := by decide +kernel
theorem dX3_begin_16 : decode cX3_begin 16 = .ok (.iconst 0, 1) := by decide +kernel
theorem dX3_begin_17 : decode cX3_begin 17 = .ok (.putfield 21, 3) := by decide +kernel
theorem dX3_begin_20 : decode cX3_begin 20 = .ok (.aload_n 0, 1) := by decide +kernel
theorem dX3_begin_21 : decode cX3_begin 21 = .ok (.iconst (-1), 1) := by decide +kernel
theorem dX3_begin_22 : decode cX3_begin 22 = .ok (.putfield 24, 3) := by decide +kernel
theorem dX3_begin_25 : decode cX3_begin 25 = .ok (.aload_n 0, 1) := by decide +kernel
theorem dX3_begin_26 : decode cX3_begin 26 = .ok (.iconst 0, 1) := by decide +kernel
theorem dX3_begin_27 : decode cX3_begin 27 = .ok (.putfield 27, 3) := by decide +kernel
theorem dX3_begin_30 : decode cX3_begin 30 = .ok (.aload_n 0, 1) := by decide +kernel
theorem dX3_begin_31 : decode cX3_begin 31 = .ok (.iconst 0, 1) := by decide +kernel
theorem dX3_begin_32 : decode cX3_begin 32 = .ok (.putfield 30, 3) := by decide +kernel
theorem dX3_begin_35 : decode cX3_begin 35 = .ok (.aload_n 0, 1) := by decide +kernel
theorem dX3_begin_36 : decode cX3_begin 36 = .ok (.iconst (-1), 1) := by decide +kernel
theorem dX3_begin_37 : decode cX3_begin 37 = .ok (.putfield 33, 3) := by decide +kernel
theorem dX3_begin_40 : decode cX3_begin 40 = .ok (.return_, 1) := by decide +kernel
theorem dX3_copyOf_0 : decode cX3_copyOf 0 = .ok (.aload_n 0, 1) := by decide +kernel
theorem dX3_copyOf_1 : decode cX3_copyOf 1 = .ok (.aload_n 1, 1) := by decide +kernel
theorem dX3_copyOf_2 : decode cX3_copyOf 2 = .ok (.getfield 9, 3) := by decide +kernel
theorem dX3_copyOf_5 : decode cX3_copyOf 5 = .ok (.putfield 9, 3) := by decide +kernel
theorem dX3_copyOf_8 : decode cX3_copyOf 8 = .ok (.aload_n 0, 1) := by decide +kernel
theorem dX3_copyOf_9 : decode cX3_copyOf 9 = .ok (.aload_n 1, 1) := by decide +kernel
theorem dX3_copyOf_10 : decode cX3_copyOf 10 = .ok (.getfield 15, 3) := by decide +kernel
theorem dX3_copyOf_13 : decode cX3_copyOf 13 = .ok (.putfield 15, 3) := by decide +kernel
theorem dX3_copyOf_16 : decode cX3_copyOf 16 = .ok (.aload_n 0, 1) := by decide +kernel
theorem dX3_copyOf_17 : decode cX3_copyOf 17 = .ok (.aload_n 1, 1) := by decide +kernel
theorem dX3_copyOf_18 : decode cX3_copyOf 18 = .ok (.getfield 18, 3) := by decide +kernel
theorem dX3_copyOf_21 : decode cX3_copyOf 21 = .ok (.putfield 18, 3) := by decide +kernel
theorem dX3_copyOf_24 : decode cX3_copyOf 24 = .ok (.aload_n 0, 1) := by decide +kernel
theorem dX3_copyOf_25 : decode cX3_copyOf 25 = .ok (.aload_n 1, 1) := by decide +kernel
theorem dX3_copyOf_26 : decode cX3_copyOf 26 = .ok (.getfield 21, 3) := by decide +kernel
theorem dX3_copyOf_29 : decode cX3_copyOf 29 = .ok (.putfield 21, 3) := by decide +kernel
theorem dX3_copyOf_32 : decode cX3_copyOf 32 = .ok (.aload_n 0, 1) := by decide +kernel
theorem dX3_copyOf_33 : decode cX3_copyOf 33 = .ok (.aload_n 1, 1) := by decide +kernel
theorem dX3_copyOf_34 : decode cX3_copyOf 34 = .ok (.getfield 24, 3) := by decide +kernel
theorem dX3_copyOf_37 : decode cX3_copyOf 37 = .ok (.putfield 24, 3) := by decide +kernel
theorem dX3_copyOf_40 : decode cX3_copyOf 40 = .ok (.aload_n 0, 1) := by decide +kernel
theorem dX3_copyOf_41 : decode cX3_copyOf 41 = .ok (.aload_n 1, 1) := by decide +kernel
theorem dX3_copyOf_42 : decode cX3_copyOf 42 = .ok (.getfield 27, 3) := by decide +kernel
theorem dX3_copyOf_45 : decode cX3_copyOf 45 = .ok (.putfield 27, 3) := by decide +kernel
theorem dX3_copyOf_48 : decode cX3_copyOf 48 = .ok (.aload_n 0, 1) := by decide +kernel
theorem dX3_copyOf_49 : decode cX3_copyOf 49 = .ok (.aload_n 1, 1) := by decide +kernel
theorem dX3_copyOf_50 : decode cX3_copyOf 50 = .ok (.getfield 30, 3) := by decide +kernel
theorem dX3_copyOf_53 : decode cX3_copyOf 53 = .ok (.putfield 30, 3) := by decide +kernel
theorem dX3_copyOf_56 : decode cX3_copyOf 56 = .ok (.aload_n 0, 1) := by decide +kernel
theorem dX3_copyOf_57 : decode cX3_copyOf 57 = .ok (.aload_n 1, 1) := by decide +kernel
theorem dX3_copyOf_58 : decode cX3_copyOf 58 = .ok (.getfield 33, 3) := by decide +kernel
theorem dX3_copyOf_61 : decode cX3_copyOf 61 = .ok (.putfield 33, 3) := by decide +kernel
theorem dX3_copyOf_64 : decode cX3_copyOf 64 = .ok (.return_, 1) := by decide +kernel
theorem dX4_init_0 : decode cX4_init 0 = .ok (.aload_n 0, 1) := by decide +kernel
theorem dX4_init_1 : decode cX4_init 1 = .ok (.invokespecial 3, 3) := by decide +kernel
theorem dX4_init_4 : decode cX4_init 4 = .ok (.return_, 1) := by decide +kernel
theorem dX4_reads_0 : decode cX4_reads 0 = .ok (.aload_n 0, 1) := by decide +kernel
theorem dX4_reads_1 : decode cX4_reads 1 = .ok (.aload_n 1, 1) := by decide +kernel
theorem dX4_reads_2 : decode cX4_reads 2 = .ok (.putfield 9, 3) := by decide +kernel
theorem dX4_reads_5 : decode cX4_reads 5 = .ok (.aload_n 0, 1) := by decide +kernel
theorem dX4_reads_6 : decode cX4_reads 6 = .ok (.aload_n 2, 1) := by decide +kernel
theorem dX4_reads_7 : decode cX4_reads 7 = .ok (.putfield 15, 3) := by decide +kernel
theorem dX4_reads_10 : decode cX4_reads 10 = .ok (.aload_n 0, 1) := by decide +kernel
theorem dX4_reads_11 : decode cX4_reads 11 = .ok (.getfield 15, 3) := by decide +kernel
theorem dX4_reads_14 : decode cX4_reads 14 = .ok (.invokevirtual 19, 3) := by decide +kernel
theorem dX4_reads_17 : decode cX4_reads 17 = .ok (.aload_n 0, 1) := by decide +kernel
theorem dX4_reads_18 : decode cX4_reads 18 = .ok (.iconst 0, 1) := by decide +kernel
theorem dX4_reads_19 : decode cX4_reads 19 = .ok (.putfield 24, 3) := by decide +kernel
theorem dX4_reads_22 : decode cX4_reads 22 = .ok (.aload_n 0, 1) := by decide +kernel
theorem dX4_reads_23 : decode cX4_reads 23 = .ok (.iconst 0, 1) := by decide +kernel
theorem dX4_reads_24 : decode cX4_reads 24 = .ok (.putfield 28, 3) := by decide +kernel
theorem dX4_reads_27 : decode cX4_reads 27 = .ok (.aload_n 0, 1) := by decide +kernel
theorem dX4_reads_28 : decode cX4_reads 28 = .ok (.iconst 0, 1) := by decide +kernel
theorem dX4_reads_29 : decode cX4_reads 29 = .ok (.putfield 31, 3) := by decide +kernel
theorem dX4_reads_32 : decode cX4_reads 32 = .ok (.aload_n 0, 1) := by decide +kernel
theorem dX4_reads_33 : decode cX4_reads 33 = .ok (.iconst (-1), 1) := by decide +kernel
theorem dX4_reads_34 : decode cX4_reads 34 = .ok (.putfield 34, 3) := by decide +kernel
theorem dX4_reads_37 : decode cX4_reads 37 = .ok (.aload_n 0, 1) := by decide +kernel
theorem dX4_reads_38 : decode cX4_reads 38 = .ok (.bipush 10, 2) := by decide +kernel
theorem dX4_reads_40 : decode cX4_reads 40 = .ok (.invokevirtual 37, 3) := by decide +kernel
theorem dX4_reads_43 : decode cX4_reads 43 = .ok (.ifCond .eq 15, 3) := by decide +kernel
theorem dX4_reads_46 : decode cX4_reads 46 = .ok (.aload_n 0, 1) := by decide +kernel
theorem dX4_reads_47 : decode cX4_reads 47 = .ok (.iconst 3, 1) := by decide +kernel
theorem dX4_reads_48 : decode cX4_reads 48 = .ok (.invokevirtual 37, 3) := by decide +kernel
theorem dX4_reads_51 : decode cX4_reads 51 = .ok (.ifCond .eq 7, 3) := by decide +kernel
theorem dX4_reads_54 : decode cX4_reads 54 = .ok (.iconst 1, 1) := by decide +kernel
theorem dX4_reads_55 : decode cX4_reads 55 = .ok (.goto 4, 3) := by decide +kernel
theorem dX4_reads_58 : decode cX4_reads 58 = .ok (.iconst 0, 1) := by decide +kernel
theorem dX4_reads_59 : decode cX4_reads 59 = .ok (.istore_n 3, 1) := by decide +kernel
theorem dX4_reads_60 : decode cX4_reads 60 = .ok (.iconst 0, 1) := by decide +kernel
theorem dX4_reads_61 : decode cX4_reads 61 = .ok (.istore 4, 2) := by decide +kernel
theorem dX4_reads_63 : decode cX4_reads 63 = .ok (.iload 4, 2) := by decide +kernel
theorem dX4_reads_65 : decode cX4_reads 65 = .ok (.sipush 700, 3) := by decide +kernel
theorem dX4_reads_68 : decode cX4_reads 68 = .ok (.if_icmp .ge 41, 3) := by decide +kernel
theorem dX4_reads_71 : decode cX4_reads 71 = .ok (.iload_n 3, 1) := by decide +kernel
theorem dX4_reads_72 : decode cX4_reads 72 = .ok (.ifCond .eq 37, 3) := by decide +kernel
theorem dX4_reads_75 : decode cX4_reads 75 = .ok (.aload_n 0, 1) := by decide +kernel
theorem dX4_reads_76 : decode cX4_reads 76 = .ok (.invokevirtual 41, 3) := by decide +kernel
theorem dX4_reads_79 : decode cX4_reads 79 = .ok (.ifCond .eq 30, 3) := by decide +kernel
theorem dX4_reads_82 : decode cX4_reads 82 = .ok (.aload_n 0, 1) := by decide +kernel
theorem dX4_reads_83 : decode cX4_reads 83 = .ok (.invokevirtual 45, 3) := by decide +kernel
theorem dX4_reads_86 : decode cX4_reads 86 = .ok (.ifCond .eq 15, 3) := by decide +kernel
theorem dX4_reads_89 : decode cX4_reads 89 = .ok (.aload_n 0, 1) := by decide +kernel
theorem dX4_reads_90 : decode cX4_reads 90 = .ok (.iconst 3, 1) := by decide +kernel
theorem dX4_reads_91 : decode cX4_reads 91 = .ok (.invokevirtual 37, 3) := by decide +kernel
theorem dX4_reads_94 : decode cX4_reads 94 = .ok (.ifCond .eq 7, 3) := by decide +kernel
theorem dX4_reads_97 : decode cX4_reads 97 = .ok (.iconst 1, 1) := by decide +kernel
theorem dX4_reads_98 : decode cX4_reads 98 = .ok (.goto 4, 3) := by decide +kernel
theorem dX4_reads_101 : decode cX4_reads 101 = .ok (.iconst 0, 1) := by decide +kernel
theorem dX4_reads_102 : decode cX4_reads 102 = .ok (.istore_n 3, 1) := by decide +kernel
theorem dX4_reads_103 : decode cX4_reads 103 = .ok (.iinc 4 1, 3) := by decide +kernel
theorem dX4_reads_106 : decode cX4_reads 106 = .ok (.goto (-43), 3) := by decide +kernel
theorem dX4_reads_109 : decode cX4_reads 109 = .ok (.iload_n 3, 1) := by decide +kernel
theorem dX4_reads_110 : decode cX4_reads 110 = .ok (.ireturn, 1) := by decide +kernel
theorem dX4_kind_0 : decode cX4_kind 0 = .ok (.aload_n 0, 1) := by decide +kernel
theorem dX4_kind_1 : decode cX4_kind 1 = .ok (.getfield 24, 3) := by decide +kernel
theorem dX4_kind_4 : decode cX4_kind 4 = .ok (.aload_n 0, 1) := by decide +kernel
theorem dX4_kind_5 : decode cX4_kind 5 = .ok (.getfield 9, 3) := by decide +kernel
theorem dX4_kind_8 : decode cX4_kind 8 = .ok (.getfield 49, 3) := by decide +kernel
theorem dX4_kind_11 : decode cX4_kind 11 = .ok (.if_icmp .ge 18, 3) := by decide +kernel
theorem dX4_kind_14 : decode cX4_kind 14 = .ok (.aload_n 0, 1) := by decide +kernel
theorem dX4_kind_15 : decode cX4_kind 15 = .ok (.getfield 9, 3) := by decide +kernel
theorem dX4_kind_18 : decode cX4_kind 18 = .ok (.getfield 54, 3) := by decide +kernel
theorem dX4_kind_21 : decode cX4_kind 21 = .ok (.aload_n 0, 1) := by decide +kernel
theorem dX4_kind_22 : decode cX4_kind 22 = .ok (.getfield 24, 3) := by decide +kernel
theorem dX4_kind_25 : decode cX4_kind 25 = .ok (.iaload, 1) := by decide +kernel
theorem dX4_kind_26 : decode cX4_kind 26 = .ok (.goto 4, 3) := by decide +kernel
theorem dX4_kind_29 : decode cX4_kind 29 = .ok (.iconst 0, 1) := by decide +kernel
theorem dX4_kind_30 : decode cX4_kind 30 = .ok (.ireturn, 1) := by decide +kernel
theorem dX4_fails_0 : decode cX4_fails 0 = .ok (.aload_n 0, 1) := by decide +kernel
theorem dX4_fails_1 : decode cX4_fails 1 = .ok (.iload_n 1, 1) := by decide +kernel
theorem dX4_fails_2 : decode cX4_fails 2 = .ok (.putfield 31, 3) := by decide +kernel
theorem dX4_fails_5 : decode cX4_fails 5 = .ok (.aload_n 0, 1) := by decide +kernel
theorem dX4_fails_6 : decode cX4_fails 6 = .ok (.aload_n 0, 1) := by decide +kernel
theorem dX4_fails_7 : decode cX4_fails 7 = .ok (.getfield 24, 3) := by decide +kernel
theorem dX4_fails_10 : decode cX4_fails 10 = .ok (.aload_n 0, 1) := by decide +kernel
theorem dX4_fails_11 : decode cX4_fails 11 = .ok (.getfield 9, 3) := by decide +kernel
theorem dX4_fails_14 : decode cX4_fails 14 = .ok (.getfield 49, 3) := by decide +kernel
theorem dX4_fails_17 : decode cX4_fails 17 = .ok (.if_icmp .ge 18, 3) := by decide +kernel
theorem dX4_fails_20 : decode cX4_fails 20 = .ok (.aload_n 0, 1) := by decide +kernel
theorem dX4_fails_21 : decode cX4_fails 21 = .ok (.getfield 9, 3) := by decide +kernel
theorem dX4_fails_24 : decode cX4_fails 24 = .ok (.getfield 58, 3) := by decide +kernel
theorem dX4_fails_27 : decode cX4_fails 27 = .ok (.aload_n 0, 1) := by decide +kernel
theorem dX4_fails_28 : decode cX4_fails 28 = .ok (.getfield 24, 3) := by decide +kernel
theorem dX4_fails_31 : decode cX4_fails 31 = .ok (.iaload, 1) := by decide +kernel
theorem dX4_fails_32 : decode cX4_fails 32 = .ok (.goto 4, 3) := by decide +kernel
theorem dX4_fails_35 : decode cX4_fails 35 = .ok (.iconst 0, 1) := by decide +kernel
theorem dX4_fails_36 : decode cX4_fails 36 = .ok (.putfield 34, 3) := by decide +kernel
theorem dX4_fails_39 : decode cX4_fails 39 = .ok (.iconst 0, 1) := by decide +kernel
theorem dX4_fails_40 : decode cX4_fails 40 = .ok (.ireturn, 1) := by decide +kernel
theorem dX4_takes_0 : decode cX4_takes 0 = .ok (.aload_n 0, 1) := by decide +kernel
theorem dX4_takes_1 : decode cX4_takes 1 = .ok (.invokevirtual 41, 3) := by decide +kernel
theorem dX4_takes_4 : decode cX4_takes 4 = .ok (.iload_n 1, 1) := by decide +kernel
theorem dX4_takes_5 : decode cX4_takes 5 = .ok (.if_icmp .eq 10, 3) := by decide +kernel
theorem dX4_takes_8 : decode cX4_takes 8 = .ok (.aload_n 0, 1) := by decide +kernel
theorem dX4_takes_9 : decode cX4_takes 9 = .ok (.bipush (-2), 2) := by decide +kernel
theorem dX4_takes_11 : decode cX4_takes 11 = .ok (.invokevirtual 61, 3) := by decide +kernel
theorem dX4_takes_14 : decode cX4_takes 14 = .ok (.ireturn, 1) := by decide +kernel
theorem dX4_takes_15 : decode cX4_takes 15 = .ok (.aload_n 0, 1) := by decide +kernel
theorem dX4_takes_16 : decode cX4_takes 16 = .ok (.dup, 1) := by decide +kernel
theorem dX4_takes_17 : decode cX4_takes 17 = .ok (.getfield 24, 3) := by decide +kernel
theorem dX4_takes_20 : decode cX4_takes 20 = .ok (.iconst 1, 1) := by decide +kernel
theorem dX4_takes_21 : decode cX4_takes 21 = .ok (.iadd, 1) := by decide +kernel
theorem dX4_takes_22 : decode cX4_takes 22 = .ok (.putfield 24, 3) := by decide +kernel
theorem dX4_takes_25 : decode cX4_takes 25 = .ok (.iconst 1, 1) := by decide +kernel
theorem dX4_takes_26 : decode cX4_takes 26 = .ok (.ireturn, 1) := by decide +kernel
theorem dX4_readsNumber_0 : decode cX4_readsNumber 0 = .ok (.aload_n 0, 1) := by decide +kernel
theorem dX4_readsNumber_1 : decode cX4_readsNumber 1 = .ok (.invokevirtual 41, 3) := by decide +kernel
theorem dX4_readsNumber_4 : decode cX4_readsNumber 4 = .ok (.iconst 2, 1) := by decide +kernel
theorem dX4_readsNumber_5 : decode cX4_readsNumber 5 = .ok (.if_icmp .ne 17, 3) := by decide +kernel
theorem dX4_readsNumber_8 : decode cX4_readsNumber 8 = .ok (.aload_n 0, 1) := by decide +kernel
theorem dX4_readsNumber_9 : decode cX4_readsNumber 9 = .ok (.getfield 24, 3) := by decide +kernel
theorem dX4_readsNumber_12 : decode cX4_readsNumber 12 = .ok (.aload_n 0, 1) := by decide +kernel
theorem dX4_readsNumber_13 : decode cX4_readsNumber 13 = .ok (.getfield 9, 3) := by decide +kernel
theorem dX4_readsNumber_16 : decode cX4_readsNumber 16 = .ok (.getfield 49, 3) := by decide +kernel
theorem dX4_readsNumber_19 : decode cX4_readsNumber 19 = .ok (.if_icmp .lt 10, 3) := by decide +kernel
theorem dX4_readsNumber_22 : decode cX4_readsNumber 22 = .ok (.aload_n 0, 1) := by decide +kernel
theorem dX4_readsNumber_23 : decode cX4_readsNumber 23 = .ok (.bipush (-2), 2) := by decide +kernel
theorem dX4_readsNumber_25 : decode cX4_readsNumber 25 = .ok (.invokevirtual 61, 3) := by decide +kernel
theorem dX4_readsNumber_28 : decode cX4_readsNumber 28 = .ok (.ireturn, 1) := by decide +kernel
theorem dX4_readsNumber_29 : decode cX4_readsNumber 29 = .ok (.aload_n 0, 1) := by decide +kernel
theorem dX4_readsNumber_30 : decode cX4_readsNumber 30 = .ok (.aload_n 0, 1) := by decide +kernel
theorem dX4_readsNumber_31 : decode cX4_readsNumber 31 = .ok (.getfield 9, 3) := by decide +kernel
theorem dX4_readsNumber_34 : decode cX4_readsNumber 34 = .ok (.getfield 64, 3) := by decide +kernel
theorem dX4_readsNumber_37 : decode cX4_readsNumber 37 = .ok (.aload_n 0, 1) := by decide +kernel
theorem dX4_readsNumber_38 : decode cX4_readsNumber 38 = .ok (.getfield 24, 3) := by decide +kernel
theorem dX4_readsNumber_41 : decode cX4_readsNumber 41 = .ok (.iaload, 1) := by decide +kernel
theorem dX4_readsNumber_42 : decode cX4_readsNumber 42 = .ok (.putfield 67, 3) := by decide +kernel
theorem dX4_readsNumber_45 : decode cX4_readsNumber 45 = .ok (.aload_n 0, 1) := by decide +kernel
theorem dX4_readsNumber_46 : decode cX4_readsNumber 46 = .ok (.getfield 67, 3) := by decide +kernel
theorem dX4_readsNumber_49 : decode cX4_readsNumber 49 = .ok (.iload_n 1, 1) := by decide +kernel
theorem dX4_readsNumber_50 : decode cX4_readsNumber 50 = .ok (.if_icmp .lt 11, 3) := by decide +kernel
theorem dX4_readsNumber_53 : decode cX4_readsNumber 53 = .ok (.aload_n 0, 1) := by decide +kernel
theorem dX4_readsNumber_54 : decode cX4_readsNumber 54 = .ok (.getfield 67, 3) := by decide +kernel
theorem dX4_readsNumber_57 : decode cX4_readsNumber 57 = .ok (.iload_n 2, 1) := by decide +kernel
theorem dX4_readsNumber_58 : decode cX4_readsNumber 58 = .ok (.if_icmp .le 10, 3) := by decide +kernel
theorem dX4_readsNumber_61 : decode cX4_readsNumber 61 = .ok (.aload_n 0, 1) := by decide +kernel
theorem dX4_readsNumber_62 : decode cX4_readsNumber 62 = .ok (.bipush (-3), 2) := by decide +kernel
theorem dX4_readsNumber_64 : decode cX4_readsNumber 64 = .ok (.invokevirtual 61, 3) := by decide +kernel
theorem dX4_readsNumber_67 : decode cX4_readsNumber 67 = .ok (.ireturn, 1) := by decide +kernel
theorem dX4_readsNumber_68 : decode cX4_readsNumber 68 = .ok (.aload_n 0, 1) := by decide +kernel
theorem dX4_readsNumber_69 : decode cX4_readsNumber 69 = .ok (.dup, 1) := by decide +kernel
theorem dX4_readsNumber_70 : decode cX4_readsNumber 70 = .ok (.getfield 24, 3) := by decide +kernel
theorem dX4_readsNumber_73 : decode cX4_readsNumber 73 = .ok (.iconst 1, 1) := by decide +kernel
theorem dX4_readsNumber_74 : decode cX4_readsNumber 74 = .ok (.iadd, 1) := by decide +kernel
theorem dX4_readsNumber_75 : decode cX4_readsNumber 75 = .ok (.putfield 24, 3) := by decide +kernel
theorem dX4_readsNumber_78 : decode cX4_readsNumber 78 = .ok (.iconst 1, 1) := by decide +kernel
theorem dX4_readsNumber_79 : decode cX4_readsNumber 79 = .ok (.ireturn, 1) := by decide +kernel
theorem dX4_readsStatement_0 : decode cX4_readsStatement 0 = .ok (.aload_n 0, 1) := by decide +kernel
theorem dX4_readsStatement_1 : decode cX4_readsStatement 1 = .ok (.invokevirtual 41, 3) := by decide +kernel
theorem dX4_readsStatement_4 : decode cX4_readsStatement 4 = .ok (.istore_n 1, 1) := by decide +kernel
theorem dX4_readsStatement_5 : decode cX4_readsStatement 5 = .ok (.iload_n 1, 1) := by decide +kernel
theorem dX4_readsStatement_6 : decode cX4_readsStatement 6 = .ok (.tableswitch 109 11 19 #[50, 55, 60, 65, 65, 65, 65, 65, 87], 50) := by decide +kernel
theorem dX4_readsStatement_56 : decode cX4_readsStatement 56 = .ok (.aload_n 0, 1) := by decide +kernel
theorem dX4_readsStatement_57 : decode cX4_readsStatement 57 = .ok (.invokevirtual 70, 3) := by decide +kernel
theorem dX4_readsStatement_60 : decode cX4_readsStatement 60 = .ok (.ireturn, 1) := by decide +kernel
theorem dX4_readsStatement_61 : decode cX4_readsStatement 61 = .ok (.aload_n 0, 1) := by decide +kernel
theorem dX4_readsStatement_62 : decode cX4_readsStatement 62 = .ok (.invokevirtual 73, 3) := by decide +kernel
theorem dX4_readsStatement_65 : decode cX4_readsStatement 65 = .ok (.ireturn, 1) := by decide +kernel
theorem dX4_readsStatement_66 : decode cX4_readsStatement 66 = .ok (.aload_n 0, 1) := by decide +kernel
theorem dX4_readsStatement_67 : decode cX4_readsStatement 67 = .ok (.invokevirtual 76, 3) := by decide +kernel
theorem dX4_readsStatement_70 : decode cX4_readsStatement 70 = .ok (.ireturn, 1) := by decide +kernel
theorem dX4_readsStatement_71 : decode cX4_readsStatement 71 = .ok (.aload_n 0, 1) := by decide +kernel
theorem dX4_readsStatement_72 : decode cX4_readsStatement 72 = .ok (.iload_n 1, 1) := by decide +kernel
theorem dX4_readsStatement_73 : decode cX4_readsStatement 73 = .ok (.invokevirtual 79, 3) := by decide +kernel
theorem dX4_readsStatement_76 : decode cX4_readsStatement 76 = .ok (.ifCond .eq 15, 3) := by decide +kernel
theorem dX4_readsStatement_79 : decode cX4_readsStatement 79 = .ok (.aload_n 0, 1) := by decide +kernel
theorem dX4_readsStatement_80 : decode cX4_readsStatement 80 = .ok (.iload_n 1, 1) := by decide +kernel
theorem dX4_readsStatement_81 : decode cX4_readsStatement 81 = .ok (.invokevirtual 82, 3) := by decide +kernel
theorem dX4_readsStatement_84 : decode cX4_readsStatement 84 = .ok (.ifCond .eq 7, 3) := by decide +kernel
theorem dX4_readsStatement_87 : decode cX4_readsStatement 87 = .ok (.iconst 1, 1) := by decide +kernel
theorem dX4_readsStatement_88 : decode cX4_readsStatement 88 = .ok (.goto 4, 3) := by decide +kernel
theorem dX4_readsStatement_91 : decode cX4_readsStatement 91 = .ok (.iconst 0, 1) := by decide +kernel
theorem dX4_readsStatement_92 : decode cX4_readsStatement 92 = .ok (.ireturn, 1) := by decide +kernel
theorem dX4_readsStatement_93 : decode cX4_readsStatement 93 = .ok (.aload_n 0, 1) := by decide +kernel
theorem dX4_readsStatement_94 : decode cX4_readsStatement 94 = .ok (.iload_n 1, 1) := by decide +kernel
theorem dX4_readsStatement_95 : decode cX4_readsStatement 95 = .ok (.invokevirtual 79, 3) := by decide +kernel
theorem dX4_readsStatement_98 : decode cX4_readsStatement 98 = .ok (.ifCond .eq 15, 3) := by decide +kernel
theorem dX4_readsStatement_101 : decode cX4_readsStatement 101 = .ok (.aload_n 0, 1) := by decide +kernel
theorem dX4_readsStatement_102 : decode cX4_readsStatement 102 = .ok (.iconst 0, 1) := by decide +kernel
theorem dX4_readsStatement_103 : decode cX4_readsStatement 103 = .ok (.invokevirtual 85, 3) := by decide +kernel
theorem dX4_readsStatement_106 : decode cX4_readsStatement 106 = .ok (.ifCond .eq 7, 3) := by decide +kernel
theorem dX4_readsStatement_109 : decode cX4_readsStatement 109 = .ok (.iconst 1, 1) := by decide +kernel
theorem dX4_readsStatement_110 : decode cX4_readsStatement 110 = .ok (.goto 4, 3) := by decide +kernel
theorem dX4_readsStatement_113 : decode cX4_readsStatement 113 = .ok (.iconst 0, 1) := by decide +kernel
theorem dX4_readsStatement_114 : decode cX4_readsStatement 114 = .ok (.ireturn, 1) := by decide +kernel
theorem dX4_readsStatement_115 : decode cX4_readsStatement 115 = .ok (.aload_n 0, 1) := by decide +kernel
theorem dX4_readsStatement_116 : decode cX4_readsStatement 116 = .ok (.bipush (-2), 2) := by decide +kernel
theorem dX4_readsStatement_118 : decode cX4_readsStatement 118 = .ok (.invokevirtual 61, 3) := by decide +kernel
theorem dX4_readsStatement_121 : decode cX4_readsStatement 121 = .ok (.ireturn, 1) := by decide +kernel
theorem dX4_beginsOnce_0 : decode cX4_beginsOnce 0 = .ok (.aload_n 0, 1) := by decide +kernel
theorem dX4_beginsOnce_1 : decode cX4_beginsOnce 1 = .ok (.getfield 28, 3) := by decide +kernel
theorem dX4_beginsOnce_4 : decode cX4_beginsOnce 4 = .ok (.iconst 1, 1) := by decide +kernel
theorem dX4_beginsOnce_5 : decode cX4_beginsOnce 5 = .ok (.iload_n 1, 1) := by decide +kernel
theorem dX4_beginsOnce_6 : decode cX4_beginsOnce 6 = .ok (.ishl, 1) := by decide +kernel
theorem dX4_beginsOnce_7 : decode cX4_beginsOnce 7 = .ok (.iand, 1) := by decide +kernel
theorem dX4_beginsOnce_8 : decode cX4_beginsOnce 8 = .ok (.ifCond .eq 10, 3) := by decide +kernel
theorem dX4_beginsOnce_11 : decode cX4_beginsOnce 11 = .ok (.aload_n 0, 1) := by decide +kernel
theorem dX4_beginsOnce_12 : decode cX4_beginsOnce 12 = .ok (.bipush (-2), 2) := by decide +kernel
theorem dX4_beginsOnce_14 : decode cX4_beginsOnce 14 = .ok (.invokevirtual 61, 3) := by decide +kernel
theorem dX4_beginsOnce_17 : decode cX4_beginsOnce 17 = .ok (.ireturn, 1) := by decide +kernel
theorem dX4_beginsOnce_18 : decode cX4_beginsOnce 18 = .ok (.aload_n 0, 1) := by decide +kernel
theorem dX4_beginsOnce_19 : decode cX4_beginsOnce 19 = .ok (.dup, 1) := by decide +kernel
theorem dX4_beginsOnce_20 : decode cX4_beginsOnce 20 = .ok (.getfield 28, 3) := by decide +kernel
theorem dX4_beginsOnce_23 : decode cX4_beginsOnce 23 = .ok (.iconst 1, 1) := by decide +kernel
theorem dX4_beginsOnce_24 : decode cX4_beginsOnce 24 = .ok (.iload_n 1, 1) := by decide +kernel
theorem dX4_beginsOnce_25 : decode cX4_beginsOnce 25 = .ok (.ishl, 1) := by decide +kernel
theorem dX4_beginsOnce_26 : decode cX4_beginsOnce 26 = .ok (.ior, 1) := by decide +kernel
theorem dX4_beginsOnce_27 : decode cX4_beginsOnce 27 = .ok (.putfield 28, 3) := by decide +kernel
theorem dX4_beginsOnce_30 : decode cX4_beginsOnce 30 = .ok (.aload_n 0, 1) := by decide +kernel
theorem dX4_beginsOnce_31 : decode cX4_beginsOnce 31 = .ok (.dup, 1) := by decide +kernel
theorem dX4_beginsOnce_32 : decode cX4_beginsOnce 32 = .ok (.getfield 24, 3) := by decide +kernel
theorem dX4_beginsOnce_35 : decode cX4_beginsOnce 35 = .ok (.iconst 1, 1) := by decide +kernel
theorem dX4_beginsOnce_36 : decode cX4_beginsOnce 36 = .ok (.iadd, 1) := by decide +kernel
theorem dX4_beginsOnce_37 : decode cX4_beginsOnce 37 = .ok (.putfield 24, 3) := by decide +kernel
theorem dX4_beginsOnce_40 : decode cX4_beginsOnce 40 = .ok (.iconst 1, 1) := by decide +kernel
theorem dX4_beginsOnce_41 : decode cX4_beginsOnce 41 = .ok (.ireturn, 1) := by decide +kernel
theorem dX4_readsRule_0 : decode cX4_readsRule 0 = .ok (.iload_n 1, 1) := by decide +kernel
theorem dX4_readsRule_1 : decode cX4_readsRule 1 = .ok (.bipush 16, 2) := by decide +kernel
theorem dX4_readsRule_3 : decode cX4_readsRule 3 = .ok (.if_icmp .eq 9, 3) := by decide +kernel
theorem dX4_readsRule_6 : decode cX4_readsRule 6 = .ok (.iload_n 1, 1) := by decide +kernel
theorem dX4_readsRule_7 : decode cX4_readsRule 7 = .ok (.bipush 18, 2) := by decide +kernel
theorem dX4_readsRule_9 : decode cX4_readsRule 9 = .ok (.if_icmp .ne 7, 3) := by decide +kernel
theorem dX4_readsRule_12 : decode cX4_readsRule 12 = .ok (.iconst 0, 1) := by decide +kernel
theorem dX4_readsRule_13 : decode cX4_readsRule 13 = .ok (.goto 4, 3) := by decide +kernel
theorem dX4_readsRule_16 : decode cX4_readsRule 16 = .ok (.iconst 1, 1) := by decide +kernel
theorem dX4_readsRule_17 : decode cX4_readsRule 17 = .ok (.istore_n 2, 1) := by decide +kernel
theorem dX4_readsRule_18 : decode cX4_readsRule 18 = .ok (.iload_n 1, 1) := by decide +kernel
theorem dX4_readsRule_19 : decode cX4_readsRule 19 = .ok (.bipush 16, 2) := by decide +kernel
theorem dX4_readsRule_21 : decode cX4_readsRule 21 = .ok (.if_icmp .ne 9, 3) := by decide +kernel
theorem dX4_readsRule_24 : decode cX4_readsRule 24 = .ok (.sipush 999, 3) := by decide +kernel
theorem dX4_readsRule_27 : decode cX4_readsRule 27 = .ok (.goto 5, 3) := by decide +kernel
theorem dX4_readsRule_30 : decode cX4_readsRule 30 = .ok (.bipush 99, 2) := by decide +kernel
theorem dX4_readsRule_32 : decode cX4_readsRule 32 = .ok (.istore_n 3, 1) := by decide +kernel
theorem dX4_readsRule_33 : decode cX4_readsRule 33 = .ok (.aload_n 0, 1) := by decide +kernel
theorem dX4_readsRule_34 : decode cX4_readsRule 34 = .ok (.iload_n 2, 1) := by decide +kernel
theorem dX4_readsRule_35 : decode cX4_readsRule 35 = .ok (.iload_n 3, 1) := by decide +kernel
theorem dX4_readsRule_36 : decode cX4_readsRule 36 = .ok (.invokevirtual 88, 3) := by decide +kernel
theorem dX4_readsRule_39 : decode cX4_readsRule 39 = .ok (.ifCond .ne 5, 3) := by decide +kernel
theorem dX4_readsRule_42 : decode cX4_readsRule 42 = .ok (.iconst 0, 1) := by decide +kernel
theorem dX4_readsRule_43 : decode cX4_readsRule 43 = .ok (.ireturn, 1) := by decide +kernel
theorem dX4_readsRule_44 : decode cX4_readsRule 44 = .ok (.iload_n 1, 1) := by decide +kernel
theorem dX4_readsRule_45 : decode cX4_readsRule 45 = .ok (.bipush 14, 2) := by decide +kernel
theorem dX4_readsRule_47 : decode cX4_readsRule 47 = .ok (.if_icmp .ne 17, 3) := by decide +kernel
theorem dX4_readsRule_50 : decode cX4_readsRule 50 = .ok (.aload_n 0, 1) := by decide +kernel
theorem dX4_readsRule_51 : decode cX4_readsRule 51 = .ok (.getfield 15, 3) := by decide +kernel
theorem dX4_readsRule_54 : decode cX4_readsRule 54 = .ok (.aload_n 0, 1) := by decide +kernel
theorem dX4_readsRule_55 : decode cX4_readsRule 55 = .ok (.getfield 67, 3) := by decide +kernel
theorem dX4_readsRule_58 : decode cX4_readsRule 58 = .ok (.putfield 92, 3) := by decide +kernel
theorem dX4_readsRule_61 : decode cX4_readsRule 61 = .ok (.goto 74, 3) := by decide +kernel
theorem dX4_readsRule_64 : decode cX4_readsRule 64 = .ok (.iload_n 1, 1) := by decide +kernel
theorem dX4_readsRule_65 : decode cX4_readsRule 65 = .ok (.bipush 15, 2) := by decide +kernel
theorem dX4_readsRule_67 : decode cX4_readsRule 67 = .ok (.if_icmp .ne 17, 3) := by decide +kernel
theorem dX4_readsRule_70 : decode cX4_readsRule 70 = .ok (.aload_n 0, 1) := by decide +kernel
theorem dX4_readsRule_71 : decode cX4_readsRule 71 = .ok (.getfield 15, 3) := by decide +kernel
theorem dX4_readsRule_74 : decode cX4_readsRule 74 = .ok (.aload_n 0, 1) := by decide +kernel
theorem dX4_readsRule_75 : decode cX4_readsRule 75 = .ok (.getfield 67, 3) := by decide +kernel
theorem dX4_readsRule_78 : decode cX4_readsRule 78 = .ok (.putfield 95, 3) := by decide +kernel
theorem dX4_readsRule_81 : decode cX4_readsRule 81 = .ok (.goto 54, 3) := by decide +kernel
theorem dX4_readsRule_84 : decode cX4_readsRule 84 = .ok (.iload_n 1, 1) := by decide +kernel
theorem dX4_readsRule_85 : decode cX4_readsRule 85 = .ok (.bipush 16, 2) := by decide +kernel
theorem dX4_readsRule_87 : decode cX4_readsRule 87 = .ok (.if_icmp .ne 17, 3) := by decide +kernel
theorem dX4_readsRule_90 : decode cX4_readsRule 90 = .ok (.aload_n 0, 1) := by decide +kernel
theorem dX4_readsRule_91 : decode cX4_readsRule 91 = .ok (.getfield 15, 3) := by decide +kernel
theorem dX4_readsRule_94 : decode cX4_readsRule 94 = .ok (.aload_n 0, 1) := by decide +kernel
theorem dX4_readsRule_95 : decode cX4_readsRule 95 = .ok (.getfield 67, 3) := by decide +kernel
theorem dX4_readsRule_98 : decode cX4_readsRule 98 = .ok (.putfield 98, 3) := by decide +kernel
theorem dX4_readsRule_101 : decode cX4_readsRule 101 = .ok (.goto 34, 3) := by decide +kernel
theorem dX4_readsRule_104 : decode cX4_readsRule 104 = .ok (.iload_n 1, 1) := by decide +kernel
theorem dX4_readsRule_105 : decode cX4_readsRule 105 = .ok (.bipush 17, 2) := by decide +kernel
theorem dX4_readsRule_107 : decode cX4_readsRule 107 = .ok (.if_icmp .ne 17, 3) := by decide +kernel
theorem dX4_readsRule_110 : decode cX4_readsRule 110 = .ok (.aload_n 0, 1) := by decide +kernel
theorem dX4_readsRule_111 : decode cX4_readsRule 111 = .ok (.getfield 15, 3) := by decide +kernel
theorem dX4_readsRule_114 : decode cX4_readsRule 114 = .ok (.aload_n 0, 1) := by decide +kernel
theorem dX4_readsRule_115 : decode cX4_readsRule 115 = .ok (.getfield 67, 3) := by decide +kernel
theorem dX4_readsRule_118 : decode cX4_readsRule 118 = .ok (.putfield 101, 3) := by decide +kernel
theorem dX4_readsRule_121 : decode cX4_readsRule 121 = .ok (.goto 14, 3) := by decide +kernel
theorem dX4_readsRule_124 : decode cX4_readsRule 124 = .ok (.aload_n 0, 1) := by decide +kernel
theorem dX4_readsRule_125 : decode cX4_readsRule 125 = .ok (.getfield 15, 3) := by decide +kernel
theorem dX4_readsRule_128 : decode cX4_readsRule 128 = .ok (.aload_n 0, 1) := by decide +kernel
theorem dX4_readsRule_129 : decode cX4_readsRule 129 = .ok (.getfield 67, 3) := by decide +kernel
theorem dX4_readsRule_132 : decode cX4_readsRule 132 = .ok (.putfield 104, 3) := by decide +kernel
theorem dX4_readsRule_135 : decode cX4_readsRule 135 = .ok (.iconst 1, 1) := by decide +kernel
theorem dX4_readsRule_136 : decode cX4_readsRule 136 = .ok (.ireturn, 1) := by decide +kernel
theorem dX4_readsHandler_0 : decode cX4_readsHandler 0 = .ok (.aload_n 0, 1) := by decide +kernel
theorem dX4_readsHandler_1 : decode cX4_readsHandler 1 = .ok (.getfield 15, 3) := by decide +kernel
theorem dX4_readsHandler_4 : decode cX4_readsHandler 4 = .ok (.getfield 107, 3) := by decide +kernel
theorem dX4_readsHandler_7 : decode cX4_readsHandler 7 = .ok (.bipush 6, 2) := by decide +kernel
theorem dX4_readsHandler_9 : decode cX4_readsHandler 9 = .ok (.if_icmp .lt 10, 3) := by decide +kernel
theorem dX4_readsHandler_12 : decode cX4_readsHandler 12 = .ok (.aload_n 0, 1) := by decide +kernel
theorem dX4_readsHandler_13 : decode cX4_readsHandler 13 = .ok (.bipush (-5), 2) := by decide +kernel
theorem dX4_readsHandler_15 : decode cX4_readsHandler 15 = .ok (.invokevirtual 61, 3) := by decide +kernel
theorem dX4_readsHandler_18 : decode cX4_readsHandler 18 = .ok (.ireturn, 1) := by decide +kernel
theorem dX4_readsHandler_19 : decode cX4_readsHandler 19 = .ok (.aload_n 0, 1) := by decide +kernel
theorem dX4_readsHandler_20 : decode cX4_readsHandler 20 = .ok (.dup, 1) := by decide +kernel
theorem dX4_readsHandler_21 : decode cX4_readsHandler 21 = .ok (.getfield 24, 3) := by decide +kernel
theorem dX4_readsHandler_24 : decode cX4_readsHandler 24 = .ok (.iconst 1, 1) := by decide +kernel
theorem dX4_readsHandler_25 : decode cX4_readsHandler 25 = .ok (.iadd, 1) := by decide +kernel
theorem dX4_readsHandler_26 : decode cX4_readsHandler 26 = .ok (.putfield 24, 3) := by decide +kernel
theorem dX4_readsHandler_29 : decode cX4_readsHandler 29 = .ok (.aload_n 0, 1) := by decide +kernel
theorem dX4_readsHandler_30 : decode cX4_readsHandler 30 = .ok (.iconst 0, 1) := by decide +kernel
theorem dX4_readsHandler_31 : decode cX4_readsHandler 31 = .ok (.sipush 9999, 3) := by decide +kernel
theorem dX4_readsHandler_34 : decode cX4_readsHandler 34 = .ok (.invokevirtual 88, 3) := by decide +kernel
theorem dX4_readsHandler_37 : decode cX4_readsHandler 37 = .ok (.ifCond .ne 5, 3) := by decide +kernel
theorem dX4_readsHandler_40 : decode cX4_readsHandler 40 = .ok (.iconst 0, 1) := by decide +kernel
theorem dX4_readsHandler_41 : decode cX4_readsHandler 41 = .ok (.ireturn, 1) := by decide +kernel
theorem dX4_readsHandler_42 : decode cX4_readsHandler 42 = .ok (.aload_n 0, 1) := by decide +kernel
theorem dX4_readsHandler_43 : decode cX4_readsHandler 43 = .ok (.getfield 67, 3) := by decide +kernel
theorem dX4_readsHandler_46 : decode cX4_readsHandler 46 = .ok (.istore_n 1, 1) := by decide +kernel
theorem dX4_readsHandler_47 : decode cX4_readsHandler 47 = .ok (.aload_n 0, 1) := by decide +kernel
theorem dX4_readsHandler_48 : decode cX4_readsHandler 48 = .ok (.iconst 1, 1) := by decide +kernel
theorem dX4_readsHandler_49 : decode cX4_readsHandler 49 = .ok (.bipush 20, 2) := by decide +kernel
theorem dX4_readsHandler_51 : decode cX4_readsHandler 51 = .ok (.invokevirtual 88, 3) := by decide +kernel
theorem dX4_readsHandler_54 : decode cX4_readsHandler 54 = .ok (.ifCond .ne 5, 3) := by decide +kernel
theorem dX4_readsHandler_57 : decode cX4_readsHandler 57 = .ok (.iconst 0, 1) := by decide +kernel
theorem dX4_readsHandler_58 : decode cX4_readsHandler 58 = .ok (.ireturn, 1) := by decide +kernel
theorem dX4_readsHandler_59 : decode cX4_readsHandler 59 = .ok (.aload_n 0, 1) := by decide +kernel
theorem dX4_readsHandler_60 : decode cX4_readsHandler 60 = .ok (.getfield 15, 3) := by decide +kernel
theorem dX4_readsHandler_63 : decode cX4_readsHandler 63 = .ok (.iload_n 1, 1) := by decide +kernel
theorem dX4_readsHandler_64 : decode cX4_readsHandler 64 = .ok (.aload_n 0, 1) := by decide +kernel
theorem dX4_readsHandler_65 : decode cX4_readsHandler 65 = .ok (.getfield 67, 3) := by decide +kernel
theorem dX4_readsHandler_68 : decode cX4_readsHandler 68 = .ok (.invokevirtual 110, 3) := by decide +kernel
theorem dX4_readsHandler_71 : decode cX4_readsHandler 71 = .ok (.iconst 1, 1) := by decide +kernel
theorem dX4_readsHandler_72 : decode cX4_readsHandler 72 = .ok (.ireturn, 1) := by decide +kernel
theorem dX4_readsLine_0 : decode cX4_readsLine 0 = .ok (.aload_n 0, 1) := by decide +kernel
theorem dX4_readsLine_1 : decode cX4_readsLine 1 = .ok (.getfield 15, 3) := by decide +kernel
theorem dX4_readsLine_4 : decode cX4_readsLine 4 = .ok (.getfield 114, 3) := by decide +kernel
theorem dX4_readsLine_7 : decode cX4_readsLine 7 = .ok (.bipush 8, 2) := by decide +kernel
theorem dX4_readsLine_9 : decode cX4_readsLine 9 = .ok (.if_icmp .lt 10, 3) := by decide +kernel
theorem dX4_readsLine_12 : decode cX4_readsLine 12 = .ok (.aload_n 0, 1) := by decide +kernel
theorem dX4_readsLine_13 : decode cX4_readsLine 13 = .ok (.bipush (-5), 2) := by decide +kernel
theorem dX4_readsLine_15 : decode cX4_readsLine 15 = .ok (.invokevirtual 61, 3) := by decide +kernel
theorem dX4_readsLine_18 : decode cX4_readsLine 18 = .ok (.ireturn, 1) := by decide +kernel
theorem dX4_readsLine_19 : decode cX4_readsLine 19 = .ok (.aload_n 0, 1) := by decide +kernel
theorem dX4_readsLine_20 : decode cX4_readsLine 20 = .ok (.dup, 1) := by decide +kernel
theorem dX4_readsLine_21 : decode cX4_readsLine 21 = .ok (.getfield 24, 3) := by decide +kernel
theorem dX4_readsLine_24 : decode cX4_readsLine 24 = .ok (.iconst 1, 1) := by decide +kernel
theorem dX4_readsLine_25 : decode cX4_readsLine 25 = .ok (.iadd, 1) := by decide +kernel
theorem dX4_readsLine_26 : decode cX4_readsLine 26 = .ok (.putfield 24, 3) := by decide +kernel
theorem dX4_readsLine_29 : decode cX4_readsLine 29 = .ok (.aload_n 0, 1) := by decide +kernel
theorem dX4_readsLine_30 : decode cX4_readsLine 30 = .ok (.iconst 0, 1) := by decide +kernel
theorem dX4_readsLine_31 : decode cX4_readsLine 31 = .ok (.bipush 99, 2) := by decide +kernel
theorem dX4_readsLine_33 : decode cX4_readsLine 33 = .ok (.invokevirtual 88, 3) := by decide +kernel
theorem dX4_readsLine_36 : decode cX4_readsLine 36 = .ok (.ifCond .ne 5, 3) := by decide +kernel
theorem dX4_readsLine_39 : decode cX4_readsLine 39 = .ok (.iconst 0, 1) := by decide +kernel
theorem dX4_readsLine_40 : decode cX4_readsLine 40 = .ok (.ireturn, 1) := by decide +kernel
theorem dX4_readsLine_41 : decode cX4_readsLine 41 = .ok (.aload_n 0, 1) := by decide +kernel
theorem dX4_readsLine_42 : decode cX4_readsLine 42 = .ok (.getfield 67, 3) := by decide +kernel
theorem dX4_readsLine_45 : decode cX4_readsLine 45 = .ok (.istore_n 1, 1) := by decide +kernel
theorem dX4_readsLine_46 : decode cX4_readsLine 46 = .ok (.aload_n 0, 1) := by decide +kernel
theorem dX4_readsLine_47 : decode cX4_readsLine 47 = .ok (.iconst 1, 1) := by decide +kernel
theorem dX4_readsLine_48 : decode cX4_readsLine 48 = .ok (.bipush 20, 2) := by decide +kernel
theorem dX4_readsLine_50 : decode cX4_readsLine 50 = .ok (.invokevirtual 88, 3) := by decide +kernel
theorem dX4_readsLine_53 : decode cX4_readsLine 53 = .ok (.ifCond .ne 5, 3) := by decide +kernel
theorem dX4_readsLine_56 : decode cX4_readsLine 56 = .ok (.iconst 0, 1) := by decide +kernel
theorem dX4_readsLine_57 : decode cX4_readsLine 57 = .ok (.ireturn, 1) := by decide +kernel
theorem dX4_readsLine_58 : decode cX4_readsLine 58 = .ok (.aload_n 0, 1) := by decide +kernel
theorem dX4_readsLine_59 : decode cX4_readsLine 59 = .ok (.getfield 67, 3) := by decide +kernel
theorem dX4_readsLine_62 : decode cX4_readsLine 62 = .ok (.istore_n 2, 1) := by decide +kernel
theorem dX4_readsLine_63 : decode cX4_readsLine 63 = .ok (.aload_n 0, 1) := by decide +kernel
theorem dX4_readsLine_64 : decode cX4_readsLine 64 = .ok (.iconst 0, 1) := by decide +kernel
theorem dX4_readsLine_65 : decode cX4_readsLine 65 = .ok (.sipush 9999, 3) := by decide +kernel
theorem dX4_readsLine_68 : decode cX4_readsLine 68 = .ok (.invokevirtual 88, 3) := by decide +kernel
theorem dX4_readsLine_71 : decode cX4_readsLine 71 = .ok (.ifCond .ne 5, 3) := by decide +kernel
theorem dX4_readsLine_74 : decode cX4_readsLine 74 = .ok (.iconst 0, 1) := by decide +kernel
theorem dX4_readsLine_75 : decode cX4_readsLine 75 = .ok (.ireturn, 1) := by decide +kernel
theorem dX4_readsLine_76 : decode cX4_readsLine 76 = .ok (.aload_n 0, 1) := by decide +kernel
theorem dX4_readsLine_77 : decode cX4_readsLine 77 = .ok (.getfield 15, 3) := by decide +kernel
theorem dX4_readsLine_80 : decode cX4_readsLine 80 = .ok (.getfield 117, 3) := by decide +kernel
theorem dX4_readsLine_83 : decode cX4_readsLine 83 = .ok (.aload_n 0, 1) := by decide +kernel
theorem dX4_readsLine_84 : decode cX4_readsLine 84 = .ok (.getfield 15, 3) := by decide +kernel
theorem dX4_readsLine_87 : decode cX4_readsLine 87 = .ok (.getfield 114, 3) := by decide +kernel
theorem dX4_readsLine_90 : decode cX4_readsLine 90 = .ok (.aaload, 1) := by decide +kernel
theorem dX4_readsLine_91 : decode cX4_readsLine 91 = .ok (.astore_n 3, 1) := by decide +kernel
theorem dX4_readsLine_92 : decode cX4_readsLine 92 = .ok (.aload_n 0, 1) := by decide +kernel
theorem dX4_readsLine_93 : decode cX4_readsLine 93 = .ok (.getfield 15, 3) := by decide +kernel
theorem dX4_readsLine_96 : decode cX4_readsLine 96 = .ok (.iload_n 1, 1) := by decide +kernel
theorem dX4_readsLine_97 : decode cX4_readsLine 97 = .ok (.iload_n 2, 1) := by decide +kernel
theorem dX4_readsLine_98 : decode cX4_readsLine 98 = .ok (.aload_n 0, 1) := by decide +kernel
theorem dX4_readsLine_99 : decode cX4_readsLine 99 = .ok (.getfield 67, 3) := by decide +kernel
theorem dX4_readsLine_102 : decode cX4_readsLine 102 = .ok (.invokevirtual 121, 3) := by decide +kernel
theorem dX4_readsLine_105 : decode cX4_readsLine 105 = .ok (.iconst 1, 1) := by decide +kernel
theorem dX4_readsLine_106 : decode cX4_readsLine 106 = .ok (.istore 4, 2) := by decide +kernel
theorem dX4_readsLine_108 : decode cX4_readsLine 108 = .ok (.iconst 0, 1) := by decide +kernel
theorem dX4_readsLine_109 : decode cX4_readsLine 109 = .ok (.istore 5, 2) := by decide +kernel
theorem dX4_readsLine_111 : decode cX4_readsLine 111 = .ok (.iload 5, 2) := by decide +kernel
theorem dX4_readsLine_113 : decode cX4_readsLine 113 = .ok (.sipush 700, 3) := by decide +kernel
theorem dX4_readsLine_116 : decode cX4_readsLine 116 = .ok (.if_icmp .ge 29, 3) := by decide +kernel
theorem dX4_readsLine_119 : decode cX4_readsLine 119 = .ok (.iload 4, 2) := by decide +kernel
theorem dX4_readsLine_121 : decode cX4_readsLine 121 = .ok (.ifCond .eq 24, 3) := by decide +kernel
theorem dX4_readsLine_124 : decode cX4_readsLine 124 = .ok (.aload_n 0, 1) := by decide +kernel
theorem dX4_readsLine_125 : decode cX4_readsLine 125 = .ok (.invokevirtual 41, 3) := by decide +kernel
theorem dX4_readsLine_128 : decode cX4_readsLine 128 = .ok (.iconst 2, 1) := by decide +kernel
theorem dX4_readsLine_129 : decode cX4_readsLine 129 = .ok (.if_icmp .ne 16, 3) := by decide +kernel
theorem dX4_readsLine_132 : decode cX4_readsLine 132 = .ok (.aload_n 0, 1) := by decide +kernel
theorem dX4_readsLine_133 : decode cX4_readsLine 133 = .ok (.aload_n 3, 1) := by decide +kernel
theorem dX4_readsLine_134 : decode cX4_readsLine 134 = .ok (.invokevirtual 125, 3) := by decide +kernel
theorem dX4_readsLine_137 : decode cX4_readsLine 137 = .ok (.istore 4, 2) := by decide +kernel
theorem dX4_readsLine_139 : decode cX4_readsLine 139 = .ok (.iinc 5 1, 3) := by decide +kernel
theorem dX4_readsLine_142 : decode cX4_readsLine 142 = .ok (.goto (-31), 3) := by decide +kernel
theorem dX4_readsLine_145 : decode cX4_readsLine 145 = .ok (.iload 4, 2) := by decide +kernel
theorem dX4_readsLine_147 : decode cX4_readsLine 147 = .ok (.ireturn, 1) := by decide +kernel
theorem dX4_readsTenant_0 : decode cX4_readsTenant 0 = .ok (.aload_n 0, 1) := by decide +kernel
theorem dX4_readsTenant_1 : decode cX4_readsTenant 1 = .ok (.getfield 24, 3) := by decide +kernel
theorem dX4_readsTenant_4 : decode cX4_readsTenant 4 = .ok (.istore_n 2, 1) := by decide +kernel
theorem dX4_readsTenant_5 : decode cX4_readsTenant 5 = .ok (.aload_n 0, 1) := by decide +kernel
theorem dX4_readsTenant_6 : decode cX4_readsTenant 6 = .ok (.iconst 0, 1) := by decide +kernel
theorem dX4_readsTenant_7 : decode cX4_readsTenant 7 = .ok (.aload_n 0, 1) := by decide +kernel
theorem dX4_readsTenant_8 : decode cX4_readsTenant 8 = .ok (.getfield 15, 3) := by decide +kernel
theorem dX4_readsTenant_11 : decode cX4_readsTenant 11 = .ok (.getfield 107, 3) := by decide +kernel
theorem dX4_readsTenant_14 : decode cX4_readsTenant 14 = .ok (.iconst 1, 1) := by decide +kernel
theorem dX4_readsTenant_15 : decode cX4_readsTenant 15 = .ok (.isub, 1) := by decide +kernel
theorem dX4_readsTenant_16 : decode cX4_readsTenant 16 = .ok (.invokevirtual 88, 3) := by decide +kernel
theorem dX4_readsTenant_19 : decode cX4_readsTenant 19 = .ok (.ifCond .ne 5, 3) := by decide +kernel
theorem dX4_readsTenant_22 : decode cX4_readsTenant 22 = .ok (.iconst 0, 1) := by decide +kernel
theorem dX4_readsTenant_23 : decode cX4_readsTenant 23 = .ok (.ireturn, 1) := by decide +kernel
theorem dX4_readsTenant_24 : decode cX4_readsTenant 24 = .ok (.aload_n 1, 1) := by decide +kernel
theorem dX4_readsTenant_25 : decode cX4_readsTenant 25 = .ok (.aload_n 0, 1) := by decide +kernel
theorem dX4_readsTenant_26 : decode cX4_readsTenant 26 = .ok (.getfield 67, 3) := by decide +kernel
theorem dX4_readsTenant_29 : decode cX4_readsTenant 29 = .ok (.invokevirtual 129, 3) := by decide +kernel
theorem dX4_readsTenant_32 : decode cX4_readsTenant 32 = .ok (.ifCond .lt 7, 3) := by decide +kernel
theorem dX4_readsTenant_35 : decode cX4_readsTenant 35 = .ok (.iconst 1, 1) := by decide +kernel
theorem dX4_readsTenant_36 : decode cX4_readsTenant 36 = .ok (.goto 4, 3) := by decide +kernel
theorem dX4_readsTenant_39 : decode cX4_readsTenant 39 = .ok (.iconst 0, 1) := by decide +kernel
theorem dX4_readsTenant_40 : decode cX4_readsTenant 40 = .ok (.istore_n 3, 1) := by decide +kernel
theorem dX4_readsTenant_41 : decode cX4_readsTenant 41 = .ok (.iload_n 3, 1) := by decide +kernel
theorem dX4_readsTenant_42 : decode cX4_readsTenant 42 = .ok (.ifCond .ne 11, 3) := by decide +kernel
theorem dX4_readsTenant_45 : decode cX4_readsTenant 45 = .ok (.aload_n 1, 1) := by decide +kernel
theorem dX4_readsTenant_46 : decode cX4_readsTenant 46 = .ok (.getfield 135, 3) := by decide +kernel
theorem dX4_readsTenant_49 : decode cX4_readsTenant 49 = .ok (.iconst 3, 1) := by decide +kernel
theorem dX4_readsTenant_50 : decode cX4_readsTenant 50 = .ok (.if_icmp .lt 24, 3) := by decide +kernel
theorem dX4_readsTenant_53 : decode cX4_readsTenant 53 = .ok (.aload_n 0, 1) := by decide +kernel
theorem dX4_readsTenant_54 : decode cX4_readsTenant 54 = .ok (.iload_n 2, 1) := by decide +kernel
theorem dX4_readsTenant_55 : decode cX4_readsTenant 55 = .ok (.putfield 24, 3) := by decide +kernel
theorem dX4_readsTenant_58 : decode cX4_readsTenant 58 = .ok (.aload_n 0, 1) := by decide +kernel
theorem dX4_readsTenant_59 : decode cX4_readsTenant 59 = .ok (.iload_n 3, 1) := by decide +kernel
theorem dX4_readsTenant_60 : decode cX4_readsTenant 60 = .ok (.ifCond .eq 8, 3) := by decide +kernel
theorem dX4_readsTenant_63 : decode cX4_readsTenant 63 = .ok (.bipush (-4), 2) := by decide +kernel
theorem dX4_readsTenant_65 : decode cX4_readsTenant 65 = .ok (.goto 5, 3) := by decide +kernel
theorem dX4_readsTenant_68 : decode cX4_readsTenant 68 = .ok (.bipush (-5), 2) := by decide +kernel
theorem dX4_readsTenant_70 : decode cX4_readsTenant 70 = .ok (.invokevirtual 61, 3) := by decide +kernel
theorem dX4_readsTenant_73 : decode cX4_readsTenant 73 = .ok (.ireturn, 1) := by decide +kernel
theorem dX4_readsTenant_74 : decode cX4_readsTenant 74 = .ok (.aload_n 1, 1) := by decide +kernel
theorem dX4_readsTenant_75 : decode cX4_readsTenant 75 = .ok (.aload_n 0, 1) := by decide +kernel
theorem dX4_readsTenant_76 : decode cX4_readsTenant 76 = .ok (.getfield 67, 3) := by decide +kernel
theorem dX4_readsTenant_79 : decode cX4_readsTenant 79 = .ok (.invokevirtual 138, 3) := by decide +kernel
theorem dX4_readsTenant_82 : decode cX4_readsTenant 82 = .ok (.iconst 1, 1) := by decide +kernel
theorem dX4_readsTenant_83 : decode cX4_readsTenant 83 = .ok (.ireturn, 1) := by decide +kernel
theorem dX4_readsRaise_0 : decode cX4_readsRaise 0 = .ok (.aload_n 0, 1) := by decide +kernel
theorem dX4_readsRaise_1 : decode cX4_readsRaise 1 = .ok (.getfield 15, 3) := by decide +kernel
theorem dX4_readsRaise_4 : decode cX4_readsRaise 4 = .ok (.getfield 142, 3) := by decide +kernel
theorem dX4_readsRaise_7 : decode cX4_readsRaise 7 = .ok (.bipush 60, 2) := by decide +kernel
theorem dX4_readsRaise_9 : decode cX4_readsRaise 9 = .ok (.if_icmp .lt 10, 3) := by decide +kernel
theorem dX4_readsRaise_12 : decode cX4_readsRaise 12 = .ok (.aload_n 0, 1) := by decide +kernel
theorem dX4_readsRaise_13 : decode cX4_readsRaise 13 = .ok (.bipush (-5), 2) := by decide +kernel
theorem dX4_readsRaise_15 : decode cX4_readsRaise 15 = .ok (.invokevirtual 61, 3) := by decide +kernel
theorem dX4_readsRaise_18 : decode cX4_readsRaise 18 = .ok (.ireturn, 1) := by decide +kernel
theorem dX4_readsRaise_19 : decode cX4_readsRaise 19 = .ok (.aload_n 0, 1) := by decide +kernel
theorem dX4_readsRaise_20 : decode cX4_readsRaise 20 = .ok (.dup, 1) := by decide +kernel
theorem dX4_readsRaise_21 : decode cX4_readsRaise 21 = .ok (.getfield 24, 3) := by decide +kernel
theorem dX4_readsRaise_24 : decode cX4_readsRaise 24 = .ok (.iconst 1, 1) := by decide +kernel
theorem dX4_readsRaise_25 : decode cX4_readsRaise 25 = .ok (.iadd, 1) := by decide +kernel
theorem dX4_readsRaise_26 : decode cX4_readsRaise 26 = .ok (.putfield 24, 3) := by decide +kernel
theorem dX4_readsRaise_29 : decode cX4_readsRaise 29 = .ok (.aload_n 0, 1) := by decide +kernel
theorem dX4_readsRaise_30 : decode cX4_readsRaise 30 = .ok (.iconst 0, 1) := by decide +kernel
theorem dX4_readsRaise_31 : decode cX4_readsRaise 31 = .ok (.aload_n 0, 1) := by decide +kernel
theorem dX4_readsRaise_32 : decode cX4_readsRaise 32 = .ok (.getfield 15, 3) := by decide +kernel
theorem dX4_readsRaise_35 : decode cX4_readsRaise 35 = .ok (.getfield 114, 3) := by decide +kernel
theorem dX4_readsRaise_38 : decode cX4_readsRaise 38 = .ok (.iconst 1, 1) := by decide +kernel
theorem dX4_readsRaise_39 : decode cX4_readsRaise 39 = .ok (.isub, 1) := by decide +kernel
theorem dX4_readsRaise_40 : decode cX4_readsRaise 40 = .ok (.invokevirtual 88, 3) := by decide +kernel
theorem dX4_readsRaise_43 : decode cX4_readsRaise 43 = .ok (.ifCond .ne 5, 3) := by decide +kernel
theorem dX4_readsRaise_46 : decode cX4_readsRaise 46 = .ok (.iconst 0, 1) := by decide +kernel
theorem dX4_readsRaise_47 : decode cX4_readsRaise 47 = .ok (.ireturn, 1) := by decide +kernel
theorem dX4_readsRaise_48 : decode cX4_readsRaise 48 = .ok (.aload_n 0, 1) := by decide +kernel
theorem dX4_readsRaise_49 : decode cX4_readsRaise 49 = .ok (.getfield 67, 3) := by decide +kernel
theorem dX4_readsRaise_52 : decode cX4_readsRaise 52 = .ok (.istore_n 1, 1) := by decide +kernel
theorem dX4_readsRaise_53 : decode cX4_readsRaise 53 = .ok (.aload_n 0, 1) := by decide +kernel
theorem dX4_readsRaise_54 : decode cX4_readsRaise 54 = .ok (.iconst 0, 1) := by decide +kernel
theorem dX4_readsRaise_55 : decode cX4_readsRaise 55 = .ok (.sipush 999, 3) := by decide +kernel
theorem dX4_readsRaise_58 : decode cX4_readsRaise 58 = .ok (.invokevirtual 88, 3) := by decide +kernel
theorem dX4_readsRaise_61 : decode cX4_readsRaise 61 = .ok (.ifCond .ne 5, 3) := by decide +kernel
theorem dX4_readsRaise_64 : decode cX4_readsRaise 64 = .ok (.iconst 0, 1) := by decide +kernel
theorem dX4_readsRaise_65 : decode cX4_readsRaise 65 = .ok (.ireturn, 1) := by decide +kernel
theorem dX4_readsRaise_66 : decode cX4_readsRaise 66 = .ok (.aload_n 0, 1) := by decide +kernel
theorem dX4_readsRaise_67 : decode cX4_readsRaise 67 = .ok (.getfield 67, 3) := by decide +kernel
theorem dX4_readsRaise_70 : decode cX4_readsRaise 70 = .ok (.istore_n 2, 1) := by decide +kernel
theorem dX4_readsRaise_71 : decode cX4_readsRaise 71 = .ok (.aload_n 0, 1) := by decide +kernel
theorem dX4_readsRaise_72 : decode cX4_readsRaise 72 = .ok (.iconst 1, 1) := by decide +kernel
theorem dX4_readsRaise_73 : decode cX4_readsRaise 73 = .ok (.bipush 99, 2) := by decide +kernel
theorem dX4_readsRaise_75 : decode cX4_readsRaise 75 = .ok (.invokevirtual 88, 3) := by decide +kernel
theorem dX4_readsRaise_78 : decode cX4_readsRaise 78 = .ok (.ifCond .ne 5, 3) := by decide +kernel
theorem dX4_readsRaise_81 : decode cX4_readsRaise 81 = .ok (.iconst 0, 1) := by decide +kernel
theorem dX4_readsRaise_82 : decode cX4_readsRaise 82 = .ok (.ireturn, 1) := by decide +kernel
theorem dX4_readsRaise_83 : decode cX4_readsRaise 83 = .ok (.aload_n 0, 1) := by decide +kernel
theorem dX4_readsRaise_84 : decode cX4_readsRaise 84 = .ok (.getfield 15, 3) := by decide +kernel
theorem dX4_readsRaise_87 : decode cX4_readsRaise 87 = .ok (.iload_n 1, 1) := by decide +kernel
theorem dX4_readsRaise_88 : decode cX4_readsRaise 88 = .ok (.iload_n 2, 1) := by decide +kernel
theorem dX4_readsRaise_89 : decode cX4_readsRaise 89 = .ok (.aload_n 0, 1) := by decide +kernel
theorem dX4_readsRaise_90 : decode cX4_readsRaise 90 = .ok (.getfield 67, 3) := by decide +kernel
theorem dX4_readsRaise_93 : decode cX4_readsRaise 93 = .ok (.invokevirtual 145, 3) := by decide +kernel
theorem dX4_readsRaise_96 : decode cX4_readsRaise 96 = .ok (.iconst 1, 1) := by decide +kernel
theorem dX4_readsRaise_97 : decode cX4_readsRaise 97 = .ok (.ireturn, 1) := by decide +kernel
theorem dX4_readsSum_0 : decode cX4_readsSum 0 = .ok (.aload_n 0, 1) := by decide +kernel
theorem dX4_readsSum_1 : decode cX4_readsSum 1 = .ok (.iload_n 1, 1) := by decide +kernel
theorem dX4_readsSum_2 : decode cX4_readsSum 2 = .ok (.invokevirtual 148, 3) := by decide +kernel
theorem dX4_readsSum_5 : decode cX4_readsSum 5 = .ok (.istore_n 2, 1) := by decide +kernel
theorem dX4_readsSum_6 : decode cX4_readsSum 6 = .ok (.iconst 0, 1) := by decide +kernel
theorem dX4_readsSum_7 : decode cX4_readsSum 7 = .ok (.istore_n 3, 1) := by decide +kernel
theorem dX4_readsSum_8 : decode cX4_readsSum 8 = .ok (.iload_n 3, 1) := by decide +kernel
theorem dX4_readsSum_9 : decode cX4_readsSum 9 = .ok (.sipush 700, 3) := by decide +kernel
theorem dX4_readsSum_12 : decode cX4_readsSum 12 = .ok (.if_icmp .ge 66, 3) := by decide +kernel
theorem dX4_readsSum_15 : decode cX4_readsSum 15 = .ok (.iload_n 2, 1) := by decide +kernel
theorem dX4_readsSum_16 : decode cX4_readsSum 16 = .ok (.ifCond .eq 62, 3) := by decide +kernel
theorem dX4_readsSum_19 : decode cX4_readsSum 19 = .ok (.aload_n 0, 1) := by decide +kernel
theorem dX4_readsSum_20 : decode cX4_readsSum 20 = .ok (.invokevirtual 41, 3) := by decide +kernel
theorem dX4_readsSum_23 : decode cX4_readsSum 23 = .ok (.bipush 6, 2) := by decide +kernel
theorem dX4_readsSum_25 : decode cX4_readsSum 25 = .ok (.if_icmp .eq 12, 3) := by decide +kernel
theorem dX4_readsSum_28 : decode cX4_readsSum 28 = .ok (.aload_n 0, 1) := by decide +kernel
theorem dX4_readsSum_29 : decode cX4_readsSum 29 = .ok (.invokevirtual 41, 3) := by decide +kernel
theorem dX4_readsSum_32 : decode cX4_readsSum 32 = .ok (.bipush 7, 2) := by decide +kernel
theorem dX4_readsSum_34 : decode cX4_readsSum 34 = .ok (.if_icmp .ne 44, 3) := by decide +kernel
theorem dX4_readsSum_37 : decode cX4_readsSum 37 = .ok (.aload_n 0, 1) := by decide +kernel
theorem dX4_readsSum_38 : decode cX4_readsSum 38 = .ok (.invokevirtual 41, 3) := by decide +kernel
theorem dX4_readsSum_41 : decode cX4_readsSum 41 = .ok (.istore 4, 2) := by decide +kernel
theorem dX4_readsSum_43 : decode cX4_readsSum 43 = .ok (.aload_n 0, 1) := by decide +kernel
theorem dX4_readsSum_44 : decode cX4_readsSum 44 = .ok (.dup, 1) := by decide +kernel
theorem dX4_readsSum_45 : decode cX4_readsSum 45 = .ok (.getfield 24, 3) := by decide +kernel
theorem dX4_readsSum_48 : decode cX4_readsSum 48 = .ok (.iconst 1, 1) := by decide +kernel
theorem dX4_readsSum_49 : decode cX4_readsSum 49 = .ok (.iadd, 1) := by decide +kernel
theorem dX4_readsSum_50 : decode cX4_readsSum 50 = .ok (.putfield 24, 3) := by decide +kernel
theorem dX4_readsSum_53 : decode cX4_readsSum 53 = .ok (.aload_n 0, 1) := by decide +kernel
theorem dX4_readsSum_54 : decode cX4_readsSum 54 = .ok (.iload_n 1, 1) := by decide +kernel
theorem dX4_readsSum_55 : decode cX4_readsSum 55 = .ok (.invokevirtual 148, 3) := by decide +kernel
theorem dX4_readsSum_58 : decode cX4_readsSum 58 = .ok (.istore_n 2, 1) := by decide +kernel
theorem dX4_readsSum_59 : decode cX4_readsSum 59 = .ok (.aload_n 0, 1) := by decide +kernel
theorem dX4_readsSum_60 : decode cX4_readsSum 60 = .ok (.getfield 15, 3) := by decide +kernel
theorem dX4_readsSum_63 : decode cX4_readsSum 63 = .ok (.getfield 151, 3) := by decide +kernel
theorem dX4_readsSum_66 : decode cX4_readsSum 66 = .ok (.iload 4, 2) := by decide +kernel
theorem dX4_readsSum_68 : decode cX4_readsSum 68 = .ok (.ineg, 1) := by decide +kernel
theorem dX4_readsSum_69 : decode cX4_readsSum 69 = .ok (.invokevirtual 155, 3) := by decide +kernel
theorem dX4_readsSum_72 : decode cX4_readsSum 72 = .ok (.iinc 3 1, 3) := by decide +kernel
theorem dX4_readsSum_75 : decode cX4_readsSum 75 = .ok (.goto (-67), 3) := by decide +kernel
theorem dX4_readsSum_78 : decode cX4_readsSum 78 = .ok (.iload_n 2, 1) := by decide +kernel
theorem dX4_readsSum_79 : decode cX4_readsSum 79 = .ok (.ireturn, 1) := by decide +kernel
theorem dX4_readsTerm_0 : decode cX4_readsTerm 0 = .ok (.aload_n 0, 1) := by decide +kernel
theorem dX4_readsTerm_1 : decode cX4_readsTerm 1 = .ok (.iload_n 1, 1) := by decide +kernel
theorem dX4_readsTerm_2 : decode cX4_readsTerm 2 = .ok (.invokevirtual 160, 3) := by decide +kernel
theorem dX4_readsTerm_5 : decode cX4_readsTerm 5 = .ok (.istore_n 2, 1) := by decide +kernel
theorem dX4_readsTerm_6 : decode cX4_readsTerm 6 = .ok (.iconst 0, 1) := by decide +kernel
theorem dX4_readsTerm_7 : decode cX4_readsTerm 7 = .ok (.istore_n 3, 1) := by decide +kernel
theorem dX4_readsTerm_8 : decode cX4_readsTerm 8 = .ok (.iload_n 3, 1) := by decide +kernel
theorem dX4_readsTerm_9 : decode cX4_readsTerm 9 = .ok (.sipush 700, 3) := by decide +kernel
theorem dX4_readsTerm_12 : decode cX4_readsTerm 12 = .ok (.if_icmp .ge 66, 3) := by decide +kernel
theorem dX4_readsTerm_15 : decode cX4_readsTerm 15 = .ok (.iload_n 2, 1) := by decide +kernel
theorem dX4_readsTerm_16 : decode cX4_readsTerm 16 = .ok (.ifCond .eq 62, 3) := by decide +kernel
theorem dX4_readsTerm_19 : decode cX4_readsTerm 19 = .ok (.aload_n 0, 1) := by decide +kernel
theorem dX4_readsTerm_20 : decode cX4_readsTerm 20 = .ok (.invokevirtual 41, 3) := by decide +kernel
theorem dX4_readsTerm_23 : decode cX4_readsTerm 23 = .ok (.bipush 8, 2) := by decide +kernel
theorem dX4_readsTerm_25 : decode cX4_readsTerm 25 = .ok (.if_icmp .eq 12, 3) := by decide +kernel
theorem dX4_readsTerm_28 : decode cX4_readsTerm 28 = .ok (.aload_n 0, 1) := by decide +kernel
theorem dX4_readsTerm_29 : decode cX4_readsTerm 29 = .ok (.invokevirtual 41, 3) := by decide +kernel
theorem dX4_readsTerm_32 : decode cX4_readsTerm 32 = .ok (.bipush 9, 2) := by decide +kernel
theorem dX4_readsTerm_34 : decode cX4_readsTerm 34 = .ok (.if_icmp .ne 44, 3) := by decide +kernel
theorem dX4_readsTerm_37 : decode cX4_readsTerm 37 = .ok (.aload_n 0, 1) := by decide +kernel
theorem dX4_readsTerm_38 : decode cX4_readsTerm 38 = .ok (.invokevirtual 41, 3) := by decide +kernel
theorem dX4_readsTerm_41 : decode cX4_readsTerm 41 = .ok (.istore 4, 2) := by decide +kernel
theorem dX4_readsTerm_43 : decode cX4_readsTerm 43 = .ok (.aload_n 0, 1) := by decide +kernel
theorem dX4_readsTerm_44 : decode cX4_readsTerm 44 = .ok (.dup, 1) := by decide +kernel
theorem dX4_readsTerm_45 : decode cX4_readsTerm 45 = .ok (.getfield 24, 3) := by decide +kernel
theorem dX4_readsTerm_48 : decode cX4_readsTerm 48 = .ok (.iconst 1, 1) := by decide +kernel
theorem dX4_readsTerm_49 : decode cX4_readsTerm 49 = .ok (.iadd, 1) := by decide +kernel
theorem dX4_readsTerm_50 : decode cX4_readsTerm 50 = .ok (.putfield 24, 3) := by decide +kernel
theorem dX4_readsTerm_53 : decode cX4_readsTerm 53 = .ok (.aload_n 0, 1) := by decide +kernel
theorem dX4_readsTerm_54 : decode cX4_readsTerm 54 = .ok (.iload_n 1, 1) := by decide +kernel
theorem dX4_readsTerm_55 : decode cX4_readsTerm 55 = .ok (.invokevirtual 160, 3) := by decide +kernel
theorem dX4_readsTerm_58 : decode cX4_readsTerm 58 = .ok (.istore_n 2, 1) := by decide +kernel
theorem dX4_readsTerm_59 : decode cX4_readsTerm 59 = .ok (.aload_n 0, 1) := by decide +kernel
theorem dX4_readsTerm_60 : decode cX4_readsTerm 60 = .ok (.getfield 15, 3) := by decide +kernel
theorem dX4_readsTerm_63 : decode cX4_readsTerm 63 = .ok (.getfield 151, 3) := by decide +kernel
theorem dX4_readsTerm_66 : decode cX4_readsTerm 66 = .ok (.iload 4, 2) := by decide +kernel
theorem dX4_readsTerm_68 : decode cX4_readsTerm 68 = .ok (.ineg, 1) := by decide +kernel
theorem dX4_readsTerm_69 : decode cX4_readsTerm 69 = .ok (.invokevirtual 155, 3) := by decide +kernel
theorem dX4_readsTerm_72 : decode cX4_readsTerm 72 = .ok (.iinc 3 1, 3) := by decide +kernel
theorem dX4_readsTerm_75 : decode cX4_readsTerm 75 = .ok (.goto (-67), 3) := by decide +kernel
theorem dX4_readsTerm_78 : decode cX4_readsTerm 78 = .ok (.iload_n 2, 1) := by decide +kernel
theorem dX4_readsTerm_79 : decode cX4_readsTerm 79 = .ok (.ireturn, 1) := by decide +kernel
theorem dX4_readsFactor_0 : decode cX4_readsFactor 0 = .ok (.aload_n 0, 1) := by decide +kernel
theorem dX4_readsFactor_1 : decode cX4_readsFactor 1 = .ok (.invokevirtual 41, 3) := by decide +kernel
theorem dX4_readsFactor_4 : decode cX4_readsFactor 4 = .ok (.istore_n 2, 1) := by decide +kernel
theorem dX4_readsFactor_5 : decode cX4_readsFactor 5 = .ok (.iload_n 2, 1) := by decide +kernel
theorem dX4_readsFactor_6 : decode cX4_readsFactor 6 = .ok (.lookupswitch 157 #[(2, 58), (4, 111), (12, 87), (20, 87), (21, 87), (22, 87)], 58) := by decide +kernel
theorem dX4_readsFactor_64 : decode cX4_readsFactor 64 = .ok (.aload_n 0, 1) := by decide +kernel
theorem dX4_readsFactor_65 : decode cX4_readsFactor 65 = .ok (.iconst 0, 1) := by decide +kernel
theorem dX4_readsFactor_66 : decode cX4_readsFactor 66 = .ok (.sipush 9999, 3) := by decide +kernel
theorem dX4_readsFactor_69 : decode cX4_readsFactor 69 = .ok (.invokevirtual 88, 3) := by decide +kernel
theorem dX4_readsFactor_72 : decode cX4_readsFactor 72 = .ok (.ifCond .ne 5, 3) := by decide +kernel
theorem dX4_readsFactor_75 : decode cX4_readsFactor 75 = .ok (.iconst 0, 1) := by decide +kernel
theorem dX4_readsFactor_76 : decode cX4_readsFactor 76 = .ok (.ireturn, 1) := by decide +kernel
theorem dX4_readsFactor_77 : decode cX4_readsFactor 77 = .ok (.aload_n 0, 1) := by decide +kernel
theorem dX4_readsFactor_78 : decode cX4_readsFactor 78 = .ok (.getfield 15, 3) := by decide +kernel
theorem dX4_readsFactor_81 : decode cX4_readsFactor 81 = .ok (.getfield 151, 3) := by decide +kernel
theorem dX4_readsFactor_84 : decode cX4_readsFactor 84 = .ok (.aload_n 0, 1) := by decide +kernel
theorem dX4_readsFactor_85 : decode cX4_readsFactor 85 = .ok (.getfield 67, 3) := by decide +kernel
theorem dX4_readsFactor_88 : decode cX4_readsFactor 88 = .ok (.invokevirtual 155, 3) := by decide +kernel
theorem dX4_readsFactor_91 : decode cX4_readsFactor 91 = .ok (.iconst 1, 1) := by decide +kernel
theorem dX4_readsFactor_92 : decode cX4_readsFactor 92 = .ok (.ireturn, 1) := by decide +kernel
theorem dX4_readsFactor_93 : decode cX4_readsFactor 93 = .ok (.aload_n 0, 1) := by decide +kernel
theorem dX4_readsFactor_94 : decode cX4_readsFactor 94 = .ok (.getfield 15, 3) := by decide +kernel
theorem dX4_readsFactor_97 : decode cX4_readsFactor 97 = .ok (.getfield 151, 3) := by decide +kernel
theorem dX4_readsFactor_100 : decode cX4_readsFactor 100 = .ok (.iload_n 2, 1) := by decide +kernel
theorem dX4_readsFactor_101 : decode cX4_readsFactor 101 = .ok (.ineg, 1) := by decide +kernel
theorem dX4_readsFactor_102 : decode cX4_readsFactor 102 = .ok (.invokevirtual 155, 3) := by decide +kernel
theorem dX4_readsFactor_105 : decode cX4_readsFactor 105 = .ok (.aload_n 0, 1) := by decide +kernel
theorem dX4_readsFactor_106 : decode cX4_readsFactor 106 = .ok (.dup, 1) := by decide +kernel
theorem dX4_readsFactor_107 : decode cX4_readsFactor 107 = .ok (.getfield 24, 3) := by decide +kernel
theorem dX4_readsFactor_110 : decode cX4_readsFactor 110 = .ok (.iconst 1, 1) := by decide +kernel
theorem dX4_readsFactor_111 : decode cX4_readsFactor 111 = .ok (.iadd, 1) := by decide +kernel
theorem dX4_readsFactor_112 : decode cX4_readsFactor 112 = .ok (.putfield 24, 3) := by decide +kernel
theorem dX4_readsFactor_115 : decode cX4_readsFactor 115 = .ok (.iconst 1, 1) := by decide +kernel
theorem dX4_readsFactor_116 : decode cX4_readsFactor 116 = .ok (.ireturn, 1) := by decide +kernel
theorem dX4_readsFactor_117 : decode cX4_readsFactor 117 = .ok (.iload_n 1, 1) := by decide +kernel
theorem dX4_readsFactor_118 : decode cX4_readsFactor 118 = .ok (.iconst 4, 1) := by decide +kernel
theorem dX4_readsFactor_119 : decode cX4_readsFactor 119 = .ok (.if_icmp .lt 10, 3) := by decide +kernel
theorem dX4_readsFactor_122 : decode cX4_readsFactor 122 = .ok (.aload_n 0, 1) := by decide +kernel
theorem dX4_readsFactor_123 : decode cX4_readsFactor 123 = .ok (.bipush (-6), 2) := by decide +kernel
theorem dX4_readsFactor_125 : decode cX4_readsFactor 125 = .ok (.invokevirtual 61, 3) := by decide +kernel
theorem dX4_readsFactor_128 : decode cX4_readsFactor 128 = .ok (.ireturn, 1) := by decide +kernel
theorem dX4_readsFactor_129 : decode cX4_readsFactor 129 = .ok (.aload_n 0, 1) := by decide +kernel
theorem dX4_readsFactor_130 : decode cX4_readsFactor 130 = .ok (.dup, 1) := by decide +kernel
theorem dX4_readsFactor_131 : decode cX4_readsFactor 131 = .ok (.getfield 24, 3) := by decide +kernel
theorem dX4_readsFactor_134 : decode cX4_readsFactor 134 = .ok (.iconst 1, 1) := by decide +kernel
theorem dX4_readsFactor_135 : decode cX4_readsFactor 135 = .ok (.iadd, 1) := by decide +kernel
theorem dX4_readsFactor_136 : decode cX4_readsFactor 136 = .ok (.putfield 24, 3) := by decide +kernel
theorem dX4_readsFactor_139 : decode cX4_readsFactor 139 = .ok (.aload_n 0, 1) := by decide +kernel
theorem dX4_readsFactor_140 : decode cX4_readsFactor 140 = .ok (.iload_n 1, 1) := by decide +kernel
theorem dX4_readsFactor_141 : decode cX4_readsFactor 141 = .ok (.iconst 1, 1) := by decide +kernel
theorem dX4_readsFactor_142 : decode cX4_readsFactor 142 = .ok (.iadd, 1) := by decide +kernel
theorem dX4_readsFactor_143 : decode cX4_readsFactor 143 = .ok (.invokevirtual 85, 3) := by decide +kernel
theorem dX4_readsFactor_146 : decode cX4_readsFactor 146 = .ok (.ifCond .eq 15, 3) := by decide +kernel
theorem dX4_readsFactor_149 : decode cX4_readsFactor 149 = .ok (.aload_n 0, 1) := by decide +kernel
theorem dX4_readsFactor_150 : decode cX4_readsFactor 150 = .ok (.iconst 5, 1) := by decide +kernel
theorem dX4_readsFactor_151 : decode cX4_readsFactor 151 = .ok (.invokevirtual 37, 3) := by decide +kernel
theorem dX4_readsFactor_154 : decode cX4_readsFactor 154 = .ok (.ifCond .eq 7, 3) := by decide +kernel
theorem dX4_readsFactor_157 : decode cX4_readsFactor 157 = .ok (.iconst 1, 1) := by decide +kernel
theorem dX4_readsFactor_158 : decode cX4_readsFactor 158 = .ok (.goto 4, 3) := by decide +kernel
theorem dX4_readsFactor_161 : decode cX4_readsFactor 161 = .ok (.iconst 0, 1) := by decide +kernel
theorem dX4_readsFactor_162 : decode cX4_readsFactor 162 = .ok (.ireturn, 1) := by decide +kernel
theorem dX4_readsFactor_163 : decode cX4_readsFactor 163 = .ok (.aload_n 0, 1) := by decide +kernel
theorem dX4_readsFactor_164 : decode cX4_readsFactor 164 = .ok (.bipush (-2), 2) := by decide +kernel
theorem dX4_readsFactor_166 : decode cX4_readsFactor 166 = .ok (.invokevirtual 61, 3) := by decide +kernel
theorem dX4_readsFactor_169 : decode cX4_readsFactor 169 = .ok (.ireturn, 1) := by decide +kernel
theorem dX5_init_0 : decode cX5_init 0 = .ok (.aload_n 0, 1) := by decide +kernel
theorem dX5_init_1 : decode cX5_init 1 = .ok (.invokespecial 3, 3) := by decide +kernel
theorem dX5_init_4 : decode cX5_init 4 = .ok (.aload_n 0, 1) := by decide +kernel
theorem dX5_init_5 : decode cX5_init 5 = .ok (.sipush 701, 3) := by decide +kernel
theorem dX5_init_8 : decode cX5_init 8 = .ok (.newarray .int, 2) := by decide +kernel
theorem dX5_init_10 : decode cX5_init 10 = .ok (.putfield 9, 3) := by decide +kernel
theorem dX5_init_13 : decode cX5_init 13 = .ok (.aload_n 0, 1) := by decide +kernel
theorem dX5_init_14 : decode cX5_init 14 = .ok (.sipush 701, 3) := by decide +kernel
theorem dX5_init_17 : decode cX5_init 17 = .ok (.newarray .int, 2) := by decide +kernel
theorem dX5_init_19 : decode cX5_init 19 = .ok (.putfield 15, 3) := by decide +kernel
theorem dX5_init_22 : decode cX5_init 22 = .ok (.aload_n 0, 1) := by decide +kernel
theorem dX5_init_23 : decode cX5_init 23 = .ok (.sipush 701, 3) := by decide +kernel
theorem dX5_init_26 : decode cX5_init 26 = .ok (.newarray .int, 2) := by decide +kernel
theorem dX5_init_28 : decode cX5_init 28 = .ok (.putfield 18, 3) := by decide +kernel
theorem dX5_init_31 : decode cX5_init 31 = .ok (.return_, 1) := by decide +kernel
theorem dX5_split_0 : decode cX5_split 0 = .ok (.aload_n 0, 1) := by decide +kernel
theorem dX5_split_1 : decode cX5_split 1 = .ok (.iconst 0, 1) := by decide +kernel
theorem dX5_split_2 : decode cX5_split 2 = .ok (.putfield 21, 3) := by decide +kernel
theorem dX5_split_5 : decode cX5_split 5 = .ok (.iconst 0, 1) := by decide +kernel
theorem dX5_split_6 : decode cX5_split 6 = .ok (.istore_n 3, 1) := by decide +kernel
theorem dX5_split_7 : decode cX5_split 7 = .ok (.iconst 0, 1) := by decide +kernel
theorem dX5_split_8 : decode cX5_split 8 = .ok (.istore 4, 2) := by decide +kernel
theorem dX5_split_10 : decode cX5_split 10 = .ok (.iload 4, 2) := by decide +kernel
theorem dX5_split_12 : decode cX5_split 12 = .ok (.sipush 700, 3) := by decide +kernel
theorem dX5_split_15 : decode cX5_split 15 = .ok (.if_icmp .ge 136, 3) := by decide +kernel
theorem dX5_split_18 : decode cX5_split 18 = .ok (.iload_n 3, 1) := by decide +kernel
theorem dX5_split_19 : decode cX5_split 19 = .ok (.iload_n 2, 1) := by decide +kernel
theorem dX5_split_20 : decode cX5_split 20 = .ok (.if_icmp .ge 131, 3) := by decide +kernel
theorem dX5_split_23 : decode cX5_split 23 = .ok (.iload_n 3, 1) := by decide +kernel
theorem dX5_split_24 : decode cX5_split 24 = .ok (.aload_n 1, 1) := by decide +kernel
theorem dX5_split_25 : decode cX5_split 25 = .ok (.arraylength, 1) := by decide +kernel
theorem dX5_split_26 : decode cX5_split 26 = .ok (.if_icmp .ge 125, 3) := by decide +kernel
theorem dX5_split_29 : decode cX5_split 29 = .ok (.iload_n 3, 1) := by decide +kernel
theorem dX5_split_30 : decode cX5_split 30 = .ok (.iconst 1, 1) := by decide +kernel
theorem dX5_split_31 : decode cX5_split 31 = .ok (.iadd, 1) := by decide +kernel
theorem dX5_split_32 : decode cX5_split 32 = .ok (.istore 5, 2) := by decide +kernel
theorem dX5_split_34 : decode cX5_split 34 = .ok (.aload_n 1, 1) := by decide +kernel
theorem dX5_split_35 : decode cX5_split 35 = .ok (.iload_n 3, 1) := by decide +kernel
theorem dX5_split_36 : decode cX5_split 36 = .ok (.baload, 1) := by decide +kernel
theorem dX5_split_37 : decode cX5_split 37 = .ok (.bipush 97, 2) := by decide +kernel
theorem dX5_split_39 : decode cX5_split 39 = .ok (.if_icmp .lt 39, 3) := by decide +kernel
theorem dX5_split_42 : decode cX5_split 42 = .ok (.aload_n 1, 1) := by decide +kernel
theorem dX5_split_43 : decode cX5_split 43 = .ok (.iload_n 3, 1) := by decide +kernel
theorem dX5_split_44 : decode cX5_split 44 = .ok (.baload, 1) := by decide +kernel
theorem dX5_split_45 : decode cX5_split 45 = .ok (.bipush 122, 2) := by decide +kernel
theorem dX5_split_47 : decode cX5_split 47 = .ok (.if_icmp .gt 31, 3) := by decide +kernel
theorem dX5_split_50 : decode cX5_split 50 = .ok (.aload_n 1, 1) := by decide +kernel
theorem dX5_split_51 : decode cX5_split 51 = .ok (.iload_n 2, 1) := by decide +kernel
theorem dX5_split_52 : decode cX5_split 52 = .ok (.iload_n 3, 1) := by decide +kernel
theorem dX5_split_53 : decode cX5_split 53 = .ok (.bipush 97, 2) := by decide +kernel
theorem dX5_split_55 : decode cX5_split 55 = .ok (.bipush 122, 2) := by decide +kernel
theorem dX5_split_57 : decode cX5_split 57 = .ok (.invokestatic 25, 3) := by decide +kernel
theorem dX5_split_60 : decode cX5_split 60 = .ok (.istore 5, 2) := by decide +kernel
theorem dX5_split_62 : decode cX5_split 62 = .ok (.aload_n 0, 1) := by decide +kernel
theorem dX5_split_63 : decode cX5_split 63 = .ok (.aload_n 1, 1) := by decide +kernel
theorem dX5_split_64 : decode cX5_split 64 = .ok (.iload_n 3, 1) := by decide +kernel
theorem dX5_split_65 : decode cX5_split 65 = .ok (.iload 5, 2) := by decide +kernel
theorem dX5_split_67 : decode cX5_split 67 = .ok (.invokestatic 29, 3) := by decide +kernel
theorem dX5_split_70 : decode cX5_split 70 = .ok (.iload_n 3, 1) := by decide +kernel
theorem dX5_split_71 : decode cX5_split 71 = .ok (.iconst 0, 1) := by decide +kernel
theorem dX5_split_72 : decode cX5_split 72 = .ok (.invokevirtual 33, 3) := by decide +kernel
theorem dX5_split_75 : decode cX5_split 75 = .ok (.goto 67, 3) := by decide +kernel
theorem dX5_split_78 : decode cX5_split 78 = .ok (.aload_n 1, 1) := by decide +kernel
theorem dX5_split_79 : decode cX5_split 79 = .ok (.iload_n 3, 1) := by decide +kernel
theorem dX5_split_80 : decode cX5_split 80 = .ok (.baload, 1) := by decide +kernel
theorem dX5_split_81 : decode cX5_split 81 = .ok (.bipush 48, 2) := by decide +kernel
theorem dX5_split_83 : decode cX5_split 83 = .ok (.if_icmp .lt 39, 3) := by decide +kernel
theorem dX5_split_86 : decode cX5_split 86 = .ok (.aload_n 1, 1) := by decide +kernel
theorem dX5_split_87 : decode cX5_split 87 = .ok (.iload_n 3, 1) := by decide +kernel
theorem dX5_split_88 : decode cX5_split 88 = .ok (.baload, 1) := by decide +kernel
theorem dX5_split_89 : decode cX5_split 89 = .ok (.bipush 57, 2) := by decide +kernel
theorem dX5_split_91 : decode cX5_split 91 = .ok (.if_icmp .gt 31, 3) := by decide +kernel
theorem dX5_split_94 : decode cX5_split 94 = .ok (.aload_n 1, 1) := by decide +kernel
theorem dX5_split_95 : decode cX5_split 95 = .ok (.iload_n 2, 1) := by decide +kernel
theorem dX5_split_96 : decode cX5_split 96 = .ok (.iload_n 3, 1) := by decide +kernel
theorem dX5_split_97 : decode cX5_split 97 = .ok (.bipush 48, 2) := by decide +kernel
theorem dX5_split_99 : decode cX5_split 99 = .ok (.bipush 57, 2) := by decide +kernel
theorem dX5_split_101 : decode cX5_split 101 = .ok (.invokestatic 25, 3) := by decide +kernel
theorem dX5_split_104 : decode cX5_split 104 = .ok (.istore 5, 2) := by decide +kernel
theorem dX5_split_106 : decode cX5_split 106 = .ok (.aload_n 0, 1) := by decide +kernel
theorem dX5_split_107 : decode cX5_split 107 = .ok (.iconst 2, 1) := by decide +kernel
theorem dX5_split_108 : decode cX5_split 108 = .ok (.iload_n 3, 1) := by decide +kernel
theorem dX5_split_109 : decode cX5_split 109 = .ok (.aload_n 1, 1) := by decide +kernel
theorem dX5_split_110 : decode cX5_split 110 = .ok (.iload_n 3, 1) := by decide +kernel
theorem dX5_split_111 : decode cX5_split 111 = .ok (.iload 5, 2) := by decide +kernel
theorem dX5_split_113 : decode cX5_split 113 = .ok (.invokestatic 37, 3) := by decide +kernel
theorem dX5_split_116 : decode cX5_split 116 = .ok (.invokevirtual 33, 3) := by decide +kernel
theorem dX5_split_119 : decode cX5_split 119 = .ok (.goto 23, 3) := by decide +kernel
theorem dX5_split_122 : decode cX5_split 122 = .ok (.aload_n 1, 1) := by decide +kernel
theorem dX5_split_123 : decode cX5_split 123 = .ok (.iload_n 3, 1) := by decide +kernel
theorem dX5_split_124 : decode cX5_split 124 = .ok (.baload, 1) := by decide +kernel
theorem dX5_split_125 : decode cX5_split 125 = .ok (.bipush 32, 2) := by decide +kernel
theorem dX5_split_127 : decode cX5_split 127 = .ok (.if_icmp .eq 15, 3) := by decide +kernel
theorem dX5_split_130 : decode cX5_split 130 = .ok (.aload_n 0, 1) := by decide +kernel
theorem dX5_split_131 : decode cX5_split 131 = .ok (.aload_n 1, 1) := by decide +kernel
theorem dX5_split_132 : decode cX5_split 132 = .ok (.iload_n 3, 1) := by decide +kernel
theorem dX5_split_133 : decode cX5_split 133 = .ok (.baload, 1) := by decide +kernel
theorem dX5_split_134 : decode cX5_split 134 = .ok (.invokestatic 40, 3) := by decide +kernel
theorem dX5_split_137 : decode cX5_split 137 = .ok (.iload_n 3, 1) := by decide +kernel
theorem dX5_split_138 : decode cX5_split 138 = .ok (.iconst 0, 1) := by decide +kernel
theorem dX5_split_139 : decode cX5_split 139 = .ok (.invokevirtual 33, 3) := by decide +kernel
theorem dX5_split_142 : decode cX5_split 142 = .ok (.iload 5, 2) := by decide +kernel
theorem dX5_split_144 : decode cX5_split 144 = .ok (.istore_n 3, 1) := by decide +kernel
theorem dX5_split_145 : decode cX5_split 145 = .ok (.iinc 4 1, 3) := by decide +kernel
theorem dX5_split_148 : decode cX5_split 148 = .ok (.goto (-138), 3) := by decide +kernel
theorem dX5_split_151 : decode cX5_split 151 = .ok (.aload_n 0, 1) := by decide +kernel
theorem dX5_split_152 : decode cX5_split 152 = .ok (.iconst 0, 1) := by decide +kernel
theorem dX5_split_153 : decode cX5_split 153 = .ok (.iload_n 2, 1) := by decide +kernel
theorem dX5_split_154 : decode cX5_split 154 = .ok (.iconst 0, 1) := by decide +kernel
theorem dX5_split_155 : decode cX5_split 155 = .ok (.invokevirtual 33, 3) := by decide +kernel
theorem dX5_split_158 : decode cX5_split 158 = .ok (.return_, 1) := by decide +kernel
theorem dX5_addToken_0 : decode cX5_addToken 0 = .ok (.aload_n 0, 1) := by decide +kernel
theorem dX5_addToken_1 : decode cX5_addToken 1 = .ok (.getfield 21, 3) := by decide +kernel
theorem dX5_addToken_4 : decode cX5_addToken 4 = .ok (.aload_n 0, 1) := by decide +kernel
theorem dX5_addToken_5 : decode cX5_addToken 5 = .ok (.getfield 9, 3) := by decide +kernel
theorem dX5_addToken_8 : decode cX5_addToken 8 = .ok (.arraylength, 1) := by decide +kernel
theorem dX5_addToken_9 : decode cX5_addToken 9 = .ok (.if_icmp .ge 43, 3) := by decide +kernel
theorem dX5_addToken_12 : decode cX5_addToken 12 = .ok (.aload_n 0, 1) := by decide +kernel
theorem dX5_addToken_13 : decode cX5_addToken 13 = .ok (.getfield 9, 3) := by decide +kernel
theorem dX5_addToken_16 : decode cX5_addToken 16 = .ok (.aload_n 0, 1) := by decide +kernel
theorem dX5_addToken_17 : decode cX5_addToken 17 = .ok (.getfield 21, 3) := by decide +kernel
theorem dX5_addToken_20 : decode cX5_addToken 20 = .ok (.iload_n 1, 1) := by decide +kernel
theorem dX5_addToken_21 : decode cX5_addToken 21 = .ok (.iastore, 1) := by decide +kernel
theorem dX5_addToken_22 : decode cX5_addToken 22 = .ok (.aload_n 0, 1) := by decide +kernel
theorem dX5_addToken_23 : decode cX5_addToken 23 = .ok (.getfield 15, 3) := by decide +kernel
theorem dX5_addToken_26 : decode cX5_addToken 26 = .ok (.aload_n 0, 1) := by decide +kernel
theorem dX5_addToken_27 : decode cX5_addToken 27 = .ok (.getfield 21, 3) := by decide +kernel
theorem dX5_addToken_30 : decode cX5_addToken 30 = .ok (.iload_n 2, 1) := by decide +kernel
theorem dX5_addToken_31 : decode cX5_addToken 31 = .ok (.iastore, 1) := by decide +kernel
theorem dX5_addToken_32 : decode cX5_addToken 32 = .ok (.aload_n 0, 1) := by decide +kernel
theorem dX5_addToken_33 : decode cX5_addToken 33 = .ok (.getfield 18, 3) := by decide +kernel
theorem dX5_addToken_36 : decode cX5_addToken 36 = .ok (.aload_n 0, 1) := by decide +kernel
theorem dX5_addToken_37 : decode cX5_addToken 37 = .ok (.getfield 21, 3) := by decide +kernel
theorem dX5_addToken_40 : decode cX5_addToken 40 = .ok (.iload_n 3, 1) := by decide +kernel
theorem dX5_addToken_41 : decode cX5_addToken 41 = .ok (.iastore, 1) := by decide +kernel
theorem dX5_addToken_42 : decode cX5_addToken 42 = .ok (.aload_n 0, 1) := by decide +kernel
theorem dX5_addToken_43 : decode cX5_addToken 43 = .ok (.dup, 1) := by decide +kernel
theorem dX5_addToken_44 : decode cX5_addToken 44 = .ok (.getfield 21, 3) := by decide +kernel
theorem dX5_addToken_47 : decode cX5_addToken 47 = .ok (.iconst 1, 1) := by decide +kernel
theorem dX5_addToken_48 : decode cX5_addToken 48 = .ok (.iadd, 1) := by decide +kernel
theorem dX5_addToken_49 : decode cX5_addToken 49 = .ok (.putfield 21, 3) := by decide +kernel
theorem dX5_addToken_52 : decode cX5_addToken 52 = .ok (.return_, 1) := by decide +kernel
theorem dX5_endOfRun_0 : decode cX5_endOfRun 0 = .ok (.iload_n 2, 1) := by decide +kernel
theorem dX5_endOfRun_1 : decode cX5_endOfRun 1 = .ok (.iconst 1, 1) := by decide +kernel
theorem dX5_endOfRun_2 : decode cX5_endOfRun 2 = .ok (.iadd, 1) := by decide +kernel
theorem dX5_endOfRun_3 : decode cX5_endOfRun 3 = .ok (.istore 5, 2) := by decide +kernel
theorem dX5_endOfRun_5 : decode cX5_endOfRun 5 = .ok (.iload 5, 2) := by decide +kernel
theorem dX5_endOfRun_7 : decode cX5_endOfRun 7 = .ok (.iload_n 1, 1) := by decide +kernel
theorem dX5_endOfRun_8 : decode cX5_endOfRun 8 = .ok (.if_icmp .ge 33, 3) := by decide +kernel
theorem dX5_endOfRun_11 : decode cX5_endOfRun 11 = .ok (.iload 5, 2) := by decide +kernel
theorem dX5_endOfRun_13 : decode cX5_endOfRun 13 = .ok (.aload_n 0, 1) := by decide +kernel
theorem dX5_endOfRun_14 : decode cX5_endOfRun 14 = .ok (.arraylength, 1) := by decide +kernel
theorem dX5_endOfRun_15 : decode cX5_endOfRun 15 = .ok (.if_icmp .ge 26, 3) := by decide +kernel
theorem dX5_endOfRun_18 : decode cX5_endOfRun 18 = .ok (.aload_n 0, 1) := by decide +kernel
theorem dX5_endOfRun_19 : decode cX5_endOfRun 19 = .ok (.iload 5, 2) := by decide +kernel
theorem dX5_endOfRun_21 : decode cX5_endOfRun 21 = .ok (.baload, 1) := by decide +kernel
theorem dX5_endOfRun_22 : decode cX5_endOfRun 22 = .ok (.iload_n 3, 1) := by decide +kernel
theorem dX5_endOfRun_23 : decode cX5_endOfRun 23 = .ok (.if_icmp .lt 18, 3) := by decide +kernel
theorem dX5_endOfRun_26 : decode cX5_endOfRun 26 = .ok (.aload_n 0, 1) := by decide +kernel
theorem dX5_endOfRun_27 : decode cX5_endOfRun 27 = .ok (.iload 5, 2) := by decide +kernel
theorem dX5_endOfRun_29 : decode cX5_endOfRun 29 = .ok (.baload, 1) := by decide +kernel
theorem dX5_endOfRun_30 : decode cX5_endOfRun 30 = .ok (.iload 4, 2) := by decide +kernel
theorem dX5_endOfRun_32 : decode cX5_endOfRun 32 = .ok (.if_icmp .gt 9, 3) := by decide +kernel
theorem dX5_endOfRun_35 : decode cX5_endOfRun 35 = .ok (.iinc 5 1, 3) := by decide +kernel
theorem dX5_endOfRun_38 : decode cX5_endOfRun 38 = .ok (.goto (-33), 3) := by decide +kernel
theorem dX5_endOfRun_41 : decode cX5_endOfRun 41 = .ok (.iload 5, 2) := by decide +kernel
theorem dX5_endOfRun_43 : decode cX5_endOfRun 43 = .ok (.ireturn, 1) := by decide +kernel
theorem dX5_numberIn_0 : decode cX5_numberIn 0 = .ok (.iconst 0, 1) := by decide +kernel
theorem dX5_numberIn_1 : decode cX5_numberIn 1 = .ok (.istore_n 3, 1) := by decide +kernel
theorem dX5_numberIn_2 : decode cX5_numberIn 2 = .ok (.iload_n 1, 1) := by decide +kernel
theorem dX5_numberIn_3 : decode cX5_numberIn 3 = .ok (.istore 4, 2) := by decide +kernel
theorem dX5_numberIn_5 : decode cX5_numberIn 5 = .ok (.iload 4, 2) := by decide +kernel
theorem dX5_numberIn_7 : decode cX5_numberIn 7 = .ok (.iload_n 2, 1) := by decide +kernel
theorem dX5_numberIn_8 : decode cX5_numberIn 8 = .ok (.if_icmp .ge 31, 3) := by decide +kernel
theorem dX5_numberIn_11 : decode cX5_numberIn 11 = .ok (.iload_n 3, 1) := by decide +kernel
theorem dX5_numberIn_12 : decode cX5_numberIn 12 = .ok (.bipush 10, 2) := by decide +kernel
theorem dX5_numberIn_14 : decode cX5_numberIn 14 = .ok (.imul, 1) := by decide +kernel
theorem dX5_numberIn_15 : decode cX5_numberIn 15 = .ok (.aload_n 0, 1) := by decide +kernel
theorem dX5_numberIn_16 : decode cX5_numberIn 16 = .ok (.iload 4, 2) := by decide +kernel
theorem dX5_numberIn_18 : decode cX5_numberIn 18 = .ok (.baload, 1) := by decide +kernel
theorem dX5_numberIn_19 : decode cX5_numberIn 19 = .ok (.bipush 48, 2) := by decide +kernel
theorem dX5_numberIn_21 : decode cX5_numberIn 21 = .ok (.isub, 1) := by decide +kernel
theorem dX5_numberIn_22 : decode cX5_numberIn 22 = .ok (.iadd, 1) := by decide +kernel
theorem dX5_numberIn_23 : decode cX5_numberIn 23 = .ok (.istore_n 3, 1) := by decide +kernel
theorem dX5_numberIn_24 : decode cX5_numberIn 24 = .ok (.iload_n 3, 1) := by decide +kernel
theorem dX5_numberIn_25 : decode cX5_numberIn 25 = .ok (.ldc 44, 2) := by decide +kernel
theorem dX5_numberIn_27 : decode cX5_numberIn 27 = .ok (.if_icmp .le 6, 3) := by decide +kernel
theorem dX5_numberIn_30 : decode cX5_numberIn 30 = .ok (.ldc 44, 2) := by decide +kernel
theorem dX5_numberIn_32 : decode cX5_numberIn 32 = .ok (.istore_n 3, 1) := by decide +kernel
theorem dX5_numberIn_33 : decode cX5_numberIn 33 = .ok (.iinc 4 1, 3) := by decide +kernel
theorem dX5_numberIn_36 : decode cX5_numberIn 36 = .ok (.goto (-31), 3) := by decide +kernel
theorem dX5_numberIn_39 : decode cX5_numberIn 39 = .ok (.iload_n 3, 1) := by decide +kernel
theorem dX5_numberIn_40 : decode cX5_numberIn 40 = .ok (.ireturn, 1) := by decide +kernel
theorem dX5_signKind_0 : decode cX5_signKind 0 = .ok (.iload_n 0, 1) := by decide +kernel
theorem dX5_signKind_1 : decode cX5_signKind 1 = .ok (.tableswitch 113 40 59 #[97, 99, 107, 101, 113, 104, 113, 110, 113, 113, 113, 113, 113, 113, 113, 113, 113, 113, 113, 95], 95) := by decide +kernel
theorem dX5_signKind_96 : decode cX5_signKind 96 = .ok (.iconst 3, 1) := by decide +kernel
theorem dX5_signKind_97 : decode cX5_signKind 97 = .ok (.ireturn, 1) := by decide +kernel
theorem dX5_signKind_98 : decode cX5_signKind 98 = .ok (.iconst 4, 1) := by decide +kernel
theorem dX5_signKind_99 : decode cX5_signKind 99 = .ok (.ireturn, 1) := by decide +kernel
theorem dX5_signKind_100 : decode cX5_signKind 100 = .ok (.iconst 5, 1) := by decide +kernel
theorem dX5_signKind_101 : decode cX5_signKind 101 = .ok (.ireturn, 1) := by decide +kernel
theorem dX5_signKind_102 : decode cX5_signKind 102 = .ok (.bipush 6, 2) := by decide +kernel
theorem dX5_signKind_104 : decode cX5_signKind 104 = .ok (.ireturn, 1) := by decide +kernel
theorem dX5_signKind_105 : decode cX5_signKind 105 = .ok (.bipush 7, 2) := by decide +kernel
theorem dX5_signKind_107 : decode cX5_signKind 107 = .ok (.ireturn, 1) := by decide +kernel
theorem dX5_signKind_108 : decode cX5_signKind 108 = .ok (.bipush 8, 2) := by decide +kernel
theorem dX5_signKind_110 : decode cX5_signKind 110 = .ok (.ireturn, 1) := by decide +kernel
theorem dX5_signKind_111 : decode cX5_signKind 111 = .ok (.bipush 9, 2) := by decide +kernel
theorem dX5_signKind_113 : decode cX5_signKind 113 = .ok (.ireturn, 1) := by decide +kernel
theorem dX5_signKind_114 : decode cX5_signKind 114 = .ok (.iconst 1, 1) := by decide +kernel
theorem dX5_signKind_115 : decode cX5_signKind 115 = .ok (.ireturn, 1) := by decide +kernel
theorem dX5_wordKind_0 : decode cX5_wordKind 0 = .ok (.bipush 10, 2) := by decide +kernel
theorem dX5_wordKind_2 : decode cX5_wordKind 2 = .ok (.istore_n 3, 1) := by decide +kernel
theorem dX5_wordKind_3 : decode cX5_wordKind 3 = .ok (.iload_n 3, 1) := by decide +kernel
theorem dX5_wordKind_4 : decode cX5_wordKind 4 = .ok (.bipush 23, 2) := by decide +kernel
theorem dX5_wordKind_6 : decode cX5_wordKind 6 = .ok (.if_icmp .ge 24, 3) := by decide +kernel
theorem dX5_wordKind_9 : decode cX5_wordKind 9 = .ok (.aload_n 0, 1) := by decide +kernel
theorem dX5_wordKind_10 : decode cX5_wordKind 10 = .ok (.iload_n 1, 1) := by decide +kernel
theorem dX5_wordKind_11 : decode cX5_wordKind 11 = .ok (.iload_n 2, 1) := by decide +kernel
theorem dX5_wordKind_12 : decode cX5_wordKind 12 = .ok (.iload_n 3, 1) := by decide +kernel
theorem dX5_wordKind_13 : decode cX5_wordKind 13 = .ok (.invokestatic 45, 3) := by decide +kernel
theorem dX5_wordKind_16 : decode cX5_wordKind 16 = .ok (.invokestatic 49, 3) := by decide +kernel
theorem dX5_wordKind_19 : decode cX5_wordKind 19 = .ok (.ifCond .eq 5, 3) := by decide +kernel
theorem dX5_wordKind_22 : decode cX5_wordKind 22 = .ok (.iload_n 3, 1) := by decide +kernel
theorem dX5_wordKind_23 : decode cX5_wordKind 23 = .ok (.ireturn, 1) := by decide +kernel
theorem dX5_wordKind_24 : decode cX5_wordKind 24 = .ok (.iinc 3 1, 3) := by decide +kernel
theorem dX5_wordKind_27 : decode cX5_wordKind 27 = .ok (.goto (-24), 3) := by decide +kernel
theorem dX5_wordKind_30 : decode cX5_wordKind 30 = .ok (.bipush 23, 2) := by decide +kernel
theorem dX5_wordKind_32 : decode cX5_wordKind 32 = .ok (.ireturn, 1) := by decide +kernel
theorem dX5_isWord_0 : decode cX5_isWord 0 = .ok (.iload_n 2, 1) := by decide +kernel
theorem dX5_isWord_1 : decode cX5_isWord 1 = .ok (.iload_n 1, 1) := by decide +kernel
theorem dX5_isWord_2 : decode cX5_isWord 2 = .ok (.isub, 1) := by decide +kernel
theorem dX5_isWord_3 : decode cX5_isWord 3 = .ok (.aload_n 3, 1) := by decide +kernel
theorem dX5_isWord_4 : decode cX5_isWord 4 = .ok (.invokevirtual 53, 3) := by decide +kernel
theorem dX5_isWord_7 : decode cX5_isWord 7 = .ok (.if_icmp .eq 5, 3) := by decide +kernel
theorem dX5_isWord_10 : decode cX5_isWord 10 = .ok (.iconst 0, 1) := by decide +kernel
theorem dX5_isWord_11 : decode cX5_isWord 11 = .ok (.ireturn, 1) := by decide +kernel
theorem dX5_isWord_12 : decode cX5_isWord 12 = .ok (.iconst 0, 1) := by decide +kernel
theorem dX5_isWord_13 : decode cX5_isWord 13 = .ok (.istore 4, 2) := by decide +kernel
theorem dX5_isWord_15 : decode cX5_isWord 15 = .ok (.iload 4, 2) := by decide +kernel
theorem dX5_isWord_17 : decode cX5_isWord 17 = .ok (.aload_n 3, 1) := by decide +kernel
theorem dX5_isWord_18 : decode cX5_isWord 18 = .ok (.invokevirtual 53, 3) := by decide +kernel
theorem dX5_isWord_21 : decode cX5_isWord 21 = .ok (.if_icmp .ge 26, 3) := by decide +kernel
theorem dX5_isWord_24 : decode cX5_isWord 24 = .ok (.aload_n 0, 1) := by decide +kernel
theorem dX5_isWord_25 : decode cX5_isWord 25 = .ok (.iload_n 1, 1) := by decide +kernel
theorem dX5_isWord_26 : decode cX5_isWord 26 = .ok (.iload 4, 2) := by decide +kernel
theorem dX5_isWord_28 : decode cX5_isWord 28 = .ok (.iadd, 1) := by decide +kernel
theorem dX5_isWord_29 : decode cX5_isWord 29 = .ok (.baload, 1) := by decide +kernel
theorem dX5_isWord_30 : decode cX5_isWord 30 = .ok (.aload_n 3, 1) := by decide +kernel
theorem dX5_isWord_31 : decode cX5_isWord 31 = .ok (.iload 4, 2) := by decide +kernel
theorem dX5_isWord_33 : decode cX5_isWord 33 = .ok (.invokevirtual 59, 3) := by decide +kernel
theorem dX5_isWord_36 : decode cX5_isWord 36 = .ok (.if_icmp .eq 5, 3) := by decide +kernel
theorem dX5_isWord_39 : decode cX5_isWord 39 = .ok (.iconst 0, 1) := by decide +kernel
theorem dX5_isWord_40 : decode cX5_isWord 40 = .ok (.ireturn, 1) := by decide +kernel
theorem dX5_isWord_41 : decode cX5_isWord 41 = .ok (.iinc 4 1, 3) := by decide +kernel
theorem dX5_isWord_44 : decode cX5_isWord 44 = .ok (.goto (-29), 3) := by decide +kernel
theorem dX5_isWord_47 : decode cX5_isWord 47 = .ok (.iconst 1, 1) := by decide +kernel
theorem dX5_isWord_48 : decode cX5_isWord 48 = .ok (.ireturn, 1) := by decide +kernel
theorem dX5_spelling_0 : decode cX5_spelling 0 = .ok (.iload_n 0, 1) := by decide +kernel
theorem dX5_spelling_1 : decode cX5_spelling 1 = .ok (.tableswitch 99 10 21 #[63, 66, 69, 72, 75, 78, 81, 84, 87, 90, 93, 96], 63) := by decide +kernel
theorem dX5_spelling_64 : decode cX5_spelling 64 = .ok (.ldc 63, 2) := by decide +kernel
theorem dX5_spelling_66 : decode cX5_spelling 66 = .ok (.areturn, 1) := by decide +kernel
theorem dX5_spelling_67 : decode cX5_spelling 67 = .ok (.ldc 65, 2) := by decide +kernel
theorem dX5_spelling_69 : decode cX5_spelling 69 = .ok (.areturn, 1) := by decide +kernel
theorem dX5_spelling_70 : decode cX5_spelling 70 = .ok (.ldc 67, 2) := by decide +kernel
theorem dX5_spelling_72 : decode cX5_spelling 72 = .ok (.areturn, 1) := by decide +kernel
theorem dX5_spelling_73 : decode cX5_spelling 73 = .ok (.ldc 69, 2) := by decide +kernel
theorem dX5_spelling_75 : decode cX5_spelling 75 = .ok (.areturn, 1) := by decide +kernel
theorem dX5_spelling_76 : decode cX5_spelling 76 = .ok (.ldc 71, 2) := by decide +kernel
theorem dX5_spelling_78 : decode cX5_spelling 78 = .ok (.areturn, 1) := by decide +kernel
theorem dX5_spelling_79 : decode cX5_spelling 79 = .ok (.ldc 73, 2) := by decide +kernel
theorem dX5_spelling_81 : decode cX5_spelling 81 = .ok (.areturn, 1) := by decide +kernel
theorem dX5_spelling_82 : decode cX5_spelling 82 = .ok (.ldc 75, 2) := by decide +kernel
theorem dX5_spelling_84 : decode cX5_spelling 84 = .ok (.areturn, 1) := by decide +kernel
theorem dX5_spelling_85 : decode cX5_spelling 85 = .ok (.ldc 77, 2) := by decide +kernel
theorem dX5_spelling_87 : decode cX5_spelling 87 = .ok (.areturn, 1) := by decide +kernel
theorem dX5_spelling_88 : decode cX5_spelling 88 = .ok (.ldc 79, 2) := by decide +kernel
theorem dX5_spelling_90 : decode cX5_spelling 90 = .ok (.areturn, 1) := by decide +kernel
theorem dX5_spelling_91 : decode cX5_spelling 91 = .ok (.ldc 81, 2) := by decide +kernel
theorem dX5_spelling_93 : decode cX5_spelling 93 = .ok (.areturn, 1) := by decide +kernel
theorem dX5_spelling_94 : decode cX5_spelling 94 = .ok (.ldc 83, 2) := by decide +kernel
theorem dX5_spelling_96 : decode cX5_spelling 96 = .ok (.areturn, 1) := by decide +kernel
theorem dX5_spelling_97 : decode cX5_spelling 97 = .ok (.ldc 85, 2) := by decide +kernel
theorem dX5_spelling_99 : decode cX5_spelling 99 = .ok (.areturn, 1) := by decide +kernel
theorem dX5_spelling_100 : decode cX5_spelling 100 = .ok (.ldc 87, 2) := by decide +kernel
theorem dX5_spelling_102 : decode cX5_spelling 102 = .ok (.areturn, 1) := by decide +kernel
theorem dX6_init_0 : decode cX6_init 0 = .ok (.aload_n 0, 1) := by decide +kernel
theorem dX6_init_1 : decode cX6_init 1 = .ok (.invokespecial 3, 3) := by decide +kernel
theorem dX6_init_4 : decode cX6_init 4 = .ok (.aload_n 0, 1) := by decide +kernel
theorem dX6_init_5 : decode cX6_init 5 = .ok (.bipush 6, 2) := by decide +kernel
theorem dX6_init_7 : decode cX6_init 7 = .ok (.anewarray 9, 3) := by decide +kernel
theorem dX6_init_10 : decode cX6_init 10 = .ok (.putfield 11, 3) := by decide +kernel
theorem dX6_init_13 : decode cX6_init 13 = .ok (.aload_n 0, 1) := by decide +kernel
theorem dX6_init_14 : decode cX6_init 14 = .ok (.bipush 8, 2) := by decide +kernel
theorem dX6_init_16 : decode cX6_init 16 = .ok (.anewarray 17, 3) := by decide +kernel
theorem dX6_init_19 : decode cX6_init 19 = .ok (.putfield 19, 3) := by decide +kernel
theorem dX6_init_22 : decode cX6_init 22 = .ok (.aload_n 0, 1) := by decide +kernel
theorem dX6_init_23 : decode cX6_init 23 = .ok (.bipush 60, 2) := by decide +kernel
theorem dX6_init_25 : decode cX6_init 25 = .ok (.anewarray 23, 3) := by decide +kernel
theorem dX6_init_28 : decode cX6_init 28 = .ok (.putfield 25, 3) := by decide +kernel
theorem dX6_init_31 : decode cX6_init 31 = .ok (.aload_n 0, 1) := by decide +kernel
theorem dX6_init_32 : decode cX6_init 32 = .ok (.new 29, 3) := by decide +kernel
theorem dX6_init_35 : decode cX6_init 35 = .ok (.dup, 1) := by decide +kernel
theorem dX6_init_36 : decode cX6_init 36 = .ok (.invokespecial 31, 3) := by decide +kernel
theorem dX6_init_39 : decode cX6_init 39 = .ok (.putfield 32, 3) := by decide +kernel
theorem dX6_init_42 : decode cX6_init 42 = .ok (.aload_n 0, 1) := by decide +kernel
theorem dX6_init_43 : decode cX6_init 43 = .ok (.iconst 3, 1) := by decide +kernel
theorem dX6_init_44 : decode cX6_init 44 = .ok (.newarray .int, 2) := by decide +kernel
theorem dX6_init_46 : decode cX6_init 46 = .ok (.putfield 36, 3) := by decide +kernel
theorem dX6_init_49 : decode cX6_init 49 = .ok (.iconst 0, 1) := by decide +kernel
theorem dX6_init_50 : decode cX6_init 50 = .ok (.istore_n 1, 1) := by decide +kernel
theorem dX6_init_51 : decode cX6_init 51 = .ok (.iload_n 1, 1) := by decide +kernel
theorem dX6_init_52 : decode cX6_init 52 = .ok (.aload_n 0, 1) := by decide +kernel
theorem dX6_init_53 : decode cX6_init 53 = .ok (.getfield 11, 3) := by decide +kernel
theorem dX6_init_56 : decode cX6_init 56 = .ok (.arraylength, 1) := by decide +kernel
theorem dX6_init_57 : decode cX6_init 57 = .ok (.if_icmp .ge 22, 3) := by decide +kernel
theorem dX6_init_60 : decode cX6_init 60 = .ok (.aload_n 0, 1) := by decide +kernel
theorem dX6_init_61 : decode cX6_init 61 = .ok (.getfield 11, 3) := by decide +kernel
theorem dX6_init_64 : decode cX6_init 64 = .ok (.iload_n 1, 1) := by decide +kernel
theorem dX6_init_65 : decode cX6_init 65 = .ok (.new 9, 3) := by decide +kernel
theorem dX6_init_68 : decode cX6_init 68 = .ok (.dup, 1) := by decide +kernel
theorem dX6_init_69 : decode cX6_init 69 = .ok (.invokespecial 40, 3) := by decide +kernel
theorem dX6_init_72 : decode cX6_init 72 = .ok (.aastore, 1) := by decide +kernel
theorem dX6_init_73 : decode cX6_init 73 = .ok (.iinc 1 1, 3) := by decide +kernel
theorem dX6_init_76 : decode cX6_init 76 = .ok (.goto (-25), 3) := by decide +kernel
theorem dX6_init_79 : decode cX6_init 79 = .ok (.iconst 0, 1) := by decide +kernel
theorem dX6_init_80 : decode cX6_init 80 = .ok (.istore_n 1, 1) := by decide +kernel
theorem dX6_init_81 : decode cX6_init 81 = .ok (.iload_n 1, 1) := by decide +kernel
theorem dX6_init_82 : decode cX6_init 82 = .ok (.aload_n 0, 1) := by decide +kernel
theorem dX6_init_83 : decode cX6_init 83 = .ok (.getfield 19, 3) := by decide +kernel
theorem dX6_init_86 : decode cX6_init 86 = .ok (.arraylength, 1) := by decide +kernel
theorem dX6_init_87 : decode cX6_init 87 = .ok (.if_icmp .ge 22, 3) := by decide +kernel
theorem dX6_init_90 : decode cX6_init 90 = .ok (.aload_n 0, 1) := by decide +kernel
theorem dX6_init_91 : decode cX6_init 91 = .ok (.getfield 19, 3) := by decide +kernel
theorem dX6_init_94 : decode cX6_init 94 = .ok (.iload_n 1, 1) := by decide +kernel
theorem dX6_init_95 : decode cX6_init 95 = .ok (.new 17, 3) := by decide +kernel
theorem dX6_init_98 : decode cX6_init 98 = .ok (.dup, 1) := by decide +kernel
theorem dX6_init_99 : decode cX6_init 99 = .ok (.invokespecial 41, 3) := by decide +kernel
theorem dX6_init_102 : decode cX6_init 102 = .ok (.aastore, 1) := by decide +kernel
theorem dX6_init_103 : decode cX6_init 103 = .ok (.iinc 1 1, 3) := by decide +kernel
theorem dX6_init_106 : decode cX6_init 106 = .ok (.goto (-25), 3) := by decide +kernel
theorem dX6_init_109 : decode cX6_init 109 = .ok (.iconst 0, 1) := by decide +kernel
theorem dX6_init_110 : decode cX6_init 110 = .ok (.istore_n 1, 1) := by decide +kernel
theorem dX6_init_111 : decode cX6_init 111 = .ok (.iload_n 1, 1) := by decide +kernel
theorem dX6_init_112 : decode cX6_init 112 = .ok (.aload_n 0, 1) := by decide +kernel
theorem dX6_init_113 : decode cX6_init 113 = .ok (.getfield 25, 3) := by decide +kernel
theorem dX6_init_116 : decode cX6_init 116 = .ok (.arraylength, 1) := by decide +kernel
theorem dX6_init_117 : decode cX6_init 117 = .ok (.if_icmp .ge 22, 3) := by decide +kernel
theorem dX6_init_120 : decode cX6_init 120 = .ok (.aload_n 0, 1) := by decide +kernel
theorem dX6_init_121 : decode cX6_init 121 = .ok (.getfield 25, 3) := by decide +kernel
theorem dX6_init_124 : decode cX6_init 124 = .ok (.iload_n 1, 1) := by decide +kernel
theorem dX6_init_125 : decode cX6_init 125 = .ok (.new 23, 3) := by decide +kernel
theorem dX6_init_128 : decode cX6_init 128 = .ok (.dup, 1) := by decide +kernel
theorem dX6_init_129 : decode cX6_init 129 = .ok (.invokespecial 42, 3) := by decide +kernel
theorem dX6_init_132 : decode cX6_init 132 = .ok (.aastore, 1) := by decide +kernel
theorem dX6_init_133 : decode cX6_init 133 = .ok (.iinc 1 1, 3) := by decide +kernel
theorem dX6_init_136 : decode cX6_init 136 = .ok (.goto (-25), 3) := by decide +kernel
theorem dX6_init_139 : decode cX6_init 139 = .ok (.aload_n 0, 1) := by decide +kernel
theorem dX6_init_140 : decode cX6_init 140 = .ok (.invokevirtual 43, 3) := by decide +kernel
theorem dX6_init_143 : decode cX6_init 143 = .ok (.return_, 1) := by decide +kernel
theorem dX6_begin_0 : decode cX6_begin 0 = .ok (.aload_n 0, 1) := by decide +kernel
theorem dX6_begin_1 : decode cX6_begin 1 = .ok (.iconst 0, 1) := by decide +kernel
theorem dX6_begin_2 : decode cX6_begin 2 = .ok (.putfield 46, 3) := by decide +kernel
theorem dX6_begin_5 : decode cX6_begin 5 = .ok (.aload_n 0, 1) := by decide +kernel
theorem dX6_begin_6 : decode cX6_begin 6 = .ok (.iconst 0, 1) := by decide +kernel
theorem dX6_begin_7 : decode cX6_begin 7 = .ok (.putfield 50, 3) := by decide +kernel
theorem dX6_begin_10 : decode cX6_begin 10 = .ok (.aload_n 0, 1) := by decide +kernel
theorem dX6_begin_11 : decode cX6_begin 11 = .ok (.iconst 0, 1) := by decide +kernel
theorem dX6_begin_12 : decode cX6_begin 12 = .ok (.putfield 53, 3) := by decide +kernel
theorem dX6_begin_15 : decode cX6_begin 15 = .ok (.aload_n 0, 1) := by decide +kernel
theorem dX6_begin_16 : decode cX6_begin 16 = .ok (.iconst 0, 1) := by decide +kernel
theorem dX6_begin_17 : decode cX6_begin 17 = .ok (.putfield 56, 3) := by decide +kernel
theorem dX6_begin_20 : decode cX6_begin 20 = .ok (.aload_n 0, 1) := by decide +kernel
theorem dX6_begin_21 : decode cX6_begin 21 = .ok (.iconst 0, 1) := by decide +kernel
theorem dX6_begin_22 : decode cX6_begin 22 = .ok (.putfield 59, 3) := by decide +kernel
theorem dX6_begin_25 : decode cX6_begin 25 = .ok (.aload_n 0, 1) := by decide +kernel
theorem dX6_begin_26 : decode cX6_begin 26 = .ok (.iconst 5, 1) := by decide +kernel
theorem dX6_begin_27 : decode cX6_begin 27 = .ok (.putfield 62, 3) := by decide +kernel
theorem dX6_begin_30 : decode cX6_begin 30 = .ok (.aload_n 0, 1) := by decide +kernel
theorem dX6_begin_31 : decode cX6_begin 31 = .ok (.bipush 10, 2) := by decide +kernel
theorem dX6_begin_33 : decode cX6_begin 33 = .ok (.putfield 65, 3) := by decide +kernel
theorem dX6_begin_36 : decode cX6_begin 36 = .ok (.aload_n 0, 1) := by decide +kernel
theorem dX6_begin_37 : decode cX6_begin 37 = .ok (.bipush 10, 2) := by decide +kernel
theorem dX6_begin_39 : decode cX6_begin 39 = .ok (.putfield 68, 3) := by decide +kernel
theorem dX6_begin_42 : decode cX6_begin 42 = .ok (.aload_n 0, 1) := by decide +kernel
theorem dX6_begin_43 : decode cX6_begin 43 = .ok (.bipush 10, 2) := by decide +kernel
theorem dX6_begin_45 : decode cX6_begin 45 = .ok (.putfield 71, 3) := by decide +kernel
theorem dX6_begin_48 : decode cX6_begin 48 = .ok (.aload_n 0, 1) := by decide +kernel
theorem dX6_begin_49 : decode cX6_begin 49 = .ok (.iconst 1, 1) := by decide +kernel
theorem dX6_begin_50 : decode cX6_begin 50 = .ok (.putfield 74, 3) := by decide +kernel
theorem dX6_begin_53 : decode cX6_begin 53 = .ok (.aload_n 0, 1) := by decide +kernel
theorem dX6_begin_54 : decode cX6_begin 54 = .ok (.getfield 32, 3) := by decide +kernel
theorem dX6_begin_57 : decode cX6_begin 57 = .ok (.iconst 0, 1) := by decide +kernel
theorem dX6_begin_58 : decode cX6_begin 58 = .ok (.putfield 77, 3) := by decide +kernel
theorem dX6_begin_61 : decode cX6_begin 61 = .ok (.return_, 1) := by decide +kernel
theorem dX6_copyOf_0 : decode cX6_copyOf 0 = .ok (.aload_n 0, 1) := by decide +kernel
theorem dX6_copyOf_1 : decode cX6_copyOf 1 = .ok (.aload_n 1, 1) := by decide +kernel
theorem dX6_copyOf_2 : decode cX6_copyOf 2 = .ok (.getfield 46, 3) := by decide +kernel
theorem dX6_copyOf_5 : decode cX6_copyOf 5 = .ok (.putfield 46, 3) := by decide +kernel
theorem dX6_copyOf_8 : decode cX6_copyOf 8 = .ok (.iconst 0, 1) := by decide +kernel
theorem dX6_copyOf_9 : decode cX6_copyOf 9 = .ok (.istore_n 2, 1) := by decide +kernel
theorem dX6_copyOf_10 : decode cX6_copyOf 10 = .ok (.iload_n 2, 1) := by decide +kernel
theorem dX6_copyOf_11 : decode cX6_copyOf 11 = .ok (.aload_n 0, 1) := by decide +kernel
theorem dX6_copyOf_12 : decode cX6_copyOf 12 = .ok (.getfield 46, 3) := by decide +kernel
theorem dX6_copyOf_15 : decode cX6_copyOf 15 = .ok (.if_icmp .ge 24, 3) := by decide +kernel
theorem dX6_copyOf_18 : decode cX6_copyOf 18 = .ok (.aload_n 0, 1) := by decide +kernel
theorem dX6_copyOf_19 : decode cX6_copyOf 19 = .ok (.getfield 11, 3) := by decide +kernel
theorem dX6_copyOf_22 : decode cX6_copyOf 22 = .ok (.iload_n 2, 1) := by decide +kernel
theorem dX6_copyOf_23 : decode cX6_copyOf 23 = .ok (.aaload, 1) := by decide +kernel
theorem dX6_copyOf_24 : decode cX6_copyOf 24 = .ok (.aload_n 1, 1) := by decide +kernel
theorem dX6_copyOf_25 : decode cX6_copyOf 25 = .ok (.getfield 11, 3) := by decide +kernel
theorem dX6_copyOf_28 : decode cX6_copyOf 28 = .ok (.iload_n 2, 1) := by decide +kernel
theorem dX6_copyOf_29 : decode cX6_copyOf 29 = .ok (.aaload, 1) := by decide +kernel
theorem dX6_copyOf_30 : decode cX6_copyOf 30 = .ok (.invokevirtual 80, 3) := by decide +kernel
theorem dX6_copyOf_33 : decode cX6_copyOf 33 = .ok (.iinc 2 1, 3) := by decide +kernel
theorem dX6_copyOf_36 : decode cX6_copyOf 36 = .ok (.goto (-26), 3) := by decide +kernel
theorem dX6_copyOf_39 : decode cX6_copyOf 39 = .ok (.aload_n 0, 1) := by decide +kernel
theorem dX6_copyOf_40 : decode cX6_copyOf 40 = .ok (.aload_n 1, 1) := by decide +kernel
theorem dX6_copyOf_41 : decode cX6_copyOf 41 = .ok (.getfield 50, 3) := by decide +kernel
theorem dX6_copyOf_44 : decode cX6_copyOf 44 = .ok (.putfield 50, 3) := by decide +kernel
theorem dX6_copyOf_47 : decode cX6_copyOf 47 = .ok (.iconst 0, 1) := by decide +kernel
theorem dX6_copyOf_48 : decode cX6_copyOf 48 = .ok (.istore_n 2, 1) := by decide +kernel
theorem dX6_copyOf_49 : decode cX6_copyOf 49 = .ok (.iload_n 2, 1) := by decide +kernel
theorem dX6_copyOf_50 : decode cX6_copyOf 50 = .ok (.aload_n 0, 1) := by decide +kernel
theorem dX6_copyOf_51 : decode cX6_copyOf 51 = .ok (.getfield 50, 3) := by decide +kernel
theorem dX6_copyOf_54 : decode cX6_copyOf 54 = .ok (.if_icmp .ge 24, 3) := by decide +kernel
theorem dX6_copyOf_57 : decode cX6_copyOf 57 = .ok (.aload_n 0, 1) := by decide +kernel
theorem dX6_copyOf_58 : decode cX6_copyOf 58 = .ok (.getfield 19, 3) := by decide +kernel
theorem dX6_copyOf_61 : decode cX6_copyOf 61 = .ok (.iload_n 2, 1) := by decide +kernel
theorem dX6_copyOf_62 : decode cX6_copyOf 62 = .ok (.aaload, 1) := by decide +kernel
theorem dX6_copyOf_63 : decode cX6_copyOf 63 = .ok (.aload_n 1, 1) := by decide +kernel
theorem dX6_copyOf_64 : decode cX6_copyOf 64 = .ok (.getfield 19, 3) := by decide +kernel
theorem dX6_copyOf_67 : decode cX6_copyOf 67 = .ok (.iload_n 2, 1) := by decide +kernel
theorem dX6_copyOf_68 : decode cX6_copyOf 68 = .ok (.aaload, 1) := by decide +kernel
theorem dX6_copyOf_69 : decode cX6_copyOf 69 = .ok (.invokevirtual 84, 3) := by decide +kernel
theorem dX6_copyOf_72 : decode cX6_copyOf 72 = .ok (.iinc 2 1, 3) := by decide +kernel
theorem dX6_copyOf_75 : decode cX6_copyOf 75 = .ok (.goto (-26), 3) := by decide +kernel
theorem dX6_copyOf_78 : decode cX6_copyOf 78 = .ok (.aload_n 0, 1) := by decide +kernel
theorem dX6_copyOf_79 : decode cX6_copyOf 79 = .ok (.aload_n 1, 1) := by decide +kernel
theorem dX6_copyOf_80 : decode cX6_copyOf 80 = .ok (.getfield 53, 3) := by decide +kernel
theorem dX6_copyOf_83 : decode cX6_copyOf 83 = .ok (.putfield 53, 3) := by decide +kernel
theorem dX6_copyOf_86 : decode cX6_copyOf 86 = .ok (.iconst 0, 1) := by decide +kernel
theorem dX6_copyOf_87 : decode cX6_copyOf 87 = .ok (.istore_n 2, 1) := by decide +kernel
theorem dX6_copyOf_88 : decode cX6_copyOf 88 = .ok (.iload_n 2, 1) := by decide +kernel
theorem dX6_copyOf_89 : decode cX6_copyOf 89 = .ok (.aload_n 0, 1) := by decide +kernel
theorem dX6_copyOf_90 : decode cX6_copyOf 90 = .ok (.getfield 53, 3) := by decide +kernel
theorem dX6_copyOf_93 : decode cX6_copyOf 93 = .ok (.if_icmp .ge 24, 3) := by decide +kernel
theorem dX6_copyOf_96 : decode cX6_copyOf 96 = .ok (.aload_n 0, 1) := by decide +kernel
theorem dX6_copyOf_97 : decode cX6_copyOf 97 = .ok (.getfield 25, 3) := by decide +kernel
theorem dX6_copyOf_100 : decode cX6_copyOf 100 = .ok (.iload_n 2, 1) := by decide +kernel
theorem dX6_copyOf_101 : decode cX6_copyOf 101 = .ok (.aaload, 1) := by decide +kernel
theorem dX6_copyOf_102 : decode cX6_copyOf 102 = .ok (.aload_n 1, 1) := by decide +kernel
theorem dX6_copyOf_103 : decode cX6_copyOf 103 = .ok (.getfield 25, 3) := by decide +kernel
theorem dX6_copyOf_106 : decode cX6_copyOf 106 = .ok (.iload_n 2, 1) := by decide +kernel
theorem dX6_copyOf_107 : decode cX6_copyOf 107 = .ok (.aaload, 1) := by decide +kernel
theorem dX6_copyOf_108 : decode cX6_copyOf 108 = .ok (.invokevirtual 87, 3) := by decide +kernel
theorem dX6_copyOf_111 : decode cX6_copyOf 111 = .ok (.iinc 2 1, 3) := by decide +kernel
theorem dX6_copyOf_114 : decode cX6_copyOf 114 = .ok (.goto (-26), 3) := by decide +kernel
theorem dX6_copyOf_117 : decode cX6_copyOf 117 = .ok (.aload_n 0, 1) := by decide +kernel
theorem dX6_copyOf_118 : decode cX6_copyOf 118 = .ok (.aload_n 1, 1) := by decide +kernel
theorem dX6_copyOf_119 : decode cX6_copyOf 119 = .ok (.getfield 56, 3) := by decide +kernel
theorem dX6_copyOf_122 : decode cX6_copyOf 122 = .ok (.putfield 56, 3) := by decide +kernel
theorem dX6_copyOf_125 : decode cX6_copyOf 125 = .ok (.aload_n 0, 1) := by decide +kernel
theorem dX6_copyOf_126 : decode cX6_copyOf 126 = .ok (.aload_n 1, 1) := by decide +kernel
theorem dX6_copyOf_127 : decode cX6_copyOf 127 = .ok (.getfield 59, 3) := by decide +kernel
theorem dX6_copyOf_130 : decode cX6_copyOf 130 = .ok (.putfield 59, 3) := by decide +kernel
theorem dX6_copyOf_133 : decode cX6_copyOf 133 = .ok (.aload_n 0, 1) := by decide +kernel
theorem dX6_copyOf_134 : decode cX6_copyOf 134 = .ok (.aload_n 1, 1) := by decide +kernel
theorem dX6_copyOf_135 : decode cX6_copyOf 135 = .ok (.getfield 62, 3) := by decide +kernel
theorem dX6_copyOf_138 : decode cX6_copyOf 138 = .ok (.putfield 62, 3) := by decide +kernel
theorem dX6_copyOf_141 : decode cX6_copyOf 141 = .ok (.aload_n 0, 1) := by decide +kernel
theorem dX6_copyOf_142 : decode cX6_copyOf 142 = .ok (.aload_n 1, 1) := by decide +kernel
theorem dX6_copyOf_143 : decode cX6_copyOf 143 = .ok (.getfield 65, 3) := by decide +kernel
theorem dX6_copyOf_146 : decode cX6_copyOf 146 = .ok (.putfield 65, 3) := by decide +kernel
theorem dX6_copyOf_149 : decode cX6_copyOf 149 = .ok (.aload_n 0, 1) := by decide +kernel
theorem dX6_copyOf_150 : decode cX6_copyOf 150 = .ok (.aload_n 1, 1) := by decide +kernel
theorem dX6_copyOf_151 : decode cX6_copyOf 151 = .ok (.getfield 68, 3) := by decide +kernel
theorem dX6_copyOf_154 : decode cX6_copyOf 154 = .ok (.putfield 68, 3) := by decide +kernel
theorem dX6_copyOf_157 : decode cX6_copyOf 157 = .ok (.aload_n 0, 1) := by decide +kernel
theorem dX6_copyOf_158 : decode cX6_copyOf 158 = .ok (.aload_n 1, 1) := by decide +kernel
theorem dX6_copyOf_159 : decode cX6_copyOf 159 = .ok (.getfield 71, 3) := by decide +kernel
theorem dX6_copyOf_162 : decode cX6_copyOf 162 = .ok (.putfield 71, 3) := by decide +kernel
theorem dX6_copyOf_165 : decode cX6_copyOf 165 = .ok (.aload_n 0, 1) := by decide +kernel
theorem dX6_copyOf_166 : decode cX6_copyOf 166 = .ok (.aload_n 1, 1) := by decide +kernel
theorem dX6_copyOf_167 : decode cX6_copyOf 167 = .ok (.getfield 74, 3) := by decide +kernel
theorem dX6_copyOf_170 : decode cX6_copyOf 170 = .ok (.putfield 74, 3) := by decide +kernel
theorem dX6_copyOf_173 : decode cX6_copyOf 173 = .ok (.aload_n 0, 1) := by decide +kernel
theorem dX6_copyOf_174 : decode cX6_copyOf 174 = .ok (.getfield 32, 3) := by decide +kernel
theorem dX6_copyOf_177 : decode cX6_copyOf 177 = .ok (.aload_n 1, 1) := by decide +kernel
theorem dX6_copyOf_178 : decode cX6_copyOf 178 = .ok (.getfield 32, 3) := by decide +kernel
theorem dX6_copyOf_181 : decode cX6_copyOf 181 = .ok (.invokevirtual 90, 3) := by decide +kernel
theorem dX6_copyOf_184 : decode cX6_copyOf 184 = .ok (.return_, 1) := by decide +kernel
theorem dX6_hasHandler_0 : decode cX6_hasHandler 0 = .ok (.iload_n 1, 1) := by decide +kernel
theorem dX6_hasHandler_1 : decode cX6_hasHandler 1 = .ok (.ifCond .lt 15, 3) := by decide +kernel
theorem dX6_hasHandler_4 : decode cX6_hasHandler 4 = .ok (.iload_n 1, 1) := by decide +kernel
theorem dX6_hasHandler_5 : decode cX6_hasHandler 5 = .ok (.aload_n 0, 1) := by decide +kernel
theorem dX6_hasHandler_6 : decode cX6_hasHandler 6 = .ok (.getfield 46, 3) := by decide +kernel
theorem dX6_hasHandler_9 : decode cX6_hasHandler 9 = .ok (.if_icmp .ge 7, 3) := by decide +kernel
theorem dX6_hasHandler_12 : decode cX6_hasHandler 12 = .ok (.iconst 1, 1) := by decide +kernel
theorem dX6_hasHandler_13 : decode cX6_hasHandler 13 = .ok (.goto 4, 3) := by decide +kernel
theorem dX6_hasHandler_16 : decode cX6_hasHandler 16 = .ok (.iconst 0, 1) := by decide +kernel
theorem dX6_hasHandler_17 : decode cX6_hasHandler 17 = .ok (.ireturn, 1) := by decide +kernel
theorem dX6_hasLine_0 : decode cX6_hasLine 0 = .ok (.iload_n 1, 1) := by decide +kernel
theorem dX6_hasLine_1 : decode cX6_hasLine 1 = .ok (.ifCond .lt 15, 3) := by decide +kernel
theorem dX6_hasLine_4 : decode cX6_hasLine 4 = .ok (.iload_n 1, 1) := by decide +kernel
theorem dX6_hasLine_5 : decode cX6_hasLine 5 = .ok (.aload_n 0, 1) := by decide +kernel
theorem dX6_hasLine_6 : decode cX6_hasLine 6 = .ok (.getfield 50, 3) := by decide +kernel
theorem dX6_hasLine_9 : decode cX6_hasLine 9 = .ok (.if_icmp .ge 7, 3) := by decide +kernel
theorem dX6_hasLine_12 : decode cX6_hasLine 12 = .ok (.iconst 1, 1) := by decide +kernel
theorem dX6_hasLine_13 : decode cX6_hasLine 13 = .ok (.goto 4, 3) := by decide +kernel
theorem dX6_hasLine_16 : decode cX6_hasLine 16 = .ok (.iconst 0, 1) := by decide +kernel
theorem dX6_hasLine_17 : decode cX6_hasLine 17 = .ok (.ireturn, 1) := by decide +kernel
theorem dX6_hasRequest_0 : decode cX6_hasRequest 0 = .ok (.iload_n 1, 1) := by decide +kernel
theorem dX6_hasRequest_1 : decode cX6_hasRequest 1 = .ok (.ifCond .lt 15, 3) := by decide +kernel
theorem dX6_hasRequest_4 : decode cX6_hasRequest 4 = .ok (.iload_n 1, 1) := by decide +kernel
theorem dX6_hasRequest_5 : decode cX6_hasRequest 5 = .ok (.aload_n 0, 1) := by decide +kernel
theorem dX6_hasRequest_6 : decode cX6_hasRequest 6 = .ok (.getfield 53, 3) := by decide +kernel
theorem dX6_hasRequest_9 : decode cX6_hasRequest 9 = .ok (.if_icmp .ge 7, 3) := by decide +kernel
theorem dX6_hasRequest_12 : decode cX6_hasRequest 12 = .ok (.iconst 1, 1) := by decide +kernel
theorem dX6_hasRequest_13 : decode cX6_hasRequest 13 = .ok (.goto 4, 3) := by decide +kernel
theorem dX6_hasRequest_16 : decode cX6_hasRequest 16 = .ok (.iconst 0, 1) := by decide +kernel
theorem dX6_hasRequest_17 : decode cX6_hasRequest 17 = .ok (.ireturn, 1) := by decide +kernel
theorem dX6_addHandler_0 : decode cX6_addHandler 0 = .ok (.aload_n 0, 1) := by decide +kernel
theorem dX6_addHandler_1 : decode cX6_addHandler 1 = .ok (.getfield 46, 3) := by decide +kernel
theorem dX6_addHandler_4 : decode cX6_addHandler 4 = .ok (.aload_n 0, 1) := by decide +kernel
theorem dX6_addHandler_5 : decode cX6_addHandler 5 = .ok (.getfield 11, 3) := by decide +kernel
theorem dX6_addHandler_8 : decode cX6_addHandler 8 = .ok (.arraylength, 1) := by decide +kernel
theorem dX6_addHandler_9 : decode cX6_addHandler 9 = .ok (.if_icmp .ge 27, 3) := by decide +kernel
theorem dX6_addHandler_12 : decode cX6_addHandler 12 = .ok (.aload_n 0, 1) := by decide +kernel
theorem dX6_addHandler_13 : decode cX6_addHandler 13 = .ok (.getfield 11, 3) := by decide +kernel
theorem dX6_addHandler_16 : decode cX6_addHandler 16 = .ok (.aload_n 0, 1) := by decide +kernel
theorem dX6_addHandler_17 : decode cX6_addHandler 17 = .ok (.getfield 46, 3) := by decide +kernel
theorem dX6_addHandler_20 : decode cX6_addHandler 20 = .ok (.aaload, 1) := by decide +kernel
theorem dX6_addHandler_21 : decode cX6_addHandler 21 = .ok (.iload_n 1, 1) := by decide +kernel
theorem dX6_addHandler_22 : decode cX6_addHandler 22 = .ok (.iload_n 2, 1) := by decide +kernel
theorem dX6_addHandler_23 : decode cX6_addHandler 23 = .ok (.invokevirtual 93, 3) := by decide +kernel
theorem dX6_addHandler_26 : decode cX6_addHandler 26 = .ok (.aload_n 0, 1) := by decide +kernel
theorem dX6_addHandler_27 : decode cX6_addHandler 27 = .ok (.dup, 1) := by decide +kernel
theorem dX6_addHandler_28 : decode cX6_addHandler 28 = .ok (.getfield 46, 3) := by decide +kernel
theorem dX6_addHandler_31 : decode cX6_addHandler 31 = .ok (.iconst 1, 1) := by decide +kernel
theorem dX6_addHandler_32 : decode cX6_addHandler 32 = .ok (.iadd, 1) := by decide +kernel
theorem dX6_addHandler_33 : decode cX6_addHandler 33 = .ok (.putfield 46, 3) := by decide +kernel
theorem dX6_addHandler_36 : decode cX6_addHandler 36 = .ok (.return_, 1) := by decide +kernel
theorem dX6_addLine_0 : decode cX6_addLine 0 = .ok (.aload_n 0, 1) := by decide +kernel
theorem dX6_addLine_1 : decode cX6_addLine 1 = .ok (.getfield 50, 3) := by decide +kernel
theorem dX6_addLine_4 : decode cX6_addLine 4 = .ok (.aload_n 0, 1) := by decide +kernel
theorem dX6_addLine_5 : decode cX6_addLine 5 = .ok (.getfield 19, 3) := by decide +kernel
theorem dX6_addLine_8 : decode cX6_addLine 8 = .ok (.arraylength, 1) := by decide +kernel
theorem dX6_addLine_9 : decode cX6_addLine 9 = .ok (.if_icmp .ge 28, 3) := by decide +kernel
theorem dX6_addLine_12 : decode cX6_addLine 12 = .ok (.aload_n 0, 1) := by decide +kernel
theorem dX6_addLine_13 : decode cX6_addLine 13 = .ok (.getfield 19, 3) := by decide +kernel
theorem dX6_addLine_16 : decode cX6_addLine 16 = .ok (.aload_n 0, 1) := by decide +kernel
theorem dX6_addLine_17 : decode cX6_addLine 17 = .ok (.getfield 50, 3) := by decide +kernel
theorem dX6_addLine_20 : decode cX6_addLine 20 = .ok (.aaload, 1) := by decide +kernel
theorem dX6_addLine_21 : decode cX6_addLine 21 = .ok (.iload_n 1, 1) := by decide +kernel
theorem dX6_addLine_22 : decode cX6_addLine 22 = .ok (.iload_n 2, 1) := by decide +kernel
theorem dX6_addLine_23 : decode cX6_addLine 23 = .ok (.iload_n 3, 1) := by decide +kernel
theorem dX6_addLine_24 : decode cX6_addLine 24 = .ok (.invokevirtual 96, 3) := by decide +kernel
theorem dX6_addLine_27 : decode cX6_addLine 27 = .ok (.aload_n 0, 1) := by decide +kernel
theorem dX6_addLine_28 : decode cX6_addLine 28 = .ok (.dup, 1) := by decide +kernel
theorem dX6_addLine_29 : decode cX6_addLine 29 = .ok (.getfield 50, 3) := by decide +kernel
theorem dX6_addLine_32 : decode cX6_addLine 32 = .ok (.iconst 1, 1) := by decide +kernel
theorem dX6_addLine_33 : decode cX6_addLine 33 = .ok (.iadd, 1) := by decide +kernel
theorem dX6_addLine_34 : decode cX6_addLine 34 = .ok (.putfield 50, 3) := by decide +kernel
theorem dX6_addLine_37 : decode cX6_addLine 37 = .ok (.return_, 1) := by decide +kernel
theorem dX6_addRequest_0 : decode cX6_addRequest 0 = .ok (.aload_n 0, 1) := by decide +kernel
theorem dX6_addRequest_1 : decode cX6_addRequest 1 = .ok (.getfield 53, 3) := by decide +kernel
theorem dX6_addRequest_4 : decode cX6_addRequest 4 = .ok (.aload_n 0, 1) := by decide +kernel
theorem dX6_addRequest_5 : decode cX6_addRequest 5 = .ok (.getfield 25, 3) := by decide +kernel
theorem dX6_addRequest_8 : decode cX6_addRequest 8 = .ok (.arraylength, 1) := by decide +kernel
theorem dX6_addRequest_9 : decode cX6_addRequest 9 = .ok (.if_icmp .ge 28, 3) := by decide +kernel
theorem dX6_addRequest_12 : decode cX6_addRequest 12 = .ok (.aload_n 0, 1) := by decide +kernel
theorem dX6_addRequest_13 : decode cX6_addRequest 13 = .ok (.getfield 25, 3) := by decide +kernel
theorem dX6_addRequest_16 : decode cX6_addRequest 16 = .ok (.aload_n 0, 1) := by decide +kernel
theorem dX6_addRequest_17 : decode cX6_addRequest 17 = .ok (.getfield 53, 3) := by decide +kernel
theorem dX6_addRequest_20 : decode cX6_addRequest 20 = .ok (.aaload, 1) := by decide +kernel
theorem dX6_addRequest_21 : decode cX6_addRequest 21 = .ok (.iload_n 1, 1) := by decide +kernel
theorem dX6_addRequest_22 : decode cX6_addRequest 22 = .ok (.iload_n 2, 1) := by decide +kernel
theorem dX6_addRequest_23 : decode cX6_addRequest 23 = .ok (.iload_n 3, 1) := by decide +kernel
theorem dX6_addRequest_24 : decode cX6_addRequest 24 = .ok (.invokevirtual 99, 3) := by decide +kernel
theorem dX6_addRequest_27 : decode cX6_addRequest 27 = .ok (.aload_n 0, 1) := by decide +kernel
theorem dX6_addRequest_28 : decode cX6_addRequest 28 = .ok (.dup, 1) := by decide +kernel
theorem dX6_addRequest_29 : decode cX6_addRequest 29 = .ok (.getfield 53, 3) := by decide +kernel
theorem dX6_addRequest_32 : decode cX6_addRequest 32 = .ok (.iconst 1, 1) := by decide +kernel
theorem dX6_addRequest_33 : decode cX6_addRequest 33 = .ok (.iadd, 1) := by decide +kernel
theorem dX6_addRequest_34 : decode cX6_addRequest 34 = .ok (.putfield 53, 3) := by decide +kernel
theorem dX6_addRequest_37 : decode cX6_addRequest 37 = .ok (.return_, 1) := by decide +kernel
theorem dX6_requestsIn_0 : decode cX6_requestsIn 0 = .ok (.iconst 0, 1) := by decide +kernel
theorem dX6_requestsIn_1 : decode cX6_requestsIn 1 = .ok (.istore_n 2, 1) := by decide +kernel
theorem dX6_requestsIn_2 : decode cX6_requestsIn 2 = .ok (.iconst 0, 1) := by decide +kernel
theorem dX6_requestsIn_3 : decode cX6_requestsIn 3 = .ok (.istore_n 3, 1) := by decide +kernel
theorem dX6_requestsIn_4 : decode cX6_requestsIn 4 = .ok (.iload_n 3, 1) := by decide +kernel
theorem dX6_requestsIn_5 : decode cX6_requestsIn 5 = .ok (.aload_n 0, 1) := by decide +kernel
theorem dX6_requestsIn_6 : decode cX6_requestsIn 6 = .ok (.getfield 53, 3) := by decide +kernel
theorem dX6_requestsIn_9 : decode cX6_requestsIn 9 = .ok (.if_icmp .ge 25, 3) := by decide +kernel
theorem dX6_requestsIn_12 : decode cX6_requestsIn 12 = .ok (.aload_n 0, 1) := by decide +kernel
theorem dX6_requestsIn_13 : decode cX6_requestsIn 13 = .ok (.getfield 25, 3) := by decide +kernel
theorem dX6_requestsIn_16 : decode cX6_requestsIn 16 = .ok (.iload_n 3, 1) := by decide +kernel
theorem dX6_requestsIn_17 : decode cX6_requestsIn 17 = .ok (.aaload, 1) := by decide +kernel
theorem dX6_requestsIn_18 : decode cX6_requestsIn 18 = .ok (.getfield 100, 3) := by decide +kernel
theorem dX6_requestsIn_21 : decode cX6_requestsIn 21 = .ok (.iload_n 1, 1) := by decide +kernel
theorem dX6_requestsIn_22 : decode cX6_requestsIn 22 = .ok (.if_icmp .ne 6, 3) := by decide +kernel
theorem dX6_requestsIn_25 : decode cX6_requestsIn 25 = .ok (.iinc 2 1, 3) := by decide +kernel
theorem dX6_requestsIn_28 : decode cX6_requestsIn 28 = .ok (.iinc 3 1, 3) := by decide +kernel
theorem dX6_requestsIn_31 : decode cX6_requestsIn 31 = .ok (.goto (-27), 3) := by decide +kernel
theorem dX6_requestsIn_34 : decode cX6_requestsIn 34 = .ok (.iload_n 2, 1) := by decide +kernel
theorem dX6_requestsIn_35 : decode cX6_requestsIn 35 = .ok (.ireturn, 1) := by decide +kernel
theorem dX6_bankruptHandlers_0 : decode cX6_bankruptHandlers 0 = .ok (.iconst 0, 1) := by decide +kernel
theorem dX6_bankruptHandlers_1 : decode cX6_bankruptHandlers 1 = .ok (.istore_n 1, 1) := by decide +kernel
theorem dX6_bankruptHandlers_2 : decode cX6_bankruptHandlers 2 = .ok (.iconst 0, 1) := by decide +kernel
theorem dX6_bankruptHandlers_3 : decode cX6_bankruptHandlers 3 = .ok (.istore_n 2, 1) := by decide +kernel
theorem dX6_bankruptHandlers_4 : decode cX6_bankruptHandlers 4 = .ok (.iload_n 2, 1) := by decide +kernel
theorem dX6_bankruptHandlers_5 : decode cX6_bankruptHandlers 5 = .ok (.aload_n 0, 1) := by decide +kernel
theorem dX6_bankruptHandlers_6 : decode cX6_bankruptHandlers 6 = .ok (.getfield 46, 3) := by decide +kernel
theorem dX6_bankruptHandlers_9 : decode cX6_bankruptHandlers 9 = .ok (.if_icmp .ge 24, 3) := by decide +kernel
theorem dX6_bankruptHandlers_12 : decode cX6_bankruptHandlers 12 = .ok (.aload_n 0, 1) := by decide +kernel
theorem dX6_bankruptHandlers_13 : decode cX6_bankruptHandlers 13 = .ok (.getfield 11, 3) := by decide +kernel
theorem dX6_bankruptHandlers_16 : decode cX6_bankruptHandlers 16 = .ok (.iload_n 2, 1) := by decide +kernel
theorem dX6_bankruptHandlers_17 : decode cX6_bankruptHandlers 17 = .ok (.aaload, 1) := by decide +kernel
theorem dX6_bankruptHandlers_18 : decode cX6_bankruptHandlers 18 = .ok (.getfield 103, 3) := by decide +kernel
theorem dX6_bankruptHandlers_21 : decode cX6_bankruptHandlers 21 = .ok (.ifCond .eq 6, 3) := by decide +kernel
theorem dX6_bankruptHandlers_24 : decode cX6_bankruptHandlers 24 = .ok (.iinc 1 1, 3) := by decide +kernel
theorem dX6_bankruptHandlers_27 : decode cX6_bankruptHandlers 27 = .ok (.iinc 2 1, 3) := by decide +kernel
theorem dX6_bankruptHandlers_30 : decode cX6_bankruptHandlers 30 = .ok (.goto (-26), 3) := by decide +kernel
theorem dX6_bankruptHandlers_33 : decode cX6_bankruptHandlers 33 = .ok (.iload_n 1, 1) := by decide +kernel
theorem dX6_bankruptHandlers_34 : decode cX6_bankruptHandlers 34 = .ok (.ireturn, 1) := by decide +kernel
theorem dX6_allCoins_0 : decode cX6_allCoins 0 = .ok (.aload_n 0, 1) := by decide +kernel
theorem dX6_allCoins_1 : decode cX6_allCoins 1 = .ok (.getfield 59, 3) := by decide +kernel
theorem dX6_allCoins_4 : decode cX6_allCoins 4 = .ok (.istore_n 1, 1) := by decide +kernel
theorem dX6_allCoins_5 : decode cX6_allCoins 5 = .ok (.iconst 0, 1) := by decide +kernel
theorem dX6_allCoins_6 : decode cX6_allCoins 6 = .ok (.istore_n 2, 1) := by decide +kernel
theorem dX6_allCoins_7 : decode cX6_allCoins 7 = .ok (.iload_n 2, 1) := by decide +kernel
theorem dX6_allCoins_8 : decode cX6_allCoins 8 = .ok (.aload_n 0, 1) := by decide +kernel
theorem dX6_allCoins_9 : decode cX6_allCoins 9 = .ok (.getfield 46, 3) := by decide +kernel
theorem dX6_allCoins_12 : decode cX6_allCoins 12 = .ok (.if_icmp .ge 21, 3) := by decide +kernel
theorem dX6_allCoins_15 : decode cX6_allCoins 15 = .ok (.iload_n 1, 1) := by decide +kernel
theorem dX6_allCoins_16 : decode cX6_allCoins 16 = .ok (.aload_n 0, 1) := by decide +kernel
theorem dX6_allCoins_17 : decode cX6_allCoins 17 = .ok (.getfield 11, 3) := by decide +kernel
theorem dX6_allCoins_20 : decode cX6_allCoins 20 = .ok (.iload_n 2, 1) := by decide +kernel
theorem dX6_allCoins_21 : decode cX6_allCoins 21 = .ok (.aaload, 1) := by decide +kernel
theorem dX6_allCoins_22 : decode cX6_allCoins 22 = .ok (.getfield 107, 3) := by decide +kernel
theorem dX6_allCoins_25 : decode cX6_allCoins 25 = .ok (.iadd, 1) := by decide +kernel
theorem dX6_allCoins_26 : decode cX6_allCoins 26 = .ok (.istore_n 1, 1) := by decide +kernel
theorem dX6_allCoins_27 : decode cX6_allCoins 27 = .ok (.iinc 2 1, 3) := by decide +kernel
theorem dX6_allCoins_30 : decode cX6_allCoins 30 = .ok (.goto (-23), 3) := by decide +kernel
theorem dX6_allCoins_33 : decode cX6_allCoins 33 = .ok (.iconst 0, 1) := by decide +kernel
theorem dX6_allCoins_34 : decode cX6_allCoins 34 = .ok (.istore_n 2, 1) := by decide +kernel
theorem dX6_allCoins_35 : decode cX6_allCoins 35 = .ok (.iload_n 2, 1) := by decide +kernel
theorem dX6_allCoins_36 : decode cX6_allCoins 36 = .ok (.aload_n 0, 1) := by decide +kernel
theorem dX6_allCoins_37 : decode cX6_allCoins 37 = .ok (.getfield 50, 3) := by decide +kernel
theorem dX6_allCoins_40 : decode cX6_allCoins 40 = .ok (.if_icmp .ge 21, 3) := by decide +kernel
theorem dX6_allCoins_43 : decode cX6_allCoins 43 = .ok (.iload_n 1, 1) := by decide +kernel
theorem dX6_allCoins_44 : decode cX6_allCoins 44 = .ok (.aload_n 0, 1) := by decide +kernel
theorem dX6_allCoins_45 : decode cX6_allCoins 45 = .ok (.getfield 19, 3) := by decide +kernel
theorem dX6_allCoins_48 : decode cX6_allCoins 48 = .ok (.iload_n 2, 1) := by decide +kernel
theorem dX6_allCoins_49 : decode cX6_allCoins 49 = .ok (.aaload, 1) := by decide +kernel
theorem dX6_allCoins_50 : decode cX6_allCoins 50 = .ok (.getfield 110, 3) := by decide +kernel
theorem dX6_allCoins_53 : decode cX6_allCoins 53 = .ok (.iadd, 1) := by decide +kernel
theorem dX6_allCoins_54 : decode cX6_allCoins 54 = .ok (.istore_n 1, 1) := by decide +kernel
theorem dX6_allCoins_55 : decode cX6_allCoins 55 = .ok (.iinc 2 1, 3) := by decide +kernel
theorem dX6_allCoins_58 : decode cX6_allCoins 58 = .ok (.goto (-23), 3) := by decide +kernel
theorem dX6_allCoins_61 : decode cX6_allCoins 61 = .ok (.iload_n 1, 1) := by decide +kernel
theorem dX6_allCoins_62 : decode cX6_allCoins 62 = .ok (.ireturn, 1) := by decide +kernel
theorem dX6_allFines_0 : decode cX6_allFines 0 = .ok (.iconst 0, 1) := by decide +kernel
theorem dX6_allFines_1 : decode cX6_allFines 1 = .ok (.istore_n 1, 1) := by decide +kernel
theorem dX6_allFines_2 : decode cX6_allFines 2 = .ok (.iconst 0, 1) := by decide +kernel
theorem dX6_allFines_3 : decode cX6_allFines 3 = .ok (.istore_n 2, 1) := by decide +kernel
theorem dX6_allFines_4 : decode cX6_allFines 4 = .ok (.iload_n 2, 1) := by decide +kernel
theorem dX6_allFines_5 : decode cX6_allFines 5 = .ok (.aload_n 0, 1) := by decide +kernel
theorem dX6_allFines_6 : decode cX6_allFines 6 = .ok (.getfield 46, 3) := by decide +kernel
theorem dX6_allFines_9 : decode cX6_allFines 9 = .ok (.if_icmp .ge 21, 3) := by decide +kernel
theorem dX6_allFines_12 : decode cX6_allFines 12 = .ok (.iload_n 1, 1) := by decide +kernel
theorem dX6_allFines_13 : decode cX6_allFines 13 = .ok (.aload_n 0, 1) := by decide +kernel
theorem dX6_allFines_14 : decode cX6_allFines 14 = .ok (.getfield 11, 3) := by decide +kernel
theorem dX6_allFines_17 : decode cX6_allFines 17 = .ok (.iload_n 2, 1) := by decide +kernel
theorem dX6_allFines_18 : decode cX6_allFines 18 = .ok (.aaload, 1) := by decide +kernel
theorem dX6_allFines_19 : decode cX6_allFines 19 = .ok (.getfield 111, 3) := by decide +kernel
theorem dX6_allFines_22 : decode cX6_allFines 22 = .ok (.iadd, 1) := by decide +kernel
theorem dX6_allFines_23 : decode cX6_allFines 23 = .ok (.istore_n 1, 1) := by decide +kernel
theorem dX6_allFines_24 : decode cX6_allFines 24 = .ok (.iinc 2 1, 3) := by decide +kernel
theorem dX6_allFines_27 : decode cX6_allFines 27 = .ok (.goto (-23), 3) := by decide +kernel
theorem dX6_allFines_30 : decode cX6_allFines 30 = .ok (.iload_n 1, 1) := by decide +kernel
theorem dX6_allFines_31 : decode cX6_allFines 31 = .ok (.ireturn, 1) := by decide +kernel
theorem dX6_linesOf_0 : decode cX6_linesOf 0 = .ok (.iconst 0, 1) := by decide +kernel
theorem dX6_linesOf_1 : decode cX6_linesOf 1 = .ok (.istore_n 2, 1) := by decide +kernel
theorem dX6_linesOf_2 : decode cX6_linesOf 2 = .ok (.iconst 0, 1) := by decide +kernel
theorem dX6_linesOf_3 : decode cX6_linesOf 3 = .ok (.istore_n 3, 1) := by decide +kernel
theorem dX6_linesOf_4 : decode cX6_linesOf 4 = .ok (.iload_n 3, 1) := by decide +kernel
theorem dX6_linesOf_5 : decode cX6_linesOf 5 = .ok (.aload_n 0, 1) := by decide +kernel
theorem dX6_linesOf_6 : decode cX6_linesOf 6 = .ok (.getfield 50, 3) := by decide +kernel
theorem dX6_linesOf_9 : decode cX6_linesOf 9 = .ok (.if_icmp .ge 25, 3) := by decide +kernel
theorem dX6_linesOf_12 : decode cX6_linesOf 12 = .ok (.aload_n 0, 1) := by decide +kernel
theorem dX6_linesOf_13 : decode cX6_linesOf 13 = .ok (.getfield 19, 3) := by decide +kernel
theorem dX6_linesOf_16 : decode cX6_linesOf 16 = .ok (.iload_n 3, 1) := by decide +kernel
theorem dX6_linesOf_17 : decode cX6_linesOf 17 = .ok (.aaload, 1) := by decide +kernel
theorem dX6_linesOf_18 : decode cX6_linesOf 18 = .ok (.iload_n 1, 1) := by decide +kernel
theorem dX6_linesOf_19 : decode cX6_linesOf 19 = .ok (.invokevirtual 114, 3) := by decide +kernel
theorem dX6_linesOf_22 : decode cX6_linesOf 22 = .ok (.ifCond .lt 6, 3) := by decide +kernel
theorem dX6_linesOf_25 : decode cX6_linesOf 25 = .ok (.iinc 2 1, 3) := by decide +kernel
theorem dX6_linesOf_28 : decode cX6_linesOf 28 = .ok (.iinc 3 1, 3) := by decide +kernel
theorem dX6_linesOf_31 : decode cX6_linesOf 31 = .ok (.goto (-27), 3) := by decide +kernel
theorem dX6_linesOf_34 : decode cX6_linesOf 34 = .ok (.iload_n 2, 1) := by decide +kernel
theorem dX6_linesOf_35 : decode cX6_linesOf 35 = .ok (.ireturn, 1) := by decide +kernel
theorem dX6_openOf_0 : decode cX6_openOf 0 = .ok (.iconst 0, 1) := by decide +kernel
theorem dX6_openOf_1 : decode cX6_openOf 1 = .ok (.istore_n 3, 1) := by decide +kernel
theorem dX6_openOf_2 : decode cX6_openOf 2 = .ok (.iconst 0, 1) := by decide +kernel
theorem dX6_openOf_3 : decode cX6_openOf 3 = .ok (.istore 4, 2) := by decide +kernel
theorem dX6_openOf_5 : decode cX6_openOf 5 = .ok (.iload 4, 2) := by decide +kernel
theorem dX6_openOf_7 : decode cX6_openOf 7 = .ok (.aload_n 0, 1) := by decide +kernel
theorem dX6_openOf_8 : decode cX6_openOf 8 = .ok (.getfield 53, 3) := by decide +kernel
theorem dX6_openOf_11 : decode cX6_openOf 11 = .ok (.if_icmp .ge 48, 3) := by decide +kernel
theorem dX6_openOf_14 : decode cX6_openOf 14 = .ok (.aload_n 0, 1) := by decide +kernel
theorem dX6_openOf_15 : decode cX6_openOf 15 = .ok (.getfield 25, 3) := by decide +kernel
theorem dX6_openOf_18 : decode cX6_openOf 18 = .ok (.iload 4, 2) := by decide +kernel
theorem dX6_openOf_20 : decode cX6_openOf 20 = .ok (.aaload, 1) := by decide +kernel
theorem dX6_openOf_21 : decode cX6_openOf 21 = .ok (.astore 5, 2) := by decide +kernel
theorem dX6_openOf_23 : decode cX6_openOf 23 = .ok (.aload 5, 2) := by decide +kernel
theorem dX6_openOf_25 : decode cX6_openOf 25 = .ok (.getfield 100, 3) := by decide +kernel
theorem dX6_openOf_28 : decode cX6_openOf 28 = .ok (.iconst 1, 1) := by decide +kernel
theorem dX6_openOf_29 : decode cX6_openOf 29 = .ok (.if_icmp .ne 24, 3) := by decide +kernel
theorem dX6_openOf_32 : decode cX6_openOf 32 = .ok (.aload 5, 2) := by decide +kernel
theorem dX6_openOf_34 : decode cX6_openOf 34 = .ok (.getfield 118, 3) := by decide +kernel
theorem dX6_openOf_37 : decode cX6_openOf 37 = .ok (.iload_n 1, 1) := by decide +kernel
theorem dX6_openOf_38 : decode cX6_openOf 38 = .ok (.if_icmp .ne 15, 3) := by decide +kernel
theorem dX6_openOf_41 : decode cX6_openOf 41 = .ok (.aload 5, 2) := by decide +kernel
theorem dX6_openOf_43 : decode cX6_openOf 43 = .ok (.getfield 121, 3) := by decide +kernel
theorem dX6_openOf_46 : decode cX6_openOf 46 = .ok (.iload_n 2, 1) := by decide +kernel
theorem dX6_openOf_47 : decode cX6_openOf 47 = .ok (.if_icmp .ne 6, 3) := by decide +kernel
theorem dX6_openOf_50 : decode cX6_openOf 50 = .ok (.iinc 3 1, 3) := by decide +kernel
theorem dX6_openOf_53 : decode cX6_openOf 53 = .ok (.iinc 4 1, 3) := by decide +kernel
theorem dX6_openOf_56 : decode cX6_openOf 56 = .ok (.goto (-51), 3) := by decide +kernel
theorem dX6_openOf_59 : decode cX6_openOf 59 = .ok (.iload_n 3, 1) := by decide +kernel
theorem dX6_openOf_60 : decode cX6_openOf 60 = .ok (.ireturn, 1) := by decide +kernel
theorem dX6_raisedInWindow_0 : decode cX6_raisedInWindow 0 = .ok (.iconst 0, 1) := by decide +kernel
theorem dX6_raisedInWindow_1 : decode cX6_raisedInWindow 1 = .ok (.istore_n 2, 1) := by decide +kernel
theorem dX6_raisedInWindow_2 : decode cX6_raisedInWindow 2 = .ok (.iconst 0, 1) := by decide +kernel
theorem dX6_raisedInWindow_3 : decode cX6_raisedInWindow 3 = .ok (.istore_n 3, 1) := by decide +kernel
theorem dX6_raisedInWindow_4 : decode cX6_raisedInWindow 4 = .ok (.iload_n 3, 1) := by decide +kernel
theorem dX6_raisedInWindow_5 : decode cX6_raisedInWindow 5 = .ok (.aload_n 0, 1) := by decide +kernel
theorem dX6_raisedInWindow_6 : decode cX6_raisedInWindow 6 = .ok (.getfield 53, 3) := by decide +kernel
theorem dX6_raisedInWindow_9 : decode cX6_raisedInWindow 9 = .ok (.if_icmp .ge 54, 3) := by decide +kernel
theorem dX6_raisedInWindow_12 : decode cX6_raisedInWindow 12 = .ok (.aload_n 0, 1) := by decide +kernel
theorem dX6_raisedInWindow_13 : decode cX6_raisedInWindow 13 = .ok (.getfield 25, 3) := by decide +kernel
theorem dX6_raisedInWindow_16 : decode cX6_raisedInWindow 16 = .ok (.iload_n 3, 1) := by decide +kernel
theorem dX6_raisedInWindow_17 : decode cX6_raisedInWindow 17 = .ok (.aaload, 1) := by decide +kernel
theorem dX6_raisedInWindow_18 : decode cX6_raisedInWindow 18 = .ok (.astore 4, 2) := by decide +kernel
theorem dX6_raisedInWindow_20 : decode cX6_raisedInWindow 20 = .ok (.aload 4, 2) := by decide +kernel
theorem dX6_raisedInWindow_22 : decode cX6_raisedInWindow 22 = .ok (.getfield 118, 3) := by decide +kernel
theorem dX6_raisedInWindow_25 : decode cX6_raisedInWindow 25 = .ok (.iload_n 1, 1) := by decide +kernel
theorem dX6_raisedInWindow_26 : decode cX6_raisedInWindow 26 = .ok (.if_icmp .ne 31, 3) := by decide +kernel
theorem dX6_raisedInWindow_29 : decode cX6_raisedInWindow 29 = .ok (.aload 4, 2) := by decide +kernel
theorem dX6_raisedInWindow_31 : decode cX6_raisedInWindow 31 = .ok (.getfield 100, 3) := by decide +kernel
theorem dX6_raisedInWindow_34 : decode cX6_raisedInWindow 34 = .ok (.ifCond .eq 23, 3) := by decide +kernel
theorem dX6_raisedInWindow_37 : decode cX6_raisedInWindow 37 = .ok (.aload 4, 2) := by decide +kernel
theorem dX6_raisedInWindow_39 : decode cX6_raisedInWindow 39 = .ok (.getfield 124, 3) := by decide +kernel
theorem dX6_raisedInWindow_42 : decode cX6_raisedInWindow 42 = .ok (.aload_n 0, 1) := by decide +kernel
theorem dX6_raisedInWindow_43 : decode cX6_raisedInWindow 43 = .ok (.getfield 56, 3) := by decide +kernel
theorem dX6_raisedInWindow_46 : decode cX6_raisedInWindow 46 = .ok (.aload_n 0, 1) := by decide +kernel
theorem dX6_raisedInWindow_47 : decode cX6_raisedInWindow 47 = .ok (.getfield 65, 3) := by decide +kernel
theorem dX6_raisedInWindow_50 : decode cX6_raisedInWindow 50 = .ok (.isub, 1) := by decide +kernel
theorem dX6_raisedInWindow_51 : decode cX6_raisedInWindow 51 = .ok (.if_icmp .le 6, 3) := by decide +kernel
theorem dX6_raisedInWindow_54 : decode cX6_raisedInWindow 54 = .ok (.iinc 2 1, 3) := by decide +kernel
theorem dX6_raisedInWindow_57 : decode cX6_raisedInWindow 57 = .ok (.iinc 3 1, 3) := by decide +kernel
theorem dX6_raisedInWindow_60 : decode cX6_raisedInWindow 60 = .ok (.goto (-56), 3) := by decide +kernel
theorem dX6_raisedInWindow_63 : decode cX6_raisedInWindow 63 = .ok (.iload_n 2, 1) := by decide +kernel
theorem dX6_raisedInWindow_64 : decode cX6_raisedInWindow 64 = .ok (.ireturn, 1) := by decide +kernel
theorem dX6_openOrRefuse_0 : decode cX6_openOrRefuse 0 = .ok (.aload_n 0, 1) := by decide +kernel
theorem dX6_openOrRefuse_1 : decode cX6_openOrRefuse 1 = .ok (.aload_n 1, 1) := by decide +kernel
theorem dX6_openOrRefuse_2 : decode cX6_openOrRefuse 2 = .ok (.getfield 118, 3) := by decide +kernel
theorem dX6_openOrRefuse_5 : decode cX6_openOrRefuse 5 = .ok (.invokevirtual 125, 3) := by decide +kernel
theorem dX6_openOrRefuse_8 : decode cX6_openOrRefuse 8 = .ok (.ifCond .ne 4, 3) := by decide +kernel
theorem dX6_openOrRefuse_11 : decode cX6_openOrRefuse 11 = .ok (.return_, 1) := by decide +kernel
theorem dX6_openOrRefuse_12 : decode cX6_openOrRefuse 12 = .ok (.aload_n 0, 1) := by decide +kernel
theorem dX6_openOrRefuse_13 : decode cX6_openOrRefuse 13 = .ok (.getfield 19, 3) := by decide +kernel
theorem dX6_openOrRefuse_16 : decode cX6_openOrRefuse 16 = .ok (.aload_n 1, 1) := by decide +kernel
theorem dX6_openOrRefuse_17 : decode cX6_openOrRefuse 17 = .ok (.getfield 118, 3) := by decide +kernel
theorem dX6_openOrRefuse_20 : decode cX6_openOrRefuse 20 = .ok (.aaload, 1) := by decide +kernel
theorem dX6_openOrRefuse_21 : decode cX6_openOrRefuse 21 = .ok (.astore_n 2, 1) := by decide +kernel
theorem dX6_openOrRefuse_22 : decode cX6_openOrRefuse 22 = .ok (.aload_n 0, 1) := by decide +kernel
theorem dX6_openOrRefuse_23 : decode cX6_openOrRefuse 23 = .ok (.aload_n 1, 1) := by decide +kernel
theorem dX6_openOrRefuse_24 : decode cX6_openOrRefuse 24 = .ok (.getfield 118, 3) := by decide +kernel
theorem dX6_openOrRefuse_27 : decode cX6_openOrRefuse 27 = .ok (.invokevirtual 129, 3) := by decide +kernel
theorem dX6_openOrRefuse_30 : decode cX6_openOrRefuse 30 = .ok (.iconst 1, 1) := by decide +kernel
theorem dX6_openOrRefuse_31 : decode cX6_openOrRefuse 31 = .ok (.iadd, 1) := by decide +kernel
theorem dX6_openOrRefuse_32 : decode cX6_openOrRefuse 32 = .ok (.aload_n 2, 1) := by decide +kernel
theorem dX6_openOrRefuse_33 : decode cX6_openOrRefuse 33 = .ok (.getfield 132, 3) := by decide +kernel
theorem dX6_openOrRefuse_36 : decode cX6_openOrRefuse 36 = .ok (.if_icmp .le 36, 3) := by decide +kernel
theorem dX6_openOrRefuse_39 : decode cX6_openOrRefuse 39 = .ok (.aload_n 1, 1) := by decide +kernel
theorem dX6_openOrRefuse_40 : decode cX6_openOrRefuse 40 = .ok (.iconst 3, 1) := by decide +kernel
theorem dX6_openOrRefuse_41 : decode cX6_openOrRefuse 41 = .ok (.putfield 100, 3) := by decide +kernel
theorem dX6_openOrRefuse_44 : decode cX6_openOrRefuse 44 = .ok (.aload_n 1, 1) := by decide +kernel
theorem dX6_openOrRefuse_45 : decode cX6_openOrRefuse 45 = .ok (.aload_n 0, 1) := by decide +kernel
theorem dX6_openOrRefuse_46 : decode cX6_openOrRefuse 46 = .ok (.getfield 56, 3) := by decide +kernel
theorem dX6_openOrRefuse_49 : decode cX6_openOrRefuse 49 = .ok (.putfield 135, 3) := by decide +kernel
theorem dX6_openOrRefuse_52 : decode cX6_openOrRefuse 52 = .ok (.aload_n 0, 1) := by decide +kernel
theorem dX6_openOrRefuse_53 : decode cX6_openOrRefuse 53 = .ok (.dup, 1) := by decide +kernel
theorem dX6_openOrRefuse_54 : decode cX6_openOrRefuse 54 = .ok (.getfield 59, 3) := by decide +kernel
theorem dX6_openOrRefuse_57 : decode cX6_openOrRefuse 57 = .ok (.aload_n 2, 1) := by decide +kernel
theorem dX6_openOrRefuse_58 : decode cX6_openOrRefuse 58 = .ok (.aload_n 0, 1) := by decide +kernel
theorem dX6_openOrRefuse_59 : decode cX6_openOrRefuse 59 = .ok (.getfield 68, 3) := by decide +kernel
theorem dX6_openOrRefuse_62 : decode cX6_openOrRefuse 62 = .ok (.invokevirtual 138, 3) := by decide +kernel
theorem dX6_openOrRefuse_65 : decode cX6_openOrRefuse 65 = .ok (.iadd, 1) := by decide +kernel
theorem dX6_openOrRefuse_66 : decode cX6_openOrRefuse 66 = .ok (.putfield 59, 3) := by decide +kernel
theorem dX6_openOrRefuse_69 : decode cX6_openOrRefuse 69 = .ok (.goto 21, 3) := by decide +kernel
theorem dX6_openOrRefuse_72 : decode cX6_openOrRefuse 72 = .ok (.aload_n 1, 1) := by decide +kernel
theorem dX6_openOrRefuse_73 : decode cX6_openOrRefuse 73 = .ok (.iconst 1, 1) := by decide +kernel
theorem dX6_openOrRefuse_74 : decode cX6_openOrRefuse 74 = .ok (.putfield 100, 3) := by decide +kernel
theorem dX6_openOrRefuse_77 : decode cX6_openOrRefuse 77 = .ok (.aload_n 1, 1) := by decide +kernel
theorem dX6_openOrRefuse_78 : decode cX6_openOrRefuse 78 = .ok (.aload_n 1, 1) := by decide +kernel
theorem dX6_openOrRefuse_79 : decode cX6_openOrRefuse 79 = .ok (.getfield 141, 3) := by decide +kernel
theorem dX6_openOrRefuse_82 : decode cX6_openOrRefuse 82 = .ok (.putfield 144, 3) := by decide +kernel
theorem dX6_openOrRefuse_85 : decode cX6_openOrRefuse 85 = .ok (.aload_n 0, 1) := by decide +kernel
theorem dX6_openOrRefuse_86 : decode cX6_openOrRefuse 86 = .ok (.aload_n 1, 1) := by decide +kernel
theorem dX6_openOrRefuse_87 : decode cX6_openOrRefuse 87 = .ok (.invokevirtual 147, 3) := by decide +kernel
theorem dX6_openOrRefuse_90 : decode cX6_openOrRefuse 90 = .ok (.return_, 1) := by decide +kernel
theorem dX6_assign_0 : decode cX6_assign 0 = .ok (.aload_n 0, 1) := by decide +kernel
theorem dX6_assign_1 : decode cX6_assign 1 = .ok (.aload_n 1, 1) := by decide +kernel
theorem dX6_assign_2 : decode cX6_assign 2 = .ok (.getfield 118, 3) := by decide +kernel
theorem dX6_assign_5 : decode cX6_assign 5 = .ok (.invokevirtual 125, 3) := by decide +kernel
theorem dX6_assign_8 : decode cX6_assign 8 = .ok (.ifCond .ne 4, 3) := by decide +kernel
theorem dX6_assign_11 : decode cX6_assign 11 = .ok (.return_, 1) := by decide +kernel
theorem dX6_assign_12 : decode cX6_assign 12 = .ok (.aload_n 0, 1) := by decide +kernel
theorem dX6_assign_13 : decode cX6_assign 13 = .ok (.getfield 19, 3) := by decide +kernel
theorem dX6_assign_16 : decode cX6_assign 16 = .ok (.aload_n 1, 1) := by decide +kernel
theorem dX6_assign_17 : decode cX6_assign 17 = .ok (.getfield 118, 3) := by decide +kernel
theorem dX6_assign_20 : decode cX6_assign 20 = .ok (.aaload, 1) := by decide +kernel
theorem dX6_assign_21 : decode cX6_assign 21 = .ok (.astore_n 2, 1) := by decide +kernel
theorem dX6_assign_22 : decode cX6_assign 22 = .ok (.iconst (-1), 1) := by decide +kernel
theorem dX6_assign_23 : decode cX6_assign 23 = .ok (.istore_n 3, 1) := by decide +kernel
theorem dX6_assign_24 : decode cX6_assign 24 = .ok (.iconst 0, 1) := by decide +kernel
theorem dX6_assign_25 : decode cX6_assign 25 = .ok (.istore 4, 2) := by decide +kernel
theorem dX6_assign_27 : decode cX6_assign 27 = .ok (.iload 4, 2) := by decide +kernel
theorem dX6_assign_29 : decode cX6_assign 29 = .ok (.aload_n 2, 1) := by decide +kernel
theorem dX6_assign_30 : decode cX6_assign 30 = .ok (.getfield 150, 3) := by decide +kernel
theorem dX6_assign_33 : decode cX6_assign 33 = .ok (.if_icmp .ge 56, 3) := by decide +kernel
theorem dX6_assign_36 : decode cX6_assign 36 = .ok (.aload_n 2, 1) := by decide +kernel
theorem dX6_assign_37 : decode cX6_assign 37 = .ok (.getfield 153, 3) := by decide +kernel
theorem dX6_assign_40 : decode cX6_assign 40 = .ok (.iload 4, 2) := by decide +kernel
theorem dX6_assign_42 : decode cX6_assign 42 = .ok (.iaload, 1) := by decide +kernel
theorem dX6_assign_43 : decode cX6_assign 43 = .ok (.istore 5, 2) := by decide +kernel
theorem dX6_assign_45 : decode cX6_assign 45 = .ok (.aload_n 0, 1) := by decide +kernel
theorem dX6_assign_46 : decode cX6_assign 46 = .ok (.iload 5, 2) := by decide +kernel
theorem dX6_assign_48 : decode cX6_assign 48 = .ok (.invokevirtual 156, 3) := by decide +kernel
theorem dX6_assign_51 : decode cX6_assign 51 = .ok (.ifCond .eq 32, 3) := by decide +kernel
theorem dX6_assign_54 : decode cX6_assign 54 = .ok (.iload_n 3, 1) := by decide +kernel
theorem dX6_assign_55 : decode cX6_assign 55 = .ok (.ifCond .lt 25, 3) := by decide +kernel
theorem dX6_assign_58 : decode cX6_assign 58 = .ok (.aload_n 0, 1) := by decide +kernel
theorem dX6_assign_59 : decode cX6_assign 59 = .ok (.getfield 11, 3) := by decide +kernel
theorem dX6_assign_62 : decode cX6_assign 62 = .ok (.iload 5, 2) := by decide +kernel
theorem dX6_assign_64 : decode cX6_assign 64 = .ok (.aaload, 1) := by decide +kernel
theorem dX6_assign_65 : decode cX6_assign 65 = .ok (.getfield 159, 3) := by decide +kernel
theorem dX6_assign_68 : decode cX6_assign 68 = .ok (.aload_n 0, 1) := by decide +kernel
theorem dX6_assign_69 : decode cX6_assign 69 = .ok (.getfield 11, 3) := by decide +kernel
theorem dX6_assign_72 : decode cX6_assign 72 = .ok (.iload_n 3, 1) := by decide +kernel
theorem dX6_assign_73 : decode cX6_assign 73 = .ok (.aaload, 1) := by decide +kernel
theorem dX6_assign_74 : decode cX6_assign 74 = .ok (.getfield 159, 3) := by decide +kernel
theorem dX6_assign_77 : decode cX6_assign 77 = .ok (.if_icmp .ge 6, 3) := by decide +kernel
theorem dX6_assign_80 : decode cX6_assign 80 = .ok (.iload 5, 2) := by decide +kernel
theorem dX6_assign_82 : decode cX6_assign 82 = .ok (.istore_n 3, 1) := by decide +kernel
theorem dX6_assign_83 : decode cX6_assign 83 = .ok (.iinc 4 1, 3) := by decide +kernel
theorem dX6_assign_86 : decode cX6_assign 86 = .ok (.goto (-59), 3) := by decide +kernel
theorem dX6_assign_89 : decode cX6_assign 89 = .ok (.aload_n 0, 1) := by decide +kernel
theorem dX6_assign_90 : decode cX6_assign 90 = .ok (.aload_n 1, 1) := by decide +kernel
theorem dX6_assign_91 : decode cX6_assign 91 = .ok (.getfield 121, 3) := by decide +kernel
theorem dX6_assign_94 : decode cX6_assign 94 = .ok (.invokevirtual 156, 3) := by decide +kernel
theorem dX6_assign_97 : decode cX6_assign 97 = .ok (.ifCond .eq 21, 3) := by decide +kernel
theorem dX6_assign_100 : decode cX6_assign 100 = .ok (.aload_n 0, 1) := by decide +kernel
theorem dX6_assign_101 : decode cX6_assign 101 = .ok (.getfield 11, 3) := by decide +kernel
theorem dX6_assign_104 : decode cX6_assign 104 = .ok (.aload_n 1, 1) := by decide +kernel
theorem dX6_assign_105 : decode cX6_assign 105 = .ok (.getfield 121, 3) := by decide +kernel
theorem dX6_assign_108 : decode cX6_assign 108 = .ok (.aaload, 1) := by decide +kernel
theorem dX6_assign_109 : decode cX6_assign 109 = .ok (.dup, 1) := by decide +kernel
theorem dX6_assign_110 : decode cX6_assign 110 = .ok (.getfield 159, 3) := by decide +kernel
theorem dX6_assign_113 : decode cX6_assign 113 = .ok (.iconst 1, 1) := by decide +kernel
theorem dX6_assign_114 : decode cX6_assign 114 = .ok (.isub, 1) := by decide +kernel
theorem dX6_assign_115 : decode cX6_assign 115 = .ok (.putfield 159, 3) := by decide +kernel
theorem dX6_assign_118 : decode cX6_assign 118 = .ok (.iload_n 3, 1) := by decide +kernel
theorem dX6_assign_119 : decode cX6_assign 119 = .ok (.ifCond .lt 18, 3) := by decide +kernel
theorem dX6_assign_122 : decode cX6_assign 122 = .ok (.aload_n 0, 1) := by decide +kernel
theorem dX6_assign_123 : decode cX6_assign 123 = .ok (.getfield 11, 3) := by decide +kernel
theorem dX6_assign_126 : decode cX6_assign 126 = .ok (.iload_n 3, 1) := by decide +kernel
theorem dX6_assign_127 : decode cX6_assign 127 = .ok (.aaload, 1) := by decide +kernel
theorem dX6_assign_128 : decode cX6_assign 128 = .ok (.dup, 1) := by decide +kernel
theorem dX6_assign_129 : decode cX6_assign 129 = .ok (.getfield 159, 3) := by decide +kernel
theorem dX6_assign_132 : decode cX6_assign 132 = .ok (.iconst 1, 1) := by decide +kernel
theorem dX6_assign_133 : decode cX6_assign 133 = .ok (.iadd, 1) := by decide +kernel
theorem dX6_assign_134 : decode cX6_assign 134 = .ok (.putfield 159, 3) := by decide +kernel
theorem dX6_assign_137 : decode cX6_assign 137 = .ok (.aload_n 1, 1) := by decide +kernel
theorem dX6_assign_138 : decode cX6_assign 138 = .ok (.iload_n 3, 1) := by decide +kernel
theorem dX6_assign_139 : decode cX6_assign 139 = .ok (.putfield 121, 3) := by decide +kernel
theorem dX6_assign_142 : decode cX6_assign 142 = .ok (.aload_n 1, 1) := by decide +kernel
theorem dX6_assign_143 : decode cX6_assign 143 = .ok (.aload_n 0, 1) := by decide +kernel
theorem dX6_assign_144 : decode cX6_assign 144 = .ok (.getfield 56, 3) := by decide +kernel
theorem dX6_assign_147 : decode cX6_assign 147 = .ok (.putfield 162, 3) := by decide +kernel
theorem dX6_assign_150 : decode cX6_assign 150 = .ok (.return_, 1) := by decide +kernel
theorem dX6_assignThoseOf_0 : decode cX6_assignThoseOf 0 = .ok (.iconst 0, 1) := by decide +kernel
theorem dX6_assignThoseOf_1 : decode cX6_assignThoseOf 1 = .ok (.istore_n 3, 1) := by decide +kernel
theorem dX6_assignThoseOf_2 : decode cX6_assignThoseOf 2 = .ok (.iconst 0, 1) := by decide +kernel
theorem dX6_assignThoseOf_3 : decode cX6_assignThoseOf 3 = .ok (.istore 4, 2) := by decide +kernel
theorem dX6_assignThoseOf_5 : decode cX6_assignThoseOf 5 = .ok (.iload 4, 2) := by decide +kernel
theorem dX6_assignThoseOf_7 : decode cX6_assignThoseOf 7 = .ok (.aload_n 0, 1) := by decide +kernel
theorem dX6_assignThoseOf_8 : decode cX6_assignThoseOf 8 = .ok (.getfield 53, 3) := by decide +kernel
theorem dX6_assignThoseOf_11 : decode cX6_assignThoseOf 11 = .ok (.if_icmp .ge 54, 3) := by decide +kernel
theorem dX6_assignThoseOf_14 : decode cX6_assignThoseOf 14 = .ok (.aload_n 0, 1) := by decide +kernel
theorem dX6_assignThoseOf_15 : decode cX6_assignThoseOf 15 = .ok (.getfield 25, 3) := by decide +kernel
theorem dX6_assignThoseOf_18 : decode cX6_assignThoseOf 18 = .ok (.iload 4, 2) := by decide +kernel
theorem dX6_assignThoseOf_20 : decode cX6_assignThoseOf 20 = .ok (.aaload, 1) := by decide +kernel
theorem dX6_assignThoseOf_21 : decode cX6_assignThoseOf 21 = .ok (.astore 5, 2) := by decide +kernel
theorem dX6_assignThoseOf_23 : decode cX6_assignThoseOf 23 = .ok (.aload 5, 2) := by decide +kernel
theorem dX6_assignThoseOf_25 : decode cX6_assignThoseOf 25 = .ok (.getfield 100, 3) := by decide +kernel
theorem dX6_assignThoseOf_28 : decode cX6_assignThoseOf 28 = .ok (.iconst 1, 1) := by decide +kernel
theorem dX6_assignThoseOf_29 : decode cX6_assignThoseOf 29 = .ok (.if_icmp .ne 30, 3) := by decide +kernel
theorem dX6_assignThoseOf_32 : decode cX6_assignThoseOf 32 = .ok (.aload 5, 2) := by decide +kernel
theorem dX6_assignThoseOf_34 : decode cX6_assignThoseOf 34 = .ok (.getfield 118, 3) := by decide +kernel
theorem dX6_assignThoseOf_37 : decode cX6_assignThoseOf 37 = .ok (.iload_n 1, 1) := by decide +kernel
theorem dX6_assignThoseOf_38 : decode cX6_assignThoseOf 38 = .ok (.if_icmp .ne 21, 3) := by decide +kernel
theorem dX6_assignThoseOf_41 : decode cX6_assignThoseOf 41 = .ok (.aload 5, 2) := by decide +kernel
theorem dX6_assignThoseOf_43 : decode cX6_assignThoseOf 43 = .ok (.getfield 121, 3) := by decide +kernel
theorem dX6_assignThoseOf_46 : decode cX6_assignThoseOf 46 = .ok (.iload_n 2, 1) := by decide +kernel
theorem dX6_assignThoseOf_47 : decode cX6_assignThoseOf 47 = .ok (.if_icmp .ne 12, 3) := by decide +kernel
theorem dX6_assignThoseOf_50 : decode cX6_assignThoseOf 50 = .ok (.aload_n 0, 1) := by decide +kernel
theorem dX6_assignThoseOf_51 : decode cX6_assignThoseOf 51 = .ok (.aload 5, 2) := by decide +kernel
theorem dX6_assignThoseOf_53 : decode cX6_assignThoseOf 53 = .ok (.invokevirtual 147, 3) := by decide +kernel
theorem dX6_assignThoseOf_56 : decode cX6_assignThoseOf 56 = .ok (.iinc 3 1, 3) := by decide +kernel
theorem dX6_assignThoseOf_59 : decode cX6_assignThoseOf 59 = .ok (.iinc 4 1, 3) := by decide +kernel
theorem dX6_assignThoseOf_62 : decode cX6_assignThoseOf 62 = .ok (.goto (-57), 3) := by decide +kernel
theorem dX6_assignThoseOf_65 : decode cX6_assignThoseOf 65 = .ok (.iload_n 3, 1) := by decide +kernel
theorem dX6_assignThoseOf_66 : decode cX6_assignThoseOf 66 = .ok (.ireturn, 1) := by decide +kernel
theorem dX6_mayLease_0 : decode cX6_mayLease 0 = .ok (.aload_n 0, 1) := by decide +kernel
theorem dX6_mayLease_1 : decode cX6_mayLease 1 = .ok (.getfield 11, 3) := by decide +kernel
theorem dX6_mayLease_4 : decode cX6_mayLease 4 = .ok (.iload_n 1, 1) := by decide +kernel
theorem dX6_mayLease_5 : decode cX6_mayLease 5 = .ok (.aaload, 1) := by decide +kernel
theorem dX6_mayLease_6 : decode cX6_mayLease 6 = .ok (.getfield 103, 3) := by decide +kernel
theorem dX6_mayLease_9 : decode cX6_mayLease 9 = .ok (.ifCond .ne 33, 3) := by decide +kernel
theorem dX6_mayLease_12 : decode cX6_mayLease 12 = .ok (.aload_n 0, 1) := by decide +kernel
theorem dX6_mayLease_13 : decode cX6_mayLease 13 = .ok (.getfield 19, 3) := by decide +kernel
theorem dX6_mayLease_16 : decode cX6_mayLease 16 = .ok (.iload_n 2, 1) := by decide +kernel
theorem dX6_mayLease_17 : decode cX6_mayLease 17 = .ok (.aaload, 1) := by decide +kernel
theorem dX6_mayLease_18 : decode cX6_mayLease 18 = .ok (.iload_n 1, 1) := by decide +kernel
theorem dX6_mayLease_19 : decode cX6_mayLease 19 = .ok (.invokevirtual 114, 3) := by decide +kernel
theorem dX6_mayLease_22 : decode cX6_mayLease 22 = .ok (.ifCond .ge 20, 3) := by decide +kernel
theorem dX6_mayLease_25 : decode cX6_mayLease 25 = .ok (.aload_n 0, 1) := by decide +kernel
theorem dX6_mayLease_26 : decode cX6_mayLease 26 = .ok (.getfield 19, 3) := by decide +kernel
theorem dX6_mayLease_29 : decode cX6_mayLease 29 = .ok (.iload_n 2, 1) := by decide +kernel
theorem dX6_mayLease_30 : decode cX6_mayLease 30 = .ok (.aaload, 1) := by decide +kernel
theorem dX6_mayLease_31 : decode cX6_mayLease 31 = .ok (.getfield 150, 3) := by decide +kernel
theorem dX6_mayLease_34 : decode cX6_mayLease 34 = .ok (.iconst 3, 1) := by decide +kernel
theorem dX6_mayLease_35 : decode cX6_mayLease 35 = .ok (.if_icmp .ge 7, 3) := by decide +kernel
theorem dX6_mayLease_38 : decode cX6_mayLease 38 = .ok (.iconst 1, 1) := by decide +kernel
theorem dX6_mayLease_39 : decode cX6_mayLease 39 = .ok (.goto 4, 3) := by decide +kernel
theorem dX6_mayLease_42 : decode cX6_mayLease 42 = .ok (.iconst 0, 1) := by decide +kernel
theorem dX6_mayLease_43 : decode cX6_mayLease 43 = .ok (.ireturn, 1) := by decide +kernel
theorem dX6_letLease_0 : decode cX6_letLease 0 = .ok (.aload_n 0, 1) := by decide +kernel
theorem dX6_letLease_1 : decode cX6_letLease 1 = .ok (.getfield 19, 3) := by decide +kernel
theorem dX6_letLease_4 : decode cX6_letLease 4 = .ok (.iload_n 2, 1) := by decide +kernel
theorem dX6_letLease_5 : decode cX6_letLease 5 = .ok (.aaload, 1) := by decide +kernel
theorem dX6_letLease_6 : decode cX6_letLease 6 = .ok (.iload_n 1, 1) := by decide +kernel
theorem dX6_letLease_7 : decode cX6_letLease 7 = .ok (.invokevirtual 165, 3) := by decide +kernel
theorem dX6_letLease_10 : decode cX6_letLease 10 = .ok (.aload_n 0, 1) := by decide +kernel
theorem dX6_letLease_11 : decode cX6_letLease 11 = .ok (.iload_n 2, 1) := by decide +kernel
theorem dX6_letLease_12 : decode cX6_letLease 12 = .ok (.iconst (-1), 1) := by decide +kernel
theorem dX6_letLease_13 : decode cX6_letLease 13 = .ok (.invokevirtual 169, 3) := by decide +kernel
theorem dX6_letLease_16 : decode cX6_letLease 16 = .ok (.ireturn, 1) := by decide +kernel
theorem dX6_letRelease_0 : decode cX6_letRelease 0 = .ok (.aload_n 0, 1) := by decide +kernel
theorem dX6_letRelease_1 : decode cX6_letRelease 1 = .ok (.getfield 19, 3) := by decide +kernel
theorem dX6_letRelease_4 : decode cX6_letRelease 4 = .ok (.iload_n 2, 1) := by decide +kernel
theorem dX6_letRelease_5 : decode cX6_letRelease 5 = .ok (.aaload, 1) := by decide +kernel
theorem dX6_letRelease_6 : decode cX6_letRelease 6 = .ok (.iload_n 1, 1) := by decide +kernel
theorem dX6_letRelease_7 : decode cX6_letRelease 7 = .ok (.invokevirtual 173, 3) := by decide +kernel
theorem dX6_letRelease_10 : decode cX6_letRelease 10 = .ok (.aload_n 0, 1) := by decide +kernel
theorem dX6_letRelease_11 : decode cX6_letRelease 11 = .ok (.iload_n 2, 1) := by decide +kernel
theorem dX6_letRelease_12 : decode cX6_letRelease 12 = .ok (.iload_n 1, 1) := by decide +kernel
theorem dX6_letRelease_13 : decode cX6_letRelease 13 = .ok (.invokevirtual 169, 3) := by decide +kernel
theorem dX6_letRelease_16 : decode cX6_letRelease 16 = .ok (.ireturn, 1) := by decide +kernel
theorem dX6_finesWithin_0 : decode cX6_finesWithin 0 = .ok (.aload_n 0, 1) := by decide +kernel
theorem dX6_finesWithin_1 : decode cX6_finesWithin 1 = .ok (.invokevirtual 176, 3) := by decide +kernel
theorem dX6_finesWithin_4 : decode cX6_finesWithin 4 = .ok (.istore_n 2, 1) := by decide +kernel
theorem dX6_finesWithin_5 : decode cX6_finesWithin 5 = .ok (.iconst 0, 1) := by decide +kernel
theorem dX6_finesWithin_6 : decode cX6_finesWithin 6 = .ok (.istore_n 3, 1) := by decide +kernel
theorem dX6_finesWithin_7 : decode cX6_finesWithin 7 = .ok (.iload_n 3, 1) := by decide +kernel
theorem dX6_finesWithin_8 : decode cX6_finesWithin 8 = .ok (.iload_n 1, 1) := by decide +kernel
theorem dX6_finesWithin_9 : decode cX6_finesWithin 9 = .ok (.if_icmp .ge 13, 3) := by decide +kernel
theorem dX6_finesWithin_12 : decode cX6_finesWithin 12 = .ok (.aload_n 0, 1) := by decide +kernel
theorem dX6_finesWithin_13 : decode cX6_finesWithin 13 = .ok (.invokevirtual 180, 3) := by decide +kernel
theorem dX6_finesWithin_16 : decode cX6_finesWithin 16 = .ok (.iinc 3 1, 3) := by decide +kernel
theorem dX6_finesWithin_19 : decode cX6_finesWithin 19 = .ok (.goto (-12), 3) := by decide +kernel
theorem dX6_finesWithin_22 : decode cX6_finesWithin 22 = .ok (.aload_n 0, 1) := by decide +kernel
theorem dX6_finesWithin_23 : decode cX6_finesWithin 23 = .ok (.invokevirtual 176, 3) := by decide +kernel
theorem dX6_finesWithin_26 : decode cX6_finesWithin 26 = .ok (.iload_n 2, 1) := by decide +kernel
theorem dX6_finesWithin_27 : decode cX6_finesWithin 27 = .ok (.isub, 1) := by decide +kernel
theorem dX6_finesWithin_28 : decode cX6_finesWithin 28 = .ok (.ireturn, 1) := by decide +kernel
theorem dX6_passTick_0 : decode cX6_passTick 0 = .ok (.iconst 0, 1) := by decide +kernel
theorem dX6_passTick_1 : decode cX6_passTick 1 = .ok (.istore_n 1, 1) := by decide +kernel
theorem dX6_passTick_2 : decode cX6_passTick 2 = .ok (.iload_n 1, 1) := by decide +kernel
theorem dX6_passTick_3 : decode cX6_passTick 3 = .ok (.aload_n 0, 1) := by decide +kernel
theorem dX6_passTick_4 : decode cX6_passTick 4 = .ok (.getfield 53, 3) := by decide +kernel
theorem dX6_passTick_7 : decode cX6_passTick 7 = .ok (.if_icmp .ge 47, 3) := by decide +kernel
theorem dX6_passTick_10 : decode cX6_passTick 10 = .ok (.aload_n 0, 1) := by decide +kernel
theorem dX6_passTick_11 : decode cX6_passTick 11 = .ok (.getfield 25, 3) := by decide +kernel
theorem dX6_passTick_14 : decode cX6_passTick 14 = .ok (.iload_n 1, 1) := by decide +kernel
theorem dX6_passTick_15 : decode cX6_passTick 15 = .ok (.aaload, 1) := by decide +kernel
theorem dX6_passTick_16 : decode cX6_passTick 16 = .ok (.getfield 100, 3) := by decide +kernel
theorem dX6_passTick_19 : decode cX6_passTick 19 = .ok (.ifCond .ne 29, 3) := by decide +kernel
theorem dX6_passTick_22 : decode cX6_passTick 22 = .ok (.aload_n 0, 1) := by decide +kernel
theorem dX6_passTick_23 : decode cX6_passTick 23 = .ok (.getfield 25, 3) := by decide +kernel
theorem dX6_passTick_26 : decode cX6_passTick 26 = .ok (.iload_n 1, 1) := by decide +kernel
theorem dX6_passTick_27 : decode cX6_passTick 27 = .ok (.aaload, 1) := by decide +kernel
theorem dX6_passTick_28 : decode cX6_passTick 28 = .ok (.getfield 124, 3) := by decide +kernel
theorem dX6_passTick_31 : decode cX6_passTick 31 = .ok (.aload_n 0, 1) := by decide +kernel
theorem dX6_passTick_32 : decode cX6_passTick 32 = .ok (.getfield 56, 3) := by decide +kernel
theorem dX6_passTick_35 : decode cX6_passTick 35 = .ok (.if_icmp .ne 13, 3) := by decide +kernel
theorem dX6_passTick_38 : decode cX6_passTick 38 = .ok (.aload_n 0, 1) := by decide +kernel
theorem dX6_passTick_39 : decode cX6_passTick 39 = .ok (.aload_n 0, 1) := by decide +kernel
theorem dX6_passTick_40 : decode cX6_passTick 40 = .ok (.getfield 25, 3) := by decide +kernel
theorem dX6_passTick_43 : decode cX6_passTick 43 = .ok (.iload_n 1, 1) := by decide +kernel
theorem dX6_passTick_44 : decode cX6_passTick 44 = .ok (.aaload, 1) := by decide +kernel
theorem dX6_passTick_45 : decode cX6_passTick 45 = .ok (.invokevirtual 183, 3) := by decide +kernel
theorem dX6_passTick_48 : decode cX6_passTick 48 = .ok (.iinc 1 1, 3) := by decide +kernel
theorem dX6_passTick_51 : decode cX6_passTick 51 = .ok (.goto (-49), 3) := by decide +kernel
theorem dX6_passTick_54 : decode cX6_passTick 54 = .ok (.iconst 0, 1) := by decide +kernel
theorem dX6_passTick_55 : decode cX6_passTick 55 = .ok (.istore_n 1, 1) := by decide +kernel
theorem dX6_passTick_56 : decode cX6_passTick 56 = .ok (.iload_n 1, 1) := by decide +kernel
theorem dX6_passTick_57 : decode cX6_passTick 57 = .ok (.aload_n 0, 1) := by decide +kernel
theorem dX6_passTick_58 : decode cX6_passTick 58 = .ok (.getfield 46, 3) := by decide +kernel
theorem dX6_passTick_61 : decode cX6_passTick 61 = .ok (.if_icmp .ge 38, 3) := by decide +kernel
theorem dX6_passTick_64 : decode cX6_passTick 64 = .ok (.aload_n 0, 1) := by decide +kernel
theorem dX6_passTick_65 : decode cX6_passTick 65 = .ok (.getfield 11, 3) := by decide +kernel
theorem dX6_passTick_68 : decode cX6_passTick 68 = .ok (.iload_n 1, 1) := by decide +kernel
theorem dX6_passTick_69 : decode cX6_passTick 69 = .ok (.aaload, 1) := by decide +kernel
theorem dX6_passTick_70 : decode cX6_passTick 70 = .ok (.getfield 103, 3) := by decide +kernel
theorem dX6_passTick_73 : decode cX6_passTick 73 = .ok (.ifCond .ne 20, 3) := by decide +kernel
theorem dX6_passTick_76 : decode cX6_passTick 76 = .ok (.aload_n 0, 1) := by decide +kernel
theorem dX6_passTick_77 : decode cX6_passTick 77 = .ok (.getfield 11, 3) := by decide +kernel
theorem dX6_passTick_80 : decode cX6_passTick 80 = .ok (.iload_n 1, 1) := by decide +kernel
theorem dX6_passTick_81 : decode cX6_passTick 81 = .ok (.aaload, 1) := by decide +kernel
theorem dX6_passTick_82 : decode cX6_passTick 82 = .ok (.getfield 159, 3) := by decide +kernel
theorem dX6_passTick_85 : decode cX6_passTick 85 = .ok (.ifCond .le 8, 3) := by decide +kernel
theorem dX6_passTick_88 : decode cX6_passTick 88 = .ok (.aload_n 0, 1) := by decide +kernel
theorem dX6_passTick_89 : decode cX6_passTick 89 = .ok (.iload_n 1, 1) := by decide +kernel
theorem dX6_passTick_90 : decode cX6_passTick 90 = .ok (.invokevirtual 186, 3) := by decide +kernel
theorem dX6_passTick_93 : decode cX6_passTick 93 = .ok (.iinc 1 1, 3) := by decide +kernel
theorem dX6_passTick_96 : decode cX6_passTick 96 = .ok (.goto (-40), 3) := by decide +kernel
theorem dX6_passTick_99 : decode cX6_passTick 99 = .ok (.iconst 0, 1) := by decide +kernel
theorem dX6_passTick_100 : decode cX6_passTick 100 = .ok (.istore_n 1, 1) := by decide +kernel
theorem dX6_passTick_101 : decode cX6_passTick 101 = .ok (.iload_n 1, 1) := by decide +kernel
theorem dX6_passTick_102 : decode cX6_passTick 102 = .ok (.aload_n 0, 1) := by decide +kernel
theorem dX6_passTick_103 : decode cX6_passTick 103 = .ok (.getfield 53, 3) := by decide +kernel
theorem dX6_passTick_106 : decode cX6_passTick 106 = .ok (.if_icmp .ge 52, 3) := by decide +kernel
theorem dX6_passTick_109 : decode cX6_passTick 109 = .ok (.aload_n 0, 1) := by decide +kernel
theorem dX6_passTick_110 : decode cX6_passTick 110 = .ok (.getfield 25, 3) := by decide +kernel
theorem dX6_passTick_113 : decode cX6_passTick 113 = .ok (.iload_n 1, 1) := by decide +kernel
theorem dX6_passTick_114 : decode cX6_passTick 114 = .ok (.aaload, 1) := by decide +kernel
theorem dX6_passTick_115 : decode cX6_passTick 115 = .ok (.astore_n 2, 1) := by decide +kernel
theorem dX6_passTick_116 : decode cX6_passTick 116 = .ok (.aload_n 2, 1) := by decide +kernel
theorem dX6_passTick_117 : decode cX6_passTick 117 = .ok (.getfield 100, 3) := by decide +kernel
theorem dX6_passTick_120 : decode cX6_passTick 120 = .ok (.iconst 1, 1) := by decide +kernel
theorem dX6_passTick_121 : decode cX6_passTick 121 = .ok (.if_icmp .ne 31, 3) := by decide +kernel
theorem dX6_passTick_124 : decode cX6_passTick 124 = .ok (.aload_n 2, 1) := by decide +kernel
theorem dX6_passTick_125 : decode cX6_passTick 125 = .ok (.getfield 121, 3) := by decide +kernel
theorem dX6_passTick_128 : decode cX6_passTick 128 = .ok (.ifCond .lt 24, 3) := by decide +kernel
theorem dX6_passTick_131 : decode cX6_passTick 131 = .ok (.aload_n 0, 1) := by decide +kernel
theorem dX6_passTick_132 : decode cX6_passTick 132 = .ok (.getfield 56, 3) := by decide +kernel
theorem dX6_passTick_135 : decode cX6_passTick 135 = .ok (.aload_n 2, 1) := by decide +kernel
theorem dX6_passTick_136 : decode cX6_passTick 136 = .ok (.getfield 162, 3) := by decide +kernel
theorem dX6_passTick_139 : decode cX6_passTick 139 = .ok (.isub, 1) := by decide +kernel
theorem dX6_passTick_140 : decode cX6_passTick 140 = .ok (.aload_n 0, 1) := by decide +kernel
theorem dX6_passTick_141 : decode cX6_passTick 141 = .ok (.getfield 62, 3) := by decide +kernel
theorem dX6_passTick_144 : decode cX6_passTick 144 = .ok (.if_icmp .lt 8, 3) := by decide +kernel
theorem dX6_passTick_147 : decode cX6_passTick 147 = .ok (.aload_n 0, 1) := by decide +kernel
theorem dX6_passTick_148 : decode cX6_passTick 148 = .ok (.aload_n 2, 1) := by decide +kernel
theorem dX6_passTick_149 : decode cX6_passTick 149 = .ok (.invokevirtual 189, 3) := by decide +kernel
theorem dX6_passTick_152 : decode cX6_passTick 152 = .ok (.iinc 1 1, 3) := by decide +kernel
theorem dX6_passTick_155 : decode cX6_passTick 155 = .ok (.goto (-54), 3) := by decide +kernel
theorem dX6_passTick_158 : decode cX6_passTick 158 = .ok (.aload_n 0, 1) := by decide +kernel
theorem dX6_passTick_159 : decode cX6_passTick 159 = .ok (.getfield 71, 3) := by decide +kernel
theorem dX6_passTick_162 : decode cX6_passTick 162 = .ok (.ifCond .le 43, 3) := by decide +kernel
theorem dX6_passTick_165 : decode cX6_passTick 165 = .ok (.aload_n 0, 1) := by decide +kernel
theorem dX6_passTick_166 : decode cX6_passTick 166 = .ok (.getfield 56, 3) := by decide +kernel
theorem dX6_passTick_169 : decode cX6_passTick 169 = .ok (.iconst 1, 1) := by decide +kernel
theorem dX6_passTick_170 : decode cX6_passTick 170 = .ok (.iadd, 1) := by decide +kernel
theorem dX6_passTick_171 : decode cX6_passTick 171 = .ok (.aload_n 0, 1) := by decide +kernel
theorem dX6_passTick_172 : decode cX6_passTick 172 = .ok (.getfield 71, 3) := by decide +kernel
theorem dX6_passTick_175 : decode cX6_passTick 175 = .ok (.irem, 1) := by decide +kernel
theorem dX6_passTick_176 : decode cX6_passTick 176 = .ok (.ifCond .ne 29, 3) := by decide +kernel
theorem dX6_passTick_179 : decode cX6_passTick 179 = .ok (.iconst 0, 1) := by decide +kernel
theorem dX6_passTick_180 : decode cX6_passTick 180 = .ok (.istore_n 1, 1) := by decide +kernel
theorem dX6_passTick_181 : decode cX6_passTick 181 = .ok (.iload_n 1, 1) := by decide +kernel
theorem dX6_passTick_182 : decode cX6_passTick 182 = .ok (.aload_n 0, 1) := by decide +kernel
theorem dX6_passTick_183 : decode cX6_passTick 183 = .ok (.getfield 50, 3) := by decide +kernel
theorem dX6_passTick_186 : decode cX6_passTick 186 = .ok (.if_icmp .ge 19, 3) := by decide +kernel
theorem dX6_passTick_189 : decode cX6_passTick 189 = .ok (.aload_n 0, 1) := by decide +kernel
theorem dX6_passTick_190 : decode cX6_passTick 190 = .ok (.aload_n 0, 1) := by decide +kernel
theorem dX6_passTick_191 : decode cX6_passTick 191 = .ok (.getfield 19, 3) := by decide +kernel
theorem dX6_passTick_194 : decode cX6_passTick 194 = .ok (.iload_n 1, 1) := by decide +kernel
theorem dX6_passTick_195 : decode cX6_passTick 195 = .ok (.aaload, 1) := by decide +kernel
theorem dX6_passTick_196 : decode cX6_passTick 196 = .ok (.invokevirtual 192, 3) := by decide +kernel
theorem dX6_passTick_199 : decode cX6_passTick 199 = .ok (.iinc 1 1, 3) := by decide +kernel
theorem dX6_passTick_202 : decode cX6_passTick 202 = .ok (.goto (-21), 3) := by decide +kernel
theorem dX6_passTick_205 : decode cX6_passTick 205 = .ok (.aload_n 0, 1) := by decide +kernel
theorem dX6_passTick_206 : decode cX6_passTick 206 = .ok (.dup, 1) := by decide +kernel
theorem dX6_passTick_207 : decode cX6_passTick 207 = .ok (.getfield 56, 3) := by decide +kernel
theorem dX6_passTick_210 : decode cX6_passTick 210 = .ok (.iconst 1, 1) := by decide +kernel
theorem dX6_passTick_211 : decode cX6_passTick 211 = .ok (.iadd, 1) := by decide +kernel
theorem dX6_passTick_212 : decode cX6_passTick 212 = .ok (.putfield 56, 3) := by decide +kernel
theorem dX6_passTick_215 : decode cX6_passTick 215 = .ok (.return_, 1) := by decide +kernel
theorem dX6_doWork_0 : decode cX6_doWork 0 = .ok (.aload_n 0, 1) := by decide +kernel
theorem dX6_doWork_1 : decode cX6_doWork 1 = .ok (.getfield 11, 3) := by decide +kernel
theorem dX6_doWork_4 : decode cX6_doWork 4 = .ok (.iload_n 1, 1) := by decide +kernel
theorem dX6_doWork_5 : decode cX6_doWork 5 = .ok (.aaload, 1) := by decide +kernel
theorem dX6_doWork_6 : decode cX6_doWork 6 = .ok (.getfield 195, 3) := by decide +kernel
theorem dX6_doWork_9 : decode cX6_doWork 9 = .ok (.istore_n 2, 1) := by decide +kernel
theorem dX6_doWork_10 : decode cX6_doWork 10 = .ok (.iconst 0, 1) := by decide +kernel
theorem dX6_doWork_11 : decode cX6_doWork 11 = .ok (.istore_n 3, 1) := by decide +kernel
theorem dX6_doWork_12 : decode cX6_doWork 12 = .ok (.iload_n 3, 1) := by decide +kernel
theorem dX6_doWork_13 : decode cX6_doWork 13 = .ok (.aload_n 0, 1) := by decide +kernel
theorem dX6_doWork_14 : decode cX6_doWork 14 = .ok (.getfield 53, 3) := by decide +kernel
theorem dX6_doWork_17 : decode cX6_doWork 17 = .ok (.if_icmp .ge 99, 3) := by decide +kernel
theorem dX6_doWork_20 : decode cX6_doWork 20 = .ok (.iload_n 2, 1) := by decide +kernel
theorem dX6_doWork_21 : decode cX6_doWork 21 = .ok (.ifCond .le 95, 3) := by decide +kernel
theorem dX6_doWork_24 : decode cX6_doWork 24 = .ok (.aload_n 0, 1) := by decide +kernel
theorem dX6_doWork_25 : decode cX6_doWork 25 = .ok (.getfield 25, 3) := by decide +kernel
theorem dX6_doWork_28 : decode cX6_doWork 28 = .ok (.iload_n 3, 1) := by decide +kernel
theorem dX6_doWork_29 : decode cX6_doWork 29 = .ok (.aaload, 1) := by decide +kernel
theorem dX6_doWork_30 : decode cX6_doWork 30 = .ok (.astore 4, 2) := by decide +kernel
theorem dX6_doWork_32 : decode cX6_doWork 32 = .ok (.aload 4, 2) := by decide +kernel
theorem dX6_doWork_34 : decode cX6_doWork 34 = .ok (.getfield 100, 3) := by decide +kernel
theorem dX6_doWork_37 : decode cX6_doWork 37 = .ok (.iconst 1, 1) := by decide +kernel
theorem dX6_doWork_38 : decode cX6_doWork 38 = .ok (.if_icmp .ne 72, 3) := by decide +kernel
theorem dX6_doWork_41 : decode cX6_doWork 41 = .ok (.aload 4, 2) := by decide +kernel
theorem dX6_doWork_43 : decode cX6_doWork 43 = .ok (.getfield 121, 3) := by decide +kernel
theorem dX6_doWork_46 : decode cX6_doWork 46 = .ok (.iload_n 1, 1) := by decide +kernel
theorem dX6_doWork_47 : decode cX6_doWork 47 = .ok (.if_icmp .ne 63, 3) := by decide +kernel
theorem dX6_doWork_50 : decode cX6_doWork 50 = .ok (.aload 4, 2) := by decide +kernel
theorem dX6_doWork_52 : decode cX6_doWork 52 = .ok (.getfield 144, 3) := by decide +kernel
theorem dX6_doWork_55 : decode cX6_doWork 55 = .ok (.iload_n 2, 1) := by decide +kernel
theorem dX6_doWork_56 : decode cX6_doWork 56 = .ok (.if_icmp .ge 11, 3) := by decide +kernel
theorem dX6_doWork_59 : decode cX6_doWork 59 = .ok (.aload 4, 2) := by decide +kernel
theorem dX6_doWork_61 : decode cX6_doWork 61 = .ok (.getfield 144, 3) := by decide +kernel
theorem dX6_doWork_64 : decode cX6_doWork 64 = .ok (.goto 4, 3) := by decide +kernel
theorem dX6_doWork_67 : decode cX6_doWork 67 = .ok (.iload_n 2, 1) := by decide +kernel
theorem dX6_doWork_68 : decode cX6_doWork 68 = .ok (.istore 5, 2) := by decide +kernel
theorem dX6_doWork_70 : decode cX6_doWork 70 = .ok (.iload_n 2, 1) := by decide +kernel
theorem dX6_doWork_71 : decode cX6_doWork 71 = .ok (.iload 5, 2) := by decide +kernel
theorem dX6_doWork_73 : decode cX6_doWork 73 = .ok (.isub, 1) := by decide +kernel
theorem dX6_doWork_74 : decode cX6_doWork 74 = .ok (.istore_n 2, 1) := by decide +kernel
theorem dX6_doWork_75 : decode cX6_doWork 75 = .ok (.aload 4, 2) := by decide +kernel
theorem dX6_doWork_77 : decode cX6_doWork 77 = .ok (.dup, 1) := by decide +kernel
theorem dX6_doWork_78 : decode cX6_doWork 78 = .ok (.getfield 144, 3) := by decide +kernel
theorem dX6_doWork_81 : decode cX6_doWork 81 = .ok (.iload 5, 2) := by decide +kernel
theorem dX6_doWork_83 : decode cX6_doWork 83 = .ok (.isub, 1) := by decide +kernel
theorem dX6_doWork_84 : decode cX6_doWork 84 = .ok (.putfield 144, 3) := by decide +kernel
theorem dX6_doWork_87 : decode cX6_doWork 87 = .ok (.aload 4, 2) := by decide +kernel
theorem dX6_doWork_89 : decode cX6_doWork 89 = .ok (.aload_n 0, 1) := by decide +kernel
theorem dX6_doWork_90 : decode cX6_doWork 90 = .ok (.getfield 56, 3) := by decide +kernel
theorem dX6_doWork_93 : decode cX6_doWork 93 = .ok (.putfield 162, 3) := by decide +kernel
theorem dX6_doWork_96 : decode cX6_doWork 96 = .ok (.aload 4, 2) := by decide +kernel
theorem dX6_doWork_98 : decode cX6_doWork 98 = .ok (.getfield 144, 3) := by decide +kernel
theorem dX6_doWork_101 : decode cX6_doWork 101 = .ok (.ifCond .ne 9, 3) := by decide +kernel
theorem dX6_doWork_104 : decode cX6_doWork 104 = .ok (.aload_n 0, 1) := by decide +kernel
theorem dX6_doWork_105 : decode cX6_doWork 105 = .ok (.aload 4, 2) := by decide +kernel
theorem dX6_doWork_107 : decode cX6_doWork 107 = .ok (.invokevirtual 198, 3) := by decide +kernel
theorem dX6_doWork_110 : decode cX6_doWork 110 = .ok (.iinc 3 1, 3) := by decide +kernel
theorem dX6_doWork_113 : decode cX6_doWork 113 = .ok (.goto (-101), 3) := by decide +kernel
theorem dX6_doWork_116 : decode cX6_doWork 116 = .ok (.return_, 1) := by decide +kernel
theorem dX6_answer_0 : decode cX6_answer 0 = .ok (.aload_n 0, 1) := by decide +kernel
theorem dX6_answer_1 : decode cX6_answer 1 = .ok (.aload_n 1, 1) := by decide +kernel
theorem dX6_answer_2 : decode cX6_answer 2 = .ok (.getfield 121, 3) := by decide +kernel
theorem dX6_answer_5 : decode cX6_answer 5 = .ok (.invokevirtual 156, 3) := by decide +kernel
theorem dX6_answer_8 : decode cX6_answer 8 = .ok (.ifCond .eq 14, 3) := by decide +kernel
theorem dX6_answer_11 : decode cX6_answer 11 = .ok (.aload_n 0, 1) := by decide +kernel
theorem dX6_answer_12 : decode cX6_answer 12 = .ok (.aload_n 1, 1) := by decide +kernel
theorem dX6_answer_13 : decode cX6_answer 13 = .ok (.getfield 118, 3) := by decide +kernel
theorem dX6_answer_16 : decode cX6_answer 16 = .ok (.invokevirtual 125, 3) := by decide +kernel
theorem dX6_answer_19 : decode cX6_answer 19 = .ok (.ifCond .ne 4, 3) := by decide +kernel
theorem dX6_answer_22 : decode cX6_answer 22 = .ok (.return_, 1) := by decide +kernel
theorem dX6_answer_23 : decode cX6_answer 23 = .ok (.aload_n 0, 1) := by decide +kernel
theorem dX6_answer_24 : decode cX6_answer 24 = .ok (.getfield 11, 3) := by decide +kernel
theorem dX6_answer_27 : decode cX6_answer 27 = .ok (.aload_n 1, 1) := by decide +kernel
theorem dX6_answer_28 : decode cX6_answer 28 = .ok (.getfield 121, 3) := by decide +kernel
theorem dX6_answer_31 : decode cX6_answer 31 = .ok (.aaload, 1) := by decide +kernel
theorem dX6_answer_32 : decode cX6_answer 32 = .ok (.astore_n 2, 1) := by decide +kernel
theorem dX6_answer_33 : decode cX6_answer 33 = .ok (.aload_n 2, 1) := by decide +kernel
theorem dX6_answer_34 : decode cX6_answer 34 = .ok (.dup, 1) := by decide +kernel
theorem dX6_answer_35 : decode cX6_answer 35 = .ok (.getfield 159, 3) := by decide +kernel
theorem dX6_answer_38 : decode cX6_answer 38 = .ok (.iconst 1, 1) := by decide +kernel
theorem dX6_answer_39 : decode cX6_answer 39 = .ok (.isub, 1) := by decide +kernel
theorem dX6_answer_40 : decode cX6_answer 40 = .ok (.putfield 159, 3) := by decide +kernel
theorem dX6_answer_43 : decode cX6_answer 43 = .ok (.aload_n 1, 1) := by decide +kernel
theorem dX6_answer_44 : decode cX6_answer 44 = .ok (.iconst (-1), 1) := by decide +kernel
theorem dX6_answer_45 : decode cX6_answer 45 = .ok (.putfield 121, 3) := by decide +kernel
theorem dX6_answer_48 : decode cX6_answer 48 = .ok (.aload_n 1, 1) := by decide +kernel
theorem dX6_answer_49 : decode cX6_answer 49 = .ok (.iconst 2, 1) := by decide +kernel
theorem dX6_answer_50 : decode cX6_answer 50 = .ok (.putfield 100, 3) := by decide +kernel
theorem dX6_answer_53 : decode cX6_answer 53 = .ok (.aload_n 1, 1) := by decide +kernel
theorem dX6_answer_54 : decode cX6_answer 54 = .ok (.aload_n 0, 1) := by decide +kernel
theorem dX6_answer_55 : decode cX6_answer 55 = .ok (.getfield 56, 3) := by decide +kernel
theorem dX6_answer_58 : decode cX6_answer 58 = .ok (.putfield 135, 3) := by decide +kernel
theorem dX6_answer_61 : decode cX6_answer 61 = .ok (.aload_n 0, 1) := by decide +kernel
theorem dX6_answer_62 : decode cX6_answer 62 = .ok (.getfield 19, 3) := by decide +kernel
theorem dX6_answer_65 : decode cX6_answer 65 = .ok (.aload_n 1, 1) := by decide +kernel
theorem dX6_answer_66 : decode cX6_answer 66 = .ok (.getfield 118, 3) := by decide +kernel
theorem dX6_answer_69 : decode cX6_answer 69 = .ok (.aaload, 1) := by decide +kernel
theorem dX6_answer_70 : decode cX6_answer 70 = .ok (.aload_n 0, 1) := by decide +kernel
theorem dX6_answer_71 : decode cX6_answer 71 = .ok (.getfield 74, 3) := by decide +kernel
theorem dX6_answer_74 : decode cX6_answer 74 = .ok (.aload_n 1, 1) := by decide +kernel
theorem dX6_answer_75 : decode cX6_answer 75 = .ok (.getfield 141, 3) := by decide +kernel
theorem dX6_answer_78 : decode cX6_answer 78 = .ok (.imul, 1) := by decide +kernel
theorem dX6_answer_79 : decode cX6_answer 79 = .ok (.invokevirtual 138, 3) := by decide +kernel
theorem dX6_answer_82 : decode cX6_answer 82 = .ok (.istore_n 3, 1) := by decide +kernel
theorem dX6_answer_83 : decode cX6_answer 83 = .ok (.aload_n 2, 1) := by decide +kernel
theorem dX6_answer_84 : decode cX6_answer 84 = .ok (.dup, 1) := by decide +kernel
theorem dX6_answer_85 : decode cX6_answer 85 = .ok (.getfield 107, 3) := by decide +kernel
theorem dX6_answer_88 : decode cX6_answer 88 = .ok (.iload_n 3, 1) := by decide +kernel
theorem dX6_answer_89 : decode cX6_answer 89 = .ok (.iadd, 1) := by decide +kernel
theorem dX6_answer_90 : decode cX6_answer 90 = .ok (.putfield 107, 3) := by decide +kernel
theorem dX6_answer_93 : decode cX6_answer 93 = .ok (.aload_n 2, 1) := by decide +kernel
theorem dX6_answer_94 : decode cX6_answer 94 = .ok (.dup, 1) := by decide +kernel
theorem dX6_answer_95 : decode cX6_answer 95 = .ok (.getfield 201, 3) := by decide +kernel
theorem dX6_answer_98 : decode cX6_answer 98 = .ok (.iload_n 3, 1) := by decide +kernel
theorem dX6_answer_99 : decode cX6_answer 99 = .ok (.iadd, 1) := by decide +kernel
theorem dX6_answer_100 : decode cX6_answer 100 = .ok (.putfield 201, 3) := by decide +kernel
theorem dX6_answer_103 : decode cX6_answer 103 = .ok (.return_, 1) := by decide +kernel
theorem dX6_chargeFine_0 : decode cX6_chargeFine 0 = .ok (.aload_n 0, 1) := by decide +kernel
theorem dX6_chargeFine_1 : decode cX6_chargeFine 1 = .ok (.aload_n 1, 1) := by decide +kernel
theorem dX6_chargeFine_2 : decode cX6_chargeFine 2 = .ok (.getfield 121, 3) := by decide +kernel
theorem dX6_chargeFine_5 : decode cX6_chargeFine 5 = .ok (.invokevirtual 156, 3) := by decide +kernel
theorem dX6_chargeFine_8 : decode cX6_chargeFine 8 = .ok (.ifCond .eq 14, 3) := by decide +kernel
theorem dX6_chargeFine_11 : decode cX6_chargeFine 11 = .ok (.aload_n 0, 1) := by decide +kernel
theorem dX6_chargeFine_12 : decode cX6_chargeFine 12 = .ok (.aload_n 1, 1) := by decide +kernel
theorem dX6_chargeFine_13 : decode cX6_chargeFine 13 = .ok (.getfield 118, 3) := by decide +kernel
theorem dX6_chargeFine_16 : decode cX6_chargeFine 16 = .ok (.invokevirtual 125, 3) := by decide +kernel
theorem dX6_chargeFine_19 : decode cX6_chargeFine 19 = .ok (.ifCond .ne 4, 3) := by decide +kernel
theorem dX6_chargeFine_22 : decode cX6_chargeFine 22 = .ok (.return_, 1) := by decide +kernel
theorem dX6_chargeFine_23 : decode cX6_chargeFine 23 = .ok (.aload_n 0, 1) := by decide +kernel
theorem dX6_chargeFine_24 : decode cX6_chargeFine 24 = .ok (.getfield 11, 3) := by decide +kernel
theorem dX6_chargeFine_27 : decode cX6_chargeFine 27 = .ok (.aload_n 1, 1) := by decide +kernel
theorem dX6_chargeFine_28 : decode cX6_chargeFine 28 = .ok (.getfield 121, 3) := by decide +kernel
theorem dX6_chargeFine_31 : decode cX6_chargeFine 31 = .ok (.aaload, 1) := by decide +kernel
theorem dX6_chargeFine_32 : decode cX6_chargeFine 32 = .ok (.astore_n 2, 1) := by decide +kernel
theorem dX6_chargeFine_33 : decode cX6_chargeFine 33 = .ok (.aload_n 0, 1) := by decide +kernel
theorem dX6_chargeFine_34 : decode cX6_chargeFine 34 = .ok (.getfield 32, 3) := by decide +kernel
theorem dX6_chargeFine_37 : decode cX6_chargeFine 37 = .ok (.aload_n 1, 1) := by decide +kernel
theorem dX6_chargeFine_38 : decode cX6_chargeFine 38 = .ok (.getfield 118, 3) := by decide +kernel
theorem dX6_chargeFine_41 : decode cX6_chargeFine 41 = .ok (.aload_n 1, 1) := by decide +kernel
theorem dX6_chargeFine_42 : decode cX6_chargeFine 42 = .ok (.getfield 144, 3) := by decide +kernel
theorem dX6_chargeFine_45 : decode cX6_chargeFine 45 = .ok (.aload_n 2, 1) := by decide +kernel
theorem dX6_chargeFine_46 : decode cX6_chargeFine 46 = .ok (.getfield 159, 3) := by decide +kernel
theorem dX6_chargeFine_49 : decode cX6_chargeFine 49 = .ok (.aload_n 0, 1) := by decide +kernel
theorem dX6_chargeFine_50 : decode cX6_chargeFine 50 = .ok (.getfield 56, 3) := by decide +kernel
theorem dX6_chargeFine_53 : decode cX6_chargeFine 53 = .ok (.aload_n 1, 1) := by decide +kernel
theorem dX6_chargeFine_54 : decode cX6_chargeFine 54 = .ok (.getfield 162, 3) := by decide +kernel
theorem dX6_chargeFine_57 : decode cX6_chargeFine 57 = .ok (.isub, 1) := by decide +kernel
theorem dX6_chargeFine_58 : decode cX6_chargeFine 58 = .ok (.invokevirtual 204, 3) := by decide +kernel
theorem dX6_chargeFine_61 : decode cX6_chargeFine 61 = .ok (.istore_n 3, 1) := by decide +kernel
theorem dX6_chargeFine_62 : decode cX6_chargeFine 62 = .ok (.aload_n 0, 1) := by decide +kernel
theorem dX6_chargeFine_63 : decode cX6_chargeFine 63 = .ok (.aload_n 1, 1) := by decide +kernel
theorem dX6_chargeFine_64 : decode cX6_chargeFine 64 = .ok (.getfield 121, 3) := by decide +kernel
theorem dX6_chargeFine_67 : decode cX6_chargeFine 67 = .ok (.iload_n 3, 1) := by decide +kernel
theorem dX6_chargeFine_68 : decode cX6_chargeFine 68 = .ok (.invokevirtual 208, 3) := by decide +kernel
theorem dX6_chargeFine_71 : decode cX6_chargeFine 71 = .ok (.istore 4, 2) := by decide +kernel
theorem dX6_chargeFine_73 : decode cX6_chargeFine 73 = .ok (.aload_n 2, 1) := by decide +kernel
theorem dX6_chargeFine_74 : decode cX6_chargeFine 74 = .ok (.dup, 1) := by decide +kernel
theorem dX6_chargeFine_75 : decode cX6_chargeFine 75 = .ok (.getfield 111, 3) := by decide +kernel
theorem dX6_chargeFine_78 : decode cX6_chargeFine 78 = .ok (.iload 4, 2) := by decide +kernel
theorem dX6_chargeFine_80 : decode cX6_chargeFine 80 = .ok (.iadd, 1) := by decide +kernel
theorem dX6_chargeFine_81 : decode cX6_chargeFine 81 = .ok (.putfield 111, 3) := by decide +kernel
theorem dX6_chargeFine_84 : decode cX6_chargeFine 84 = .ok (.aload_n 0, 1) := by decide +kernel
theorem dX6_chargeFine_85 : decode cX6_chargeFine 85 = .ok (.getfield 19, 3) := by decide +kernel
theorem dX6_chargeFine_88 : decode cX6_chargeFine 88 = .ok (.aload_n 1, 1) := by decide +kernel
theorem dX6_chargeFine_89 : decode cX6_chargeFine 89 = .ok (.getfield 118, 3) := by decide +kernel
theorem dX6_chargeFine_92 : decode cX6_chargeFine 92 = .ok (.aaload, 1) := by decide +kernel
theorem dX6_chargeFine_93 : decode cX6_chargeFine 93 = .ok (.dup, 1) := by decide +kernel
theorem dX6_chargeFine_94 : decode cX6_chargeFine 94 = .ok (.getfield 110, 3) := by decide +kernel
theorem dX6_chargeFine_97 : decode cX6_chargeFine 97 = .ok (.iload 4, 2) := by decide +kernel
theorem dX6_chargeFine_99 : decode cX6_chargeFine 99 = .ok (.iadd, 1) := by decide +kernel
theorem dX6_chargeFine_100 : decode cX6_chargeFine 100 = .ok (.putfield 110, 3) := by decide +kernel
theorem dX6_chargeFine_103 : decode cX6_chargeFine 103 = .ok (.aload_n 1, 1) := by decide +kernel
theorem dX6_chargeFine_104 : decode cX6_chargeFine 104 = .ok (.aload_n 0, 1) := by decide +kernel
theorem dX6_chargeFine_105 : decode cX6_chargeFine 105 = .ok (.getfield 56, 3) := by decide +kernel
theorem dX6_chargeFine_108 : decode cX6_chargeFine 108 = .ok (.putfield 162, 3) := by decide +kernel
theorem dX6_chargeFine_111 : decode cX6_chargeFine 111 = .ok (.return_, 1) := by decide +kernel
theorem dX6_chargeRent_0 : decode cX6_chargeRent 0 = .ok (.aload_n 1, 1) := by decide +kernel
theorem dX6_chargeRent_1 : decode cX6_chargeRent 1 = .ok (.getfield 150, 3) := by decide +kernel
theorem dX6_chargeRent_4 : decode cX6_chargeRent 4 = .ok (.istore_n 2, 1) := by decide +kernel
theorem dX6_chargeRent_5 : decode cX6_chargeRent 5 = .ok (.iload_n 2, 1) := by decide +kernel
theorem dX6_chargeRent_6 : decode cX6_chargeRent 6 = .ok (.ifCond .ne 4, 3) := by decide +kernel
theorem dX6_chargeRent_9 : decode cX6_chargeRent 9 = .ok (.return_, 1) := by decide +kernel
theorem dX6_chargeRent_10 : decode cX6_chargeRent 10 = .ok (.aload_n 1, 1) := by decide +kernel
theorem dX6_chargeRent_11 : decode cX6_chargeRent 11 = .ok (.getfield 211, 3) := by decide +kernel
theorem dX6_chargeRent_14 : decode cX6_chargeRent 14 = .ok (.iload_n 2, 1) := by decide +kernel
theorem dX6_chargeRent_15 : decode cX6_chargeRent 15 = .ok (.idiv, 1) := by decide +kernel
theorem dX6_chargeRent_16 : decode cX6_chargeRent 16 = .ok (.istore_n 3, 1) := by decide +kernel
theorem dX6_chargeRent_17 : decode cX6_chargeRent 17 = .ok (.aload_n 1, 1) := by decide +kernel
theorem dX6_chargeRent_18 : decode cX6_chargeRent 18 = .ok (.getfield 211, 3) := by decide +kernel
theorem dX6_chargeRent_21 : decode cX6_chargeRent 21 = .ok (.iload_n 2, 1) := by decide +kernel
theorem dX6_chargeRent_22 : decode cX6_chargeRent 22 = .ok (.irem, 1) := by decide +kernel
theorem dX6_chargeRent_23 : decode cX6_chargeRent 23 = .ok (.istore 4, 2) := by decide +kernel
theorem dX6_chargeRent_25 : decode cX6_chargeRent 25 = .ok (.iconst 0, 1) := by decide +kernel
theorem dX6_chargeRent_26 : decode cX6_chargeRent 26 = .ok (.istore 5, 2) := by decide +kernel
theorem dX6_chargeRent_28 : decode cX6_chargeRent 28 = .ok (.iload 5, 2) := by decide +kernel
theorem dX6_chargeRent_30 : decode cX6_chargeRent 30 = .ok (.iload_n 2, 1) := by decide +kernel
theorem dX6_chargeRent_31 : decode cX6_chargeRent 31 = .ok (.if_icmp .ge 23, 3) := by decide +kernel
theorem dX6_chargeRent_34 : decode cX6_chargeRent 34 = .ok (.aload_n 0, 1) := by decide +kernel
theorem dX6_chargeRent_35 : decode cX6_chargeRent 35 = .ok (.getfield 36, 3) := by decide +kernel
theorem dX6_chargeRent_38 : decode cX6_chargeRent 38 = .ok (.iload 5, 2) := by decide +kernel
theorem dX6_chargeRent_40 : decode cX6_chargeRent 40 = .ok (.aload_n 1, 1) := by decide +kernel
theorem dX6_chargeRent_41 : decode cX6_chargeRent 41 = .ok (.getfield 153, 3) := by decide +kernel
theorem dX6_chargeRent_44 : decode cX6_chargeRent 44 = .ok (.iload 5, 2) := by decide +kernel
theorem dX6_chargeRent_46 : decode cX6_chargeRent 46 = .ok (.iaload, 1) := by decide +kernel
theorem dX6_chargeRent_47 : decode cX6_chargeRent 47 = .ok (.iastore, 1) := by decide +kernel
theorem dX6_chargeRent_48 : decode cX6_chargeRent 48 = .ok (.iinc 5 1, 3) := by decide +kernel
theorem dX6_chargeRent_51 : decode cX6_chargeRent 51 = .ok (.goto (-23), 3) := by decide +kernel
theorem dX6_chargeRent_54 : decode cX6_chargeRent 54 = .ok (.iconst 0, 1) := by decide +kernel
theorem dX6_chargeRent_55 : decode cX6_chargeRent 55 = .ok (.istore 5, 2) := by decide +kernel
theorem dX6_chargeRent_57 : decode cX6_chargeRent 57 = .ok (.iload 5, 2) := by decide +kernel
theorem dX6_chargeRent_59 : decode cX6_chargeRent 59 = .ok (.iload_n 2, 1) := by decide +kernel
theorem dX6_chargeRent_60 : decode cX6_chargeRent 60 = .ok (.if_icmp .ge 86, 3) := by decide +kernel
theorem dX6_chargeRent_63 : decode cX6_chargeRent 63 = .ok (.aload_n 0, 1) := by decide +kernel
theorem dX6_chargeRent_64 : decode cX6_chargeRent 64 = .ok (.getfield 36, 3) := by decide +kernel
theorem dX6_chargeRent_67 : decode cX6_chargeRent 67 = .ok (.iload 5, 2) := by decide +kernel
theorem dX6_chargeRent_69 : decode cX6_chargeRent 69 = .ok (.iaload, 1) := by decide +kernel
theorem dX6_chargeRent_70 : decode cX6_chargeRent 70 = .ok (.istore 6, 2) := by decide +kernel
theorem dX6_chargeRent_72 : decode cX6_chargeRent 72 = .ok (.aload_n 0, 1) := by decide +kernel
theorem dX6_chargeRent_73 : decode cX6_chargeRent 73 = .ok (.iload 6, 2) := by decide +kernel
theorem dX6_chargeRent_75 : decode cX6_chargeRent 75 = .ok (.invokevirtual 156, 3) := by decide +kernel
theorem dX6_chargeRent_78 : decode cX6_chargeRent 78 = .ok (.ifCond .eq 62, 3) := by decide +kernel
theorem dX6_chargeRent_81 : decode cX6_chargeRent 81 = .ok (.aload_n 1, 1) := by decide +kernel
theorem dX6_chargeRent_82 : decode cX6_chargeRent 82 = .ok (.iload 6, 2) := by decide +kernel
theorem dX6_chargeRent_84 : decode cX6_chargeRent 84 = .ok (.invokevirtual 114, 3) := by decide +kernel
theorem dX6_chargeRent_87 : decode cX6_chargeRent 87 = .ok (.ifCond .lt 53, 3) := by decide +kernel
theorem dX6_chargeRent_90 : decode cX6_chargeRent 90 = .ok (.aload_n 0, 1) := by decide +kernel
theorem dX6_chargeRent_91 : decode cX6_chargeRent 91 = .ok (.iload 6, 2) := by decide +kernel
theorem dX6_chargeRent_93 : decode cX6_chargeRent 93 = .ok (.iload 5, 2) := by decide +kernel
theorem dX6_chargeRent_95 : decode cX6_chargeRent 95 = .ok (.iload 4, 2) := by decide +kernel
theorem dX6_chargeRent_97 : decode cX6_chargeRent 97 = .ok (.if_icmp .ge 9, 3) := by decide +kernel
theorem dX6_chargeRent_100 : decode cX6_chargeRent 100 = .ok (.iload_n 3, 1) := by decide +kernel
theorem dX6_chargeRent_101 : decode cX6_chargeRent 101 = .ok (.iconst 1, 1) := by decide +kernel
theorem dX6_chargeRent_102 : decode cX6_chargeRent 102 = .ok (.iadd, 1) := by decide +kernel
theorem dX6_chargeRent_103 : decode cX6_chargeRent 103 = .ok (.goto 4, 3) := by decide +kernel
theorem dX6_chargeRent_106 : decode cX6_chargeRent 106 = .ok (.iload_n 3, 1) := by decide +kernel
theorem dX6_chargeRent_107 : decode cX6_chargeRent 107 = .ok (.invokevirtual 208, 3) := by decide +kernel
theorem dX6_chargeRent_110 : decode cX6_chargeRent 110 = .ok (.istore 7, 2) := by decide +kernel
theorem dX6_chargeRent_112 : decode cX6_chargeRent 112 = .ok (.aload_n 0, 1) := by decide +kernel
theorem dX6_chargeRent_113 : decode cX6_chargeRent 113 = .ok (.getfield 11, 3) := by decide +kernel
theorem dX6_chargeRent_116 : decode cX6_chargeRent 116 = .ok (.iload 6, 2) := by decide +kernel
theorem dX6_chargeRent_118 : decode cX6_chargeRent 118 = .ok (.aaload, 1) := by decide +kernel
theorem dX6_chargeRent_119 : decode cX6_chargeRent 119 = .ok (.dup, 1) := by decide +kernel
theorem dX6_chargeRent_120 : decode cX6_chargeRent 120 = .ok (.getfield 214, 3) := by decide +kernel
theorem dX6_chargeRent_123 : decode cX6_chargeRent 123 = .ok (.iload 7, 2) := by decide +kernel
theorem dX6_chargeRent_125 : decode cX6_chargeRent 125 = .ok (.iadd, 1) := by decide +kernel
theorem dX6_chargeRent_126 : decode cX6_chargeRent 126 = .ok (.putfield 214, 3) := by decide +kernel
theorem dX6_chargeRent_129 : decode cX6_chargeRent 129 = .ok (.aload_n 0, 1) := by decide +kernel
theorem dX6_chargeRent_130 : decode cX6_chargeRent 130 = .ok (.dup, 1) := by decide +kernel
theorem dX6_chargeRent_131 : decode cX6_chargeRent 131 = .ok (.getfield 59, 3) := by decide +kernel
theorem dX6_chargeRent_134 : decode cX6_chargeRent 134 = .ok (.iload 7, 2) := by decide +kernel
theorem dX6_chargeRent_136 : decode cX6_chargeRent 136 = .ok (.iadd, 1) := by decide +kernel
theorem dX6_chargeRent_137 : decode cX6_chargeRent 137 = .ok (.putfield 59, 3) := by decide +kernel
theorem dX6_chargeRent_140 : decode cX6_chargeRent 140 = .ok (.iinc 5 1, 3) := by decide +kernel
theorem dX6_chargeRent_143 : decode cX6_chargeRent 143 = .ok (.goto (-86), 3) := by decide +kernel
theorem dX6_chargeRent_146 : decode cX6_chargeRent 146 = .ok (.return_, 1) := by decide +kernel
theorem dX6_takeFrom_0 : decode cX6_takeFrom 0 = .ok (.aload_n 0, 1) := by decide +kernel
theorem dX6_takeFrom_1 : decode cX6_takeFrom 1 = .ok (.getfield 11, 3) := by decide +kernel
theorem dX6_takeFrom_4 : decode cX6_takeFrom 4 = .ok (.iload_n 1, 1) := by decide +kernel
theorem dX6_takeFrom_5 : decode cX6_takeFrom 5 = .ok (.aaload, 1) := by decide +kernel
theorem dX6_takeFrom_6 : decode cX6_takeFrom 6 = .ok (.astore_n 3, 1) := by decide +kernel
theorem dX6_takeFrom_7 : decode cX6_takeFrom 7 = .ok (.iload_n 2, 1) := by decide +kernel
theorem dX6_takeFrom_8 : decode cX6_takeFrom 8 = .ok (.aload_n 3, 1) := by decide +kernel
theorem dX6_takeFrom_9 : decode cX6_takeFrom 9 = .ok (.getfield 107, 3) := by decide +kernel
theorem dX6_takeFrom_12 : decode cX6_takeFrom 12 = .ok (.if_icmp .gt 15, 3) := by decide +kernel
theorem dX6_takeFrom_15 : decode cX6_takeFrom 15 = .ok (.aload_n 3, 1) := by decide +kernel
theorem dX6_takeFrom_16 : decode cX6_takeFrom 16 = .ok (.dup, 1) := by decide +kernel
theorem dX6_takeFrom_17 : decode cX6_takeFrom 17 = .ok (.getfield 107, 3) := by decide +kernel
theorem dX6_takeFrom_20 : decode cX6_takeFrom 20 = .ok (.iload_n 2, 1) := by decide +kernel
theorem dX6_takeFrom_21 : decode cX6_takeFrom 21 = .ok (.isub, 1) := by decide +kernel
theorem dX6_takeFrom_22 : decode cX6_takeFrom 22 = .ok (.putfield 107, 3) := by decide +kernel
theorem dX6_takeFrom_25 : decode cX6_takeFrom 25 = .ok (.iload_n 2, 1) := by decide +kernel
theorem dX6_takeFrom_26 : decode cX6_takeFrom 26 = .ok (.ireturn, 1) := by decide +kernel
theorem dX6_takeFrom_27 : decode cX6_takeFrom 27 = .ok (.aload_n 3, 1) := by decide +kernel
theorem dX6_takeFrom_28 : decode cX6_takeFrom 28 = .ok (.getfield 107, 3) := by decide +kernel
theorem dX6_takeFrom_31 : decode cX6_takeFrom 31 = .ok (.istore 4, 2) := by decide +kernel
theorem dX6_takeFrom_33 : decode cX6_takeFrom 33 = .ok (.aload_n 3, 1) := by decide +kernel
theorem dX6_takeFrom_34 : decode cX6_takeFrom 34 = .ok (.iconst 0, 1) := by decide +kernel
theorem dX6_takeFrom_35 : decode cX6_takeFrom 35 = .ok (.putfield 107, 3) := by decide +kernel
theorem dX6_takeFrom_38 : decode cX6_takeFrom 38 = .ok (.aload_n 0, 1) := by decide +kernel
theorem dX6_takeFrom_39 : decode cX6_takeFrom 39 = .ok (.iload_n 1, 1) := by decide +kernel
theorem dX6_takeFrom_40 : decode cX6_takeFrom 40 = .ok (.invokevirtual 217, 3) := by decide +kernel
theorem dX6_takeFrom_43 : decode cX6_takeFrom 43 = .ok (.iload 4, 2) := by decide +kernel
theorem dX6_takeFrom_45 : decode cX6_takeFrom 45 = .ok (.ireturn, 1) := by decide +kernel
theorem dX6_goBankrupt_0 : decode cX6_goBankrupt 0 = .ok (.aload_n 0, 1) := by decide +kernel
theorem dX6_goBankrupt_1 : decode cX6_goBankrupt 1 = .ok (.getfield 11, 3) := by decide +kernel
theorem dX6_goBankrupt_4 : decode cX6_goBankrupt 4 = .ok (.iload_n 1, 1) := by decide +kernel
theorem dX6_goBankrupt_5 : decode cX6_goBankrupt 5 = .ok (.aaload, 1) := by decide +kernel
theorem dX6_goBankrupt_6 : decode cX6_goBankrupt 6 = .ok (.iconst 1, 1) := by decide +kernel
theorem dX6_goBankrupt_7 : decode cX6_goBankrupt 7 = .ok (.putfield 103, 3) := by decide +kernel
theorem dX6_goBankrupt_10 : decode cX6_goBankrupt 10 = .ok (.iconst 0, 1) := by decide +kernel
theorem dX6_goBankrupt_11 : decode cX6_goBankrupt 11 = .ok (.istore_n 2, 1) := by decide +kernel
theorem dX6_goBankrupt_12 : decode cX6_goBankrupt 12 = .ok (.iload_n 2, 1) := by decide +kernel
theorem dX6_goBankrupt_13 : decode cX6_goBankrupt 13 = .ok (.aload_n 0, 1) := by decide +kernel
theorem dX6_goBankrupt_14 : decode cX6_goBankrupt 14 = .ok (.getfield 50, 3) := by decide +kernel
theorem dX6_goBankrupt_17 : decode cX6_goBankrupt 17 = .ok (.if_icmp .ge 19, 3) := by decide +kernel
theorem dX6_goBankrupt_20 : decode cX6_goBankrupt 20 = .ok (.aload_n 0, 1) := by decide +kernel
theorem dX6_goBankrupt_21 : decode cX6_goBankrupt 21 = .ok (.getfield 19, 3) := by decide +kernel
theorem dX6_goBankrupt_24 : decode cX6_goBankrupt 24 = .ok (.iload_n 2, 1) := by decide +kernel
theorem dX6_goBankrupt_25 : decode cX6_goBankrupt 25 = .ok (.aaload, 1) := by decide +kernel
theorem dX6_goBankrupt_26 : decode cX6_goBankrupt 26 = .ok (.iload_n 1, 1) := by decide +kernel
theorem dX6_goBankrupt_27 : decode cX6_goBankrupt 27 = .ok (.invokevirtual 173, 3) := by decide +kernel
theorem dX6_goBankrupt_30 : decode cX6_goBankrupt 30 = .ok (.iinc 2 1, 3) := by decide +kernel
theorem dX6_goBankrupt_33 : decode cX6_goBankrupt 33 = .ok (.goto (-21), 3) := by decide +kernel
theorem dX6_goBankrupt_36 : decode cX6_goBankrupt 36 = .ok (.iconst 0, 1) := by decide +kernel
theorem dX6_goBankrupt_37 : decode cX6_goBankrupt 37 = .ok (.istore_n 2, 1) := by decide +kernel
theorem dX6_goBankrupt_38 : decode cX6_goBankrupt 38 = .ok (.iload_n 2, 1) := by decide +kernel
theorem dX6_goBankrupt_39 : decode cX6_goBankrupt 39 = .ok (.aload_n 0, 1) := by decide +kernel
theorem dX6_goBankrupt_40 : decode cX6_goBankrupt 40 = .ok (.getfield 53, 3) := by decide +kernel
theorem dX6_goBankrupt_43 : decode cX6_goBankrupt 43 = .ok (.if_icmp .ge 45, 3) := by decide +kernel
theorem dX6_goBankrupt_46 : decode cX6_goBankrupt 46 = .ok (.aload_n 0, 1) := by decide +kernel
theorem dX6_goBankrupt_47 : decode cX6_goBankrupt 47 = .ok (.getfield 25, 3) := by decide +kernel
theorem dX6_goBankrupt_50 : decode cX6_goBankrupt 50 = .ok (.iload_n 2, 1) := by decide +kernel
theorem dX6_goBankrupt_51 : decode cX6_goBankrupt 51 = .ok (.aaload, 1) := by decide +kernel
theorem dX6_goBankrupt_52 : decode cX6_goBankrupt 52 = .ok (.getfield 100, 3) := by decide +kernel
theorem dX6_goBankrupt_55 : decode cX6_goBankrupt 55 = .ok (.iconst 1, 1) := by decide +kernel
theorem dX6_goBankrupt_56 : decode cX6_goBankrupt 56 = .ok (.if_icmp .ne 26, 3) := by decide +kernel
theorem dX6_goBankrupt_59 : decode cX6_goBankrupt 59 = .ok (.aload_n 0, 1) := by decide +kernel
theorem dX6_goBankrupt_60 : decode cX6_goBankrupt 60 = .ok (.getfield 25, 3) := by decide +kernel
theorem dX6_goBankrupt_63 : decode cX6_goBankrupt 63 = .ok (.iload_n 2, 1) := by decide +kernel
theorem dX6_goBankrupt_64 : decode cX6_goBankrupt 64 = .ok (.aaload, 1) := by decide +kernel
theorem dX6_goBankrupt_65 : decode cX6_goBankrupt 65 = .ok (.getfield 121, 3) := by decide +kernel
theorem dX6_goBankrupt_68 : decode cX6_goBankrupt 68 = .ok (.iload_n 1, 1) := by decide +kernel
theorem dX6_goBankrupt_69 : decode cX6_goBankrupt 69 = .ok (.if_icmp .ne 13, 3) := by decide +kernel
theorem dX6_goBankrupt_72 : decode cX6_goBankrupt 72 = .ok (.aload_n 0, 1) := by decide +kernel
theorem dX6_goBankrupt_73 : decode cX6_goBankrupt 73 = .ok (.aload_n 0, 1) := by decide +kernel
theorem dX6_goBankrupt_74 : decode cX6_goBankrupt 74 = .ok (.getfield 25, 3) := by decide +kernel
theorem dX6_goBankrupt_77 : decode cX6_goBankrupt 77 = .ok (.iload_n 2, 1) := by decide +kernel
theorem dX6_goBankrupt_78 : decode cX6_goBankrupt 78 = .ok (.aaload, 1) := by decide +kernel
theorem dX6_goBankrupt_79 : decode cX6_goBankrupt 79 = .ok (.invokevirtual 147, 3) := by decide +kernel
theorem dX6_goBankrupt_82 : decode cX6_goBankrupt 82 = .ok (.iinc 2 1, 3) := by decide +kernel
theorem dX6_goBankrupt_85 : decode cX6_goBankrupt 85 = .ok (.goto (-47), 3) := by decide +kernel
theorem dX6_goBankrupt_88 : decode cX6_goBankrupt 88 = .ok (.return_, 1) := by decide +kernel
theorem dX7_init_0 : decode cX7_init 0 = .ok (.aload_n 0, 1) := by decide +kernel
theorem dX7_init_1 : decode cX7_init 1 = .ok (.invokespecial 1, 3) := by decide +kernel
theorem dX7_init_4 : decode cX7_init 4 = .ok (.aload_n 0, 1) := by decide +kernel
theorem dX7_init_5 : decode cX7_init 5 = .ok (.sipush 700, 3) := by decide +kernel
theorem dX7_init_8 : decode cX7_init 8 = .ok (.newarray .byte, 2) := by decide +kernel
theorem dX7_init_10 : decode cX7_init 10 = .ok (.putfield 9, 3) := by decide +kernel
theorem dX7_init_13 : decode cX7_init 13 = .ok (.aload_n 0, 1) := by decide +kernel
theorem dX7_init_14 : decode cX7_init 14 = .ok (.iconst 0, 1) := by decide +kernel
theorem dX7_init_15 : decode cX7_init 15 = .ok (.putfield 13, 3) := by decide +kernel
theorem dX7_init_18 : decode cX7_init 18 = .ok (.aload_n 0, 1) := by decide +kernel
theorem dX7_init_19 : decode cX7_init 19 = .ok (.iconst (-1), 1) := by decide +kernel
theorem dX7_init_20 : decode cX7_init 20 = .ok (.putfield 17, 3) := by decide +kernel
theorem dX7_init_23 : decode cX7_init 23 = .ok (.aload_n 0, 1) := by decide +kernel
theorem dX7_init_24 : decode cX7_init 24 = .ok (.new 20, 3) := by decide +kernel
theorem dX7_init_27 : decode cX7_init 27 = .ok (.dup, 1) := by decide +kernel
theorem dX7_init_28 : decode cX7_init 28 = .ok (.invokespecial 22, 3) := by decide +kernel
theorem dX7_init_31 : decode cX7_init 31 = .ok (.putfield 23, 3) := by decide +kernel
theorem dX7_init_34 : decode cX7_init 34 = .ok (.aload_n 0, 1) := by decide +kernel
theorem dX7_init_35 : decode cX7_init 35 = .ok (.new 27, 3) := by decide +kernel
theorem dX7_init_38 : decode cX7_init 38 = .ok (.dup, 1) := by decide +kernel
theorem dX7_init_39 : decode cX7_init 39 = .ok (.invokespecial 29, 3) := by decide +kernel
theorem dX7_init_42 : decode cX7_init 42 = .ok (.putfield 30, 3) := by decide +kernel
theorem dX7_init_45 : decode cX7_init 45 = .ok (.aload_n 0, 1) := by decide +kernel
theorem dX7_init_46 : decode cX7_init 46 = .ok (.new 34, 3) := by decide +kernel
theorem dX7_init_49 : decode cX7_init 49 = .ok (.dup, 1) := by decide +kernel
theorem dX7_init_50 : decode cX7_init 50 = .ok (.invokespecial 36, 3) := by decide +kernel
theorem dX7_init_53 : decode cX7_init 53 = .ok (.putfield 37, 3) := by decide +kernel
theorem dX7_init_56 : decode cX7_init 56 = .ok (.aload_n 0, 1) := by decide +kernel
theorem dX7_init_57 : decode cX7_init 57 = .ok (.new 34, 3) := by decide +kernel
theorem dX7_init_60 : decode cX7_init 60 = .ok (.dup, 1) := by decide +kernel
theorem dX7_init_61 : decode cX7_init 61 = .ok (.invokespecial 36, 3) := by decide +kernel
theorem dX7_init_64 : decode cX7_init 64 = .ok (.putfield 41, 3) := by decide +kernel
theorem dX7_init_67 : decode cX7_init 67 = .ok (.aload_n 0, 1) := by decide +kernel
theorem dX7_init_68 : decode cX7_init 68 = .ok (.bipush 8, 2) := by decide +kernel
theorem dX7_init_70 : decode cX7_init 70 = .ok (.anewarray 34, 3) := by decide +kernel
theorem dX7_init_73 : decode cX7_init 73 = .ok (.putfield 44, 3) := by decide +kernel
theorem dX7_init_76 : decode cX7_init 76 = .ok (.iconst 0, 1) := by decide +kernel
theorem dX7_init_77 : decode cX7_init 77 = .ok (.istore_n 1, 1) := by decide +kernel
theorem dX7_init_78 : decode cX7_init 78 = .ok (.iload_n 1, 1) := by decide +kernel
theorem dX7_init_79 : decode cX7_init 79 = .ok (.aload_n 0, 1) := by decide +kernel
theorem dX7_init_80 : decode cX7_init 80 = .ok (.getfield 44, 3) := by decide +kernel
theorem dX7_init_83 : decode cX7_init 83 = .ok (.arraylength, 1) := by decide +kernel
theorem dX7_init_84 : decode cX7_init 84 = .ok (.if_icmp .ge 22, 3) := by decide +kernel
theorem dX7_init_87 : decode cX7_init 87 = .ok (.aload_n 0, 1) := by decide +kernel
theorem dX7_init_88 : decode cX7_init 88 = .ok (.getfield 44, 3) := by decide +kernel
theorem dX7_init_91 : decode cX7_init 91 = .ok (.iload_n 1, 1) := by decide +kernel
theorem dX7_init_92 : decode cX7_init 92 = .ok (.new 34, 3) := by decide +kernel
theorem dX7_init_95 : decode cX7_init 95 = .ok (.dup, 1) := by decide +kernel
theorem dX7_init_96 : decode cX7_init 96 = .ok (.invokespecial 36, 3) := by decide +kernel
theorem dX7_init_99 : decode cX7_init 99 = .ok (.aastore, 1) := by decide +kernel
theorem dX7_init_100 : decode cX7_init 100 = .ok (.iinc 1 1, 3) := by decide +kernel
theorem dX7_init_103 : decode cX7_init 103 = .ok (.goto (-25), 3) := by decide +kernel
theorem dX7_init_106 : decode cX7_init 106 = .ok (.aload_n 0, 1) := by decide +kernel
theorem dX7_init_107 : decode cX7_init 107 = .ok (.iconst 0, 1) := by decide +kernel
theorem dX7_init_108 : decode cX7_init 108 = .ok (.putfield 48, 3) := by decide +kernel
theorem dX7_init_111 : decode cX7_init 111 = .ok (.aload_n 0, 1) := by decide +kernel
theorem dX7_init_112 : decode cX7_init 112 = .ok (.iconst 0, 1) := by decide +kernel
theorem dX7_init_113 : decode cX7_init 113 = .ok (.putfield 51, 3) := by decide +kernel
theorem dX7_init_116 : decode cX7_init 116 = .ok (.return_, 1) := by decide +kernel
theorem dX7_append_0 : decode cX7_append 0 = .ok (.aload_n 0, 1) := by decide +kernel
theorem dX7_append_1 : decode cX7_append 1 = .ok (.getfield 13, 3) := by decide +kernel
theorem dX7_append_4 : decode cX7_append 4 = .ok (.sipush 680, 3) := by decide +kernel
theorem dX7_append_7 : decode cX7_append 7 = .ok (.if_icmp .le 5, 3) := by decide +kernel
theorem dX7_append_10 : decode cX7_append 10 = .ok (.iconst (-1), 1) := by decide +kernel
theorem dX7_append_11 : decode cX7_append 11 = .ok (.ireturn, 1) := by decide +kernel
theorem dX7_append_12 : decode cX7_append 12 = .ok (.aload_n 0, 1) := by decide +kernel
theorem dX7_append_13 : decode cX7_append 13 = .ok (.iload_n 1, 1) := by decide +kernel
theorem dX7_append_14 : decode cX7_append 14 = .ok (.invokevirtual 54, 3) := by decide +kernel
theorem dX7_append_17 : decode cX7_append 17 = .ok (.aload_n 0, 1) := by decide +kernel
theorem dX7_append_18 : decode cX7_append 18 = .ok (.iload_n 2, 1) := by decide +kernel
theorem dX7_append_19 : decode cX7_append 19 = .ok (.invokevirtual 54, 3) := by decide +kernel
theorem dX7_append_22 : decode cX7_append 22 = .ok (.aload_n 0, 1) := by decide +kernel
theorem dX7_append_23 : decode cX7_append 23 = .ok (.iload_n 3, 1) := by decide +kernel
theorem dX7_append_24 : decode cX7_append 24 = .ok (.invokevirtual 54, 3) := by decide +kernel
theorem dX7_append_27 : decode cX7_append 27 = .ok (.aload_n 0, 1) := by decide +kernel
theorem dX7_append_28 : decode cX7_append 28 = .ok (.iload 4, 2) := by decide +kernel
theorem dX7_append_30 : decode cX7_append 30 = .ok (.invokevirtual 54, 3) := by decide +kernel
theorem dX7_append_33 : decode cX7_append 33 = .ok (.aload_n 0, 1) := by decide +kernel
theorem dX7_append_34 : decode cX7_append 34 = .ok (.iload 5, 2) := by decide +kernel
theorem dX7_append_36 : decode cX7_append 36 = .ok (.invokevirtual 54, 3) := by decide +kernel
theorem dX7_append_39 : decode cX7_append 39 = .ok (.aload_n 0, 1) := by decide +kernel
theorem dX7_append_40 : decode cX7_append 40 = .ok (.getfield 13, 3) := by decide +kernel
theorem dX7_append_43 : decode cX7_append 43 = .ok (.ireturn, 1) := by decide +kernel
theorem dX7_putBytes_0 : decode cX7_putBytes 0 = .ok (.bipush 24, 2) := by decide +kernel
theorem dX7_putBytes_2 : decode cX7_putBytes 2 = .ok (.istore_n 2, 1) := by decide +kernel
theorem dX7_putBytes_3 : decode cX7_putBytes 3 = .ok (.iload_n 2, 1) := by decide +kernel
theorem dX7_putBytes_4 : decode cX7_putBytes 4 = .ok (.ifCond .lt 44, 3) := by decide +kernel
theorem dX7_putBytes_7 : decode cX7_putBytes 7 = .ok (.aload_n 0, 1) := by decide +kernel
theorem dX7_putBytes_8 : decode cX7_putBytes 8 = .ok (.getfield 13, 3) := by decide +kernel
theorem dX7_putBytes_11 : decode cX7_putBytes 11 = .ok (.aload_n 0, 1) := by decide +kernel
theorem dX7_putBytes_12 : decode cX7_putBytes 12 = .ok (.getfield 9, 3) := by decide +kernel
theorem dX7_putBytes_15 : decode cX7_putBytes 15 = .ok (.arraylength, 1) := by decide +kernel
theorem dX7_putBytes_16 : decode cX7_putBytes 16 = .ok (.if_icmp .ge 32, 3) := by decide +kernel
theorem dX7_putBytes_19 : decode cX7_putBytes 19 = .ok (.aload_n 0, 1) := by decide +kernel
theorem dX7_putBytes_20 : decode cX7_putBytes 20 = .ok (.getfield 9, 3) := by decide +kernel
theorem dX7_putBytes_23 : decode cX7_putBytes 23 = .ok (.aload_n 0, 1) := by decide +kernel
theorem dX7_putBytes_24 : decode cX7_putBytes 24 = .ok (.getfield 13, 3) := by decide +kernel
theorem dX7_putBytes_27 : decode cX7_putBytes 27 = .ok (.iload_n 1, 1) := by decide +kernel
theorem dX7_putBytes_28 : decode cX7_putBytes 28 = .ok (.iload_n 2, 1) := by decide +kernel
theorem dX7_putBytes_29 : decode cX7_putBytes 29 = .ok (.iushr, 1) := by decide +kernel
theorem dX7_putBytes_30 : decode cX7_putBytes 30 = .ok (.i2b, 1) := by decide +kernel
theorem dX7_putBytes_31 : decode cX7_putBytes 31 = .ok (.bastore, 1) := by decide +kernel
theorem dX7_putBytes_32 : decode cX7_putBytes 32 = .ok (.aload_n 0, 1) := by decide +kernel
theorem dX7_putBytes_33 : decode cX7_putBytes 33 = .ok (.dup, 1) := by decide +kernel
theorem dX7_putBytes_34 : decode cX7_putBytes 34 = .ok (.getfield 13, 3) := by decide +kernel
theorem dX7_putBytes_37 : decode cX7_putBytes 37 = .ok (.iconst 1, 1) := by decide +kernel
theorem dX7_putBytes_38 : decode cX7_putBytes 38 = .ok (.iadd, 1) := by decide +kernel
theorem dX7_putBytes_39 : decode cX7_putBytes 39 = .ok (.putfield 13, 3) := by decide +kernel
theorem dX7_putBytes_42 : decode cX7_putBytes 42 = .ok (.iinc 2 (-8), 3) := by decide +kernel
theorem dX7_putBytes_45 : decode cX7_putBytes 45 = .ok (.goto (-42), 3) := by decide +kernel
theorem dX7_putBytes_48 : decode cX7_putBytes 48 = .ok (.return_, 1) := by decide +kernel
theorem dX7_load_0 : decode cX7_load 0 = .ok (.iload_n 1, 1) := by decide +kernel
theorem dX7_load_1 : decode cX7_load 1 = .ok (.ifCond .lt 11, 3) := by decide +kernel
theorem dX7_load_4 : decode cX7_load 4 = .ok (.iload_n 1, 1) := by decide +kernel
theorem dX7_load_5 : decode cX7_load 5 = .ok (.aload_n 0, 1) := by decide +kernel
theorem dX7_load_6 : decode cX7_load 6 = .ok (.getfield 13, 3) := by decide +kernel
theorem dX7_load_9 : decode cX7_load 9 = .ok (.if_icmp .le 13, 3) := by decide +kernel
theorem dX7_load_12 : decode cX7_load 12 = .ok (.new 58, 3) := by decide +kernel
theorem dX7_load_15 : decode cX7_load 15 = .ok (.dup, 1) := by decide +kernel
theorem dX7_load_16 : decode cX7_load 16 = .ok (.ldc 60, 2) := by decide +kernel
theorem dX7_load_18 : decode cX7_load 18 = .ok (.invokespecial 62, 3) := by decide +kernel
theorem dX7_load_21 : decode cX7_load 21 = .ok (.athrow, 1) := by decide +kernel
theorem dX7_load_22 : decode cX7_load 22 = .ok (.aload_n 0, 1) := by decide +kernel
theorem dX7_load_23 : decode cX7_load 23 = .ok (.iconst 0, 1) := by decide +kernel
theorem dX7_load_24 : decode cX7_load 24 = .ok (.putfield 13, 3) := by decide +kernel
theorem dX7_load_27 : decode cX7_load 27 = .ok (.aload_n 0, 1) := by decide +kernel
theorem dX7_load_28 : decode cX7_load 28 = .ok (.getfield 23, 3) := by decide +kernel
theorem dX7_load_31 : decode cX7_load 31 = .ok (.aload_n 0, 1) := by decide +kernel
theorem dX7_load_32 : decode cX7_load 32 = .ok (.getfield 9, 3) := by decide +kernel
theorem dX7_load_35 : decode cX7_load 35 = .ok (.iload_n 1, 1) := by decide +kernel
theorem dX7_load_36 : decode cX7_load 36 = .ok (.invokevirtual 65, 3) := by decide +kernel
theorem dX7_load_39 : decode cX7_load 39 = .ok (.aload_n 0, 1) := by decide +kernel
theorem dX7_load_40 : decode cX7_load 40 = .ok (.getfield 30, 3) := by decide +kernel
theorem dX7_load_43 : decode cX7_load 43 = .ok (.aload_n 0, 1) := by decide +kernel
theorem dX7_load_44 : decode cX7_load 44 = .ok (.getfield 23, 3) := by decide +kernel
theorem dX7_load_47 : decode cX7_load 47 = .ok (.aload_n 0, 1) := by decide +kernel
theorem dX7_load_48 : decode cX7_load 48 = .ok (.getfield 41, 3) := by decide +kernel
theorem dX7_load_51 : decode cX7_load 51 = .ok (.invokevirtual 69, 3) := by decide +kernel
theorem dX7_load_54 : decode cX7_load 54 = .ok (.ifCond .ne 22, 3) := by decide +kernel
theorem dX7_load_57 : decode cX7_load 57 = .ok (.aload_n 0, 1) := by decide +kernel
theorem dX7_load_58 : decode cX7_load 58 = .ok (.aload_n 0, 1) := by decide +kernel
theorem dX7_load_59 : decode cX7_load 59 = .ok (.getfield 30, 3) := by decide +kernel
theorem dX7_load_62 : decode cX7_load 62 = .ok (.getfield 73, 3) := by decide +kernel
theorem dX7_load_65 : decode cX7_load 65 = .ok (.putfield 17, 3) := by decide +kernel
theorem dX7_load_68 : decode cX7_load 68 = .ok (.aload_n 0, 1) := by decide +kernel
theorem dX7_load_69 : decode cX7_load 69 = .ok (.getfield 30, 3) := by decide +kernel
theorem dX7_load_72 : decode cX7_load 72 = .ok (.getfield 74, 3) := by decide +kernel
theorem dX7_load_75 : decode cX7_load 75 = .ok (.ireturn, 1) := by decide +kernel
theorem dX7_load_76 : decode cX7_load 76 = .ok (.aload_n 0, 1) := by decide +kernel
theorem dX7_load_77 : decode cX7_load 77 = .ok (.iconst (-1), 1) := by decide +kernel
theorem dX7_load_78 : decode cX7_load 78 = .ok (.putfield 17, 3) := by decide +kernel
theorem dX7_load_81 : decode cX7_load 81 = .ok (.aload_n 0, 1) := by decide +kernel
theorem dX7_load_82 : decode cX7_load 82 = .ok (.invokevirtual 77, 3) := by decide +kernel
theorem dX7_load_85 : decode cX7_load 85 = .ok (.aload_n 0, 1) := by decide +kernel
theorem dX7_load_86 : decode cX7_load 86 = .ok (.getfield 37, 3) := by decide +kernel
theorem dX7_load_89 : decode cX7_load 89 = .ok (.aload_n 0, 1) := by decide +kernel
theorem dX7_load_90 : decode cX7_load 90 = .ok (.getfield 41, 3) := by decide +kernel
theorem dX7_load_93 : decode cX7_load 93 = .ok (.invokevirtual 80, 3) := by decide +kernel
theorem dX7_load_96 : decode cX7_load 96 = .ok (.aload_n 0, 1) := by decide +kernel
theorem dX7_load_97 : decode cX7_load 97 = .ok (.getfield 37, 3) := by decide +kernel
theorem dX7_load_100 : decode cX7_load 100 = .ok (.getfield 84, 3) := by decide +kernel
theorem dX7_load_103 : decode cX7_load 103 = .ok (.ireturn, 1) := by decide +kernel
theorem dX7_errorOffset_0 : decode cX7_errorOffset 0 = .ok (.aload_n 0, 1) := by decide +kernel
theorem dX7_errorOffset_1 : decode cX7_errorOffset 1 = .ok (.getfield 17, 3) := by decide +kernel
theorem dX7_errorOffset_4 : decode cX7_errorOffset 4 = .ok (.ireturn, 1) := by decide +kernel
theorem dX7_state_0 : decode cX7_state 0 = .ok (.iload_n 1, 1) := by decide +kernel
theorem dX7_state_1 : decode cX7_state 1 = .ok (.tableswitch 138 0 9 #[55, 63, 71, 79, 87, 95, 104, 113, 122, 130], 55) := by decide +kernel
theorem dX7_state_56 : decode cX7_state 56 = .ok (.aload_n 0, 1) := by decide +kernel
theorem dX7_state_57 : decode cX7_state 57 = .ok (.getfield 37, 3) := by decide +kernel
theorem dX7_state_60 : decode cX7_state 60 = .ok (.getfield 87, 3) := by decide +kernel
theorem dX7_state_63 : decode cX7_state 63 = .ok (.ireturn, 1) := by decide +kernel
theorem dX7_state_64 : decode cX7_state 64 = .ok (.aload_n 0, 1) := by decide +kernel
theorem dX7_state_65 : decode cX7_state 65 = .ok (.getfield 37, 3) := by decide +kernel
theorem dX7_state_68 : decode cX7_state 68 = .ok (.getfield 90, 3) := by decide +kernel
theorem dX7_state_71 : decode cX7_state 71 = .ok (.ireturn, 1) := by decide +kernel
theorem dX7_state_72 : decode cX7_state 72 = .ok (.aload_n 0, 1) := by decide +kernel
theorem dX7_state_73 : decode cX7_state 73 = .ok (.getfield 37, 3) := by decide +kernel
theorem dX7_state_76 : decode cX7_state 76 = .ok (.getfield 93, 3) := by decide +kernel
theorem dX7_state_79 : decode cX7_state 79 = .ok (.ireturn, 1) := by decide +kernel
theorem dX7_state_80 : decode cX7_state 80 = .ok (.aload_n 0, 1) := by decide +kernel
theorem dX7_state_81 : decode cX7_state 81 = .ok (.getfield 37, 3) := by decide +kernel
theorem dX7_state_84 : decode cX7_state 84 = .ok (.getfield 84, 3) := by decide +kernel
theorem dX7_state_87 : decode cX7_state 87 = .ok (.ireturn, 1) := by decide +kernel
theorem dX7_state_88 : decode cX7_state 88 = .ok (.aload_n 0, 1) := by decide +kernel
theorem dX7_state_89 : decode cX7_state 89 = .ok (.getfield 37, 3) := by decide +kernel
theorem dX7_state_92 : decode cX7_state 92 = .ok (.getfield 96, 3) := by decide +kernel
theorem dX7_state_95 : decode cX7_state 95 = .ok (.ireturn, 1) := by decide +kernel
theorem dX7_state_96 : decode cX7_state 96 = .ok (.aload_n 0, 1) := by decide +kernel
theorem dX7_state_97 : decode cX7_state 97 = .ok (.getfield 37, 3) := by decide +kernel
theorem dX7_state_100 : decode cX7_state 100 = .ok (.iconst 1, 1) := by decide +kernel
theorem dX7_state_101 : decode cX7_state 101 = .ok (.invokevirtual 99, 3) := by decide +kernel
theorem dX7_state_104 : decode cX7_state 104 = .ok (.ireturn, 1) := by decide +kernel
theorem dX7_state_105 : decode cX7_state 105 = .ok (.aload_n 0, 1) := by decide +kernel
theorem dX7_state_106 : decode cX7_state 106 = .ok (.getfield 37, 3) := by decide +kernel
theorem dX7_state_109 : decode cX7_state 109 = .ok (.iconst 2, 1) := by decide +kernel
theorem dX7_state_110 : decode cX7_state 110 = .ok (.invokevirtual 99, 3) := by decide +kernel
theorem dX7_state_113 : decode cX7_state 113 = .ok (.ireturn, 1) := by decide +kernel
theorem dX7_state_114 : decode cX7_state 114 = .ok (.aload_n 0, 1) := by decide +kernel
theorem dX7_state_115 : decode cX7_state 115 = .ok (.getfield 37, 3) := by decide +kernel
theorem dX7_state_118 : decode cX7_state 118 = .ok (.iconst 3, 1) := by decide +kernel
theorem dX7_state_119 : decode cX7_state 119 = .ok (.invokevirtual 99, 3) := by decide +kernel
theorem dX7_state_122 : decode cX7_state 122 = .ok (.ireturn, 1) := by decide +kernel
theorem dX7_state_123 : decode cX7_state 123 = .ok (.aload_n 0, 1) := by decide +kernel
theorem dX7_state_124 : decode cX7_state 124 = .ok (.getfield 37, 3) := by decide +kernel
theorem dX7_state_127 : decode cX7_state 127 = .ok (.invokevirtual 103, 3) := by decide +kernel
theorem dX7_state_130 : decode cX7_state 130 = .ok (.ireturn, 1) := by decide +kernel
theorem dX7_state_131 : decode cX7_state 131 = .ok (.aload_n 0, 1) := by decide +kernel
theorem dX7_state_132 : decode cX7_state 132 = .ok (.getfield 37, 3) := by decide +kernel
theorem dX7_state_135 : decode cX7_state 135 = .ok (.invokevirtual 107, 3) := by decide +kernel
theorem dX7_state_138 : decode cX7_state 138 = .ok (.ireturn, 1) := by decide +kernel
theorem dX7_state_139 : decode cX7_state 139 = .ok (.new 58, 3) := by decide +kernel
theorem dX7_state_142 : decode cX7_state 142 = .ok (.dup, 1) := by decide +kernel
theorem dX7_state_143 : decode cX7_state 143 = .ok (.ldc 110, 2) := by decide +kernel
theorem dX7_state_145 : decode cX7_state 145 = .ok (.invokespecial 62, 3) := by decide +kernel
theorem dX7_state_148 : decode cX7_state 148 = .ok (.athrow, 1) := by decide +kernel
theorem dX7_handler_0 : decode cX7_handler 0 = .ok (.aload_n 0, 1) := by decide +kernel
theorem dX7_handler_1 : decode cX7_handler 1 = .ok (.getfield 37, 3) := by decide +kernel
theorem dX7_handler_4 : decode cX7_handler 4 = .ok (.iload_n 1, 1) := by decide +kernel
theorem dX7_handler_5 : decode cX7_handler 5 = .ok (.invokevirtual 112, 3) := by decide +kernel
theorem dX7_handler_8 : decode cX7_handler 8 = .ok (.ifCond .ne 13, 3) := by decide +kernel
theorem dX7_handler_11 : decode cX7_handler 11 = .ok (.new 116, 3) := by decide +kernel
theorem dX7_handler_14 : decode cX7_handler 14 = .ok (.dup, 1) := by decide +kernel
theorem dX7_handler_15 : decode cX7_handler 15 = .ok (.ldc 118, 2) := by decide +kernel
theorem dX7_handler_17 : decode cX7_handler 17 = .ok (.invokespecial 120, 3) := by decide +kernel
theorem dX7_handler_20 : decode cX7_handler 20 = .ok (.athrow, 1) := by decide +kernel
theorem dX7_handler_21 : decode cX7_handler 21 = .ok (.aload_n 0, 1) := by decide +kernel
theorem dX7_handler_22 : decode cX7_handler 22 = .ok (.getfield 37, 3) := by decide +kernel
theorem dX7_handler_25 : decode cX7_handler 25 = .ok (.getfield 121, 3) := by decide +kernel
theorem dX7_handler_28 : decode cX7_handler 28 = .ok (.iload_n 1, 1) := by decide +kernel
theorem dX7_handler_29 : decode cX7_handler 29 = .ok (.aaload, 1) := by decide +kernel
theorem dX7_handler_30 : decode cX7_handler 30 = .ok (.astore_n 3, 1) := by decide +kernel
theorem dX7_handler_31 : decode cX7_handler 31 = .ok (.iload_n 2, 1) := by decide +kernel
theorem dX7_handler_32 : decode cX7_handler 32 = .ok (.tableswitch 100 0 7 #[48, 53, 58, 71, 76, 85, 90, 95], 48) := by decide +kernel
theorem dX7_handler_80 : decode cX7_handler 80 = .ok (.aload_n 3, 1) := by decide +kernel
theorem dX7_handler_81 : decode cX7_handler 81 = .ok (.getfield 125, 3) := by decide +kernel
theorem dX7_handler_84 : decode cX7_handler 84 = .ok (.ireturn, 1) := by decide +kernel
theorem dX7_handler_85 : decode cX7_handler 85 = .ok (.aload_n 3, 1) := by decide +kernel
theorem dX7_handler_86 : decode cX7_handler 86 = .ok (.getfield 130, 3) := by decide +kernel
theorem dX7_handler_89 : decode cX7_handler 89 = .ok (.ireturn, 1) := by decide +kernel
theorem dX7_handler_90 : decode cX7_handler 90 = .ok (.aload_n 3, 1) := by decide +kernel
theorem dX7_handler_91 : decode cX7_handler 91 = .ok (.getfield 133, 3) := by decide +kernel
theorem dX7_handler_94 : decode cX7_handler 94 = .ok (.ifCond .eq 7, 3) := by decide +kernel
theorem dX7_handler_97 : decode cX7_handler 97 = .ok (.iconst 1, 1) := by decide +kernel
theorem dX7_handler_98 : decode cX7_handler 98 = .ok (.goto 4, 3) := by decide +kernel
theorem dX7_handler_101 : decode cX7_handler 101 = .ok (.iconst 0, 1) := by decide +kernel
theorem dX7_handler_102 : decode cX7_handler 102 = .ok (.ireturn, 1) := by decide +kernel
theorem dX7_handler_103 : decode cX7_handler 103 = .ok (.aload_n 3, 1) := by decide +kernel
theorem dX7_handler_104 : decode cX7_handler 104 = .ok (.getfield 137, 3) := by decide +kernel
theorem dX7_handler_107 : decode cX7_handler 107 = .ok (.ireturn, 1) := by decide +kernel
theorem dX7_handler_108 : decode cX7_handler 108 = .ok (.aload_n 0, 1) := by decide +kernel
theorem dX7_handler_109 : decode cX7_handler 109 = .ok (.getfield 37, 3) := by decide +kernel
theorem dX7_handler_112 : decode cX7_handler 112 = .ok (.iload_n 1, 1) := by decide +kernel
theorem dX7_handler_113 : decode cX7_handler 113 = .ok (.invokevirtual 140, 3) := by decide +kernel
theorem dX7_handler_116 : decode cX7_handler 116 = .ok (.ireturn, 1) := by decide +kernel
theorem dX7_handler_117 : decode cX7_handler 117 = .ok (.aload_n 3, 1) := by decide +kernel
theorem dX7_handler_118 : decode cX7_handler 118 = .ok (.getfield 143, 3) := by decide +kernel
theorem dX7_handler_121 : decode cX7_handler 121 = .ok (.ireturn, 1) := by decide +kernel
theorem dX7_handler_122 : decode cX7_handler 122 = .ok (.aload_n 3, 1) := by decide +kernel
theorem dX7_handler_123 : decode cX7_handler 123 = .ok (.getfield 146, 3) := by decide +kernel
theorem dX7_handler_126 : decode cX7_handler 126 = .ok (.ireturn, 1) := by decide +kernel
theorem dX7_handler_127 : decode cX7_handler 127 = .ok (.aload_n 3, 1) := by decide +kernel
theorem dX7_handler_128 : decode cX7_handler 128 = .ok (.getfield 149, 3) := by decide +kernel
theorem dX7_handler_131 : decode cX7_handler 131 = .ok (.ireturn, 1) := by decide +kernel
theorem dX7_handler_132 : decode cX7_handler 132 = .ok (.new 58, 3) := by decide +kernel
theorem dX7_handler_135 : decode cX7_handler 135 = .ok (.dup, 1) := by decide +kernel
theorem dX7_handler_136 : decode cX7_handler 136 = .ok (.ldc 152, 2) := by decide +kernel
theorem dX7_handler_138 : decode cX7_handler 138 = .ok (.invokespecial 62, 3) := by decide +kernel
theorem dX7_handler_141 : decode cX7_handler 141 = .ok (.athrow, 1) := by decide +kernel
theorem dX7_line_0 : decode cX7_line 0 = .ok (.aload_n 0, 1) := by decide +kernel
theorem dX7_line_1 : decode cX7_line 1 = .ok (.getfield 37, 3) := by decide +kernel
theorem dX7_line_4 : decode cX7_line 4 = .ok (.iload_n 1, 1) := by decide +kernel
theorem dX7_line_5 : decode cX7_line 5 = .ok (.invokevirtual 154, 3) := by decide +kernel
theorem dX7_line_8 : decode cX7_line 8 = .ok (.ifCond .ne 13, 3) := by decide +kernel
theorem dX7_line_11 : decode cX7_line 11 = .ok (.new 116, 3) := by decide +kernel
theorem dX7_line_14 : decode cX7_line 14 = .ok (.dup, 1) := by decide +kernel
theorem dX7_line_15 : decode cX7_line 15 = .ok (.ldc 157, 2) := by decide +kernel
theorem dX7_line_17 : decode cX7_line 17 = .ok (.invokespecial 120, 3) := by decide +kernel
theorem dX7_line_20 : decode cX7_line 20 = .ok (.athrow, 1) := by decide +kernel
theorem dX7_line_21 : decode cX7_line 21 = .ok (.aload_n 0, 1) := by decide +kernel
theorem dX7_line_22 : decode cX7_line 22 = .ok (.getfield 37, 3) := by decide +kernel
theorem dX7_line_25 : decode cX7_line 25 = .ok (.getfield 159, 3) := by decide +kernel
theorem dX7_line_28 : decode cX7_line 28 = .ok (.iload_n 1, 1) := by decide +kernel
theorem dX7_line_29 : decode cX7_line 29 = .ok (.aaload, 1) := by decide +kernel
theorem dX7_line_30 : decode cX7_line 30 = .ok (.astore_n 3, 1) := by decide +kernel
theorem dX7_line_31 : decode cX7_line 31 = .ok (.iload_n 2, 1) := by decide +kernel
theorem dX7_line_32 : decode cX7_line 32 = .ok (.tableswitch 66 0 4 #[36, 41, 46, 51, 56], 36) := by decide +kernel
theorem dX7_line_68 : decode cX7_line 68 = .ok (.aload_n 3, 1) := by decide +kernel
theorem dX7_line_69 : decode cX7_line 69 = .ok (.getfield 163, 3) := by decide +kernel
theorem dX7_line_72 : decode cX7_line 72 = .ok (.ireturn, 1) := by decide +kernel
theorem dX7_line_73 : decode cX7_line 73 = .ok (.aload_n 3, 1) := by decide +kernel
theorem dX7_line_74 : decode cX7_line 74 = .ok (.getfield 168, 3) := by decide +kernel
theorem dX7_line_77 : decode cX7_line 77 = .ok (.ireturn, 1) := by decide +kernel
theorem dX7_line_78 : decode cX7_line 78 = .ok (.aload_n 3, 1) := by decide +kernel
theorem dX7_line_79 : decode cX7_line 79 = .ok (.getfield 171, 3) := by decide +kernel
theorem dX7_line_82 : decode cX7_line 82 = .ok (.ireturn, 1) := by decide +kernel
theorem dX7_line_83 : decode cX7_line 83 = .ok (.aload_n 3, 1) := by decide +kernel
theorem dX7_line_84 : decode cX7_line 84 = .ok (.getfield 172, 3) := by decide +kernel
theorem dX7_line_87 : decode cX7_line 87 = .ok (.ireturn, 1) := by decide +kernel
theorem dX7_line_88 : decode cX7_line 88 = .ok (.aload_n 0, 1) := by decide +kernel
theorem dX7_line_89 : decode cX7_line 89 = .ok (.getfield 37, 3) := by decide +kernel
theorem dX7_line_92 : decode cX7_line 92 = .ok (.iload_n 1, 1) := by decide +kernel
theorem dX7_line_93 : decode cX7_line 93 = .ok (.iconst (-1), 1) := by decide +kernel
theorem dX7_line_94 : decode cX7_line 94 = .ok (.invokevirtual 175, 3) := by decide +kernel
theorem dX7_line_97 : decode cX7_line 97 = .ok (.ireturn, 1) := by decide +kernel
theorem dX7_line_98 : decode cX7_line 98 = .ok (.new 58, 3) := by decide +kernel
theorem dX7_line_101 : decode cX7_line 101 = .ok (.dup, 1) := by decide +kernel
theorem dX7_line_102 : decode cX7_line 102 = .ok (.ldc 179, 2) := by decide +kernel
theorem dX7_line_104 : decode cX7_line 104 = .ok (.invokespecial 62, 3) := by decide +kernel
theorem dX7_line_107 : decode cX7_line 107 = .ok (.athrow, 1) := by decide +kernel
theorem dX7_tenant_0 : decode cX7_tenant 0 = .ok (.aload_n 0, 1) := by decide +kernel
theorem dX7_tenant_1 : decode cX7_tenant 1 = .ok (.getfield 37, 3) := by decide +kernel
theorem dX7_tenant_4 : decode cX7_tenant 4 = .ok (.iload_n 1, 1) := by decide +kernel
theorem dX7_tenant_5 : decode cX7_tenant 5 = .ok (.invokevirtual 154, 3) := by decide +kernel
theorem dX7_tenant_8 : decode cX7_tenant 8 = .ok (.ifCond .ne 13, 3) := by decide +kernel
theorem dX7_tenant_11 : decode cX7_tenant 11 = .ok (.new 116, 3) := by decide +kernel
theorem dX7_tenant_14 : decode cX7_tenant 14 = .ok (.dup, 1) := by decide +kernel
theorem dX7_tenant_15 : decode cX7_tenant 15 = .ok (.ldc 157, 2) := by decide +kernel
theorem dX7_tenant_17 : decode cX7_tenant 17 = .ok (.invokespecial 120, 3) := by decide +kernel
theorem dX7_tenant_20 : decode cX7_tenant 20 = .ok (.athrow, 1) := by decide +kernel
theorem dX7_tenant_21 : decode cX7_tenant 21 = .ok (.aload_n 0, 1) := by decide +kernel
theorem dX7_tenant_22 : decode cX7_tenant 22 = .ok (.getfield 37, 3) := by decide +kernel
theorem dX7_tenant_25 : decode cX7_tenant 25 = .ok (.getfield 159, 3) := by decide +kernel
theorem dX7_tenant_28 : decode cX7_tenant 28 = .ok (.iload_n 1, 1) := by decide +kernel
theorem dX7_tenant_29 : decode cX7_tenant 29 = .ok (.aaload, 1) := by decide +kernel
theorem dX7_tenant_30 : decode cX7_tenant 30 = .ok (.astore_n 3, 1) := by decide +kernel
theorem dX7_tenant_31 : decode cX7_tenant 31 = .ok (.iload_n 2, 1) := by decide +kernel
theorem dX7_tenant_32 : decode cX7_tenant 32 = .ok (.ifCond .lt 11, 3) := by decide +kernel
theorem dX7_tenant_35 : decode cX7_tenant 35 = .ok (.iload_n 2, 1) := by decide +kernel
theorem dX7_tenant_36 : decode cX7_tenant 36 = .ok (.aload_n 3, 1) := by decide +kernel
theorem dX7_tenant_37 : decode cX7_tenant 37 = .ok (.getfield 172, 3) := by decide +kernel
theorem dX7_tenant_40 : decode cX7_tenant 40 = .ok (.if_icmp .lt 13, 3) := by decide +kernel
theorem dX7_tenant_43 : decode cX7_tenant 43 = .ok (.new 181, 3) := by decide +kernel
theorem dX7_tenant_46 : decode cX7_tenant 46 = .ok (.dup, 1) := by decide +kernel
theorem dX7_tenant_47 : decode cX7_tenant 47 = .ok (.ldc 183, 2) := by decide +kernel
theorem dX7_tenant_49 : decode cX7_tenant 49 = .ok (.invokespecial 185, 3) := by decide +kernel
theorem dX7_tenant_52 : decode cX7_tenant 52 = .ok (.athrow, 1) := by decide +kernel
theorem dX7_tenant_53 : decode cX7_tenant 53 = .ok (.aload_n 3, 1) := by decide +kernel
theorem dX7_tenant_54 : decode cX7_tenant 54 = .ok (.getfield 186, 3) := by decide +kernel
theorem dX7_tenant_57 : decode cX7_tenant 57 = .ok (.iload_n 2, 1) := by decide +kernel
theorem dX7_tenant_58 : decode cX7_tenant 58 = .ok (.iaload, 1) := by decide +kernel
theorem dX7_tenant_59 : decode cX7_tenant 59 = .ok (.ireturn, 1) := by decide +kernel
theorem dX7_request_0 : decode cX7_request 0 = .ok (.aload_n 0, 1) := by decide +kernel
theorem dX7_request_1 : decode cX7_request 1 = .ok (.getfield 37, 3) := by decide +kernel
theorem dX7_request_4 : decode cX7_request 4 = .ok (.iload_n 1, 1) := by decide +kernel
theorem dX7_request_5 : decode cX7_request 5 = .ok (.invokevirtual 190, 3) := by decide +kernel
theorem dX7_request_8 : decode cX7_request 8 = .ok (.ifCond .ne 13, 3) := by decide +kernel
theorem dX7_request_11 : decode cX7_request 11 = .ok (.new 116, 3) := by decide +kernel
theorem dX7_request_14 : decode cX7_request 14 = .ok (.dup, 1) := by decide +kernel
theorem dX7_request_15 : decode cX7_request 15 = .ok (.ldc 193, 2) := by decide +kernel
theorem dX7_request_17 : decode cX7_request 17 = .ok (.invokespecial 120, 3) := by decide +kernel
theorem dX7_request_20 : decode cX7_request 20 = .ok (.athrow, 1) := by decide +kernel
theorem dX7_request_21 : decode cX7_request 21 = .ok (.aload_n 0, 1) := by decide +kernel
theorem dX7_request_22 : decode cX7_request 22 = .ok (.getfield 37, 3) := by decide +kernel
theorem dX7_request_25 : decode cX7_request 25 = .ok (.getfield 195, 3) := by decide +kernel
theorem dX7_request_28 : decode cX7_request 28 = .ok (.iload_n 1, 1) := by decide +kernel
theorem dX7_request_29 : decode cX7_request 29 = .ok (.aaload, 1) := by decide +kernel
theorem dX7_request_30 : decode cX7_request 30 = .ok (.astore_n 3, 1) := by decide +kernel
theorem dX7_request_31 : decode cX7_request 31 = .ok (.iload_n 2, 1) := by decide +kernel
theorem dX7_request_32 : decode cX7_request 32 = .ok (.tableswitch 79 0 6 #[44, 49, 54, 59, 64, 69, 74], 44) := by decide +kernel
theorem dX7_request_76 : decode cX7_request 76 = .ok (.aload_n 3, 1) := by decide +kernel
theorem dX7_request_77 : decode cX7_request 77 = .ok (.getfield 199, 3) := by decide +kernel
theorem dX7_request_80 : decode cX7_request 80 = .ok (.ireturn, 1) := by decide +kernel
theorem dX7_request_81 : decode cX7_request 81 = .ok (.aload_n 3, 1) := by decide +kernel
theorem dX7_request_82 : decode cX7_request 82 = .ok (.getfield 204, 3) := by decide +kernel
theorem dX7_request_85 : decode cX7_request 85 = .ok (.ireturn, 1) := by decide +kernel
theorem dX7_request_86 : decode cX7_request 86 = .ok (.aload_n 3, 1) := by decide +kernel
theorem dX7_request_87 : decode cX7_request 87 = .ok (.getfield 205, 3) := by decide +kernel
theorem dX7_request_90 : decode cX7_request 90 = .ok (.ireturn, 1) := by decide +kernel
theorem dX7_request_91 : decode cX7_request 91 = .ok (.aload_n 3, 1) := by decide +kernel
theorem dX7_request_92 : decode cX7_request 92 = .ok (.getfield 208, 3) := by decide +kernel
theorem dX7_request_95 : decode cX7_request 95 = .ok (.ireturn, 1) := by decide +kernel
theorem dX7_request_96 : decode cX7_request 96 = .ok (.aload_n 3, 1) := by decide +kernel
theorem dX7_request_97 : decode cX7_request 97 = .ok (.getfield 211, 3) := by decide +kernel
theorem dX7_request_100 : decode cX7_request 100 = .ok (.ireturn, 1) := by decide +kernel
theorem dX7_request_101 : decode cX7_request 101 = .ok (.aload_n 3, 1) := by decide +kernel
theorem dX7_request_102 : decode cX7_request 102 = .ok (.getfield 214, 3) := by decide +kernel
theorem dX7_request_105 : decode cX7_request 105 = .ok (.ireturn, 1) := by decide +kernel
theorem dX7_request_106 : decode cX7_request 106 = .ok (.aload_n 3, 1) := by decide +kernel
theorem dX7_request_107 : decode cX7_request 107 = .ok (.getfield 217, 3) := by decide +kernel
theorem dX7_request_110 : decode cX7_request 110 = .ok (.ireturn, 1) := by decide +kernel
theorem dX7_request_111 : decode cX7_request 111 = .ok (.new 58, 3) := by decide +kernel
theorem dX7_request_114 : decode cX7_request 114 = .ok (.dup, 1) := by decide +kernel
theorem dX7_request_115 : decode cX7_request 115 = .ok (.ldc 220, 2) := by decide +kernel
theorem dX7_request_117 : decode cX7_request 117 = .ok (.invokespecial 62, 3) := by decide +kernel
theorem dX7_request_120 : decode cX7_request 120 = .ok (.athrow, 1) := by decide +kernel
theorem dX7_calm_0 : decode cX7_calm 0 = .ok (.aload_n 0, 1) := by decide +kernel
theorem dX7_calm_1 : decode cX7_calm 1 = .ok (.getfield 37, 3) := by decide +kernel
theorem dX7_calm_4 : decode cX7_calm 4 = .ok (.iload_n 1, 1) := by decide +kernel
theorem dX7_calm_5 : decode cX7_calm 5 = .ok (.invokevirtual 154, 3) := by decide +kernel
theorem dX7_calm_8 : decode cX7_calm 8 = .ok (.ifCond .ne 13, 3) := by decide +kernel
theorem dX7_calm_11 : decode cX7_calm 11 = .ok (.new 116, 3) := by decide +kernel
theorem dX7_calm_14 : decode cX7_calm 14 = .ok (.dup, 1) := by decide +kernel
theorem dX7_calm_15 : decode cX7_calm 15 = .ok (.ldc 157, 2) := by decide +kernel
theorem dX7_calm_17 : decode cX7_calm 17 = .ok (.invokespecial 120, 3) := by decide +kernel
theorem dX7_calm_20 : decode cX7_calm 20 = .ok (.athrow, 1) := by decide +kernel
theorem dX7_calm_21 : decode cX7_calm 21 = .ok (.aload_n 0, 1) := by decide +kernel
theorem dX7_calm_22 : decode cX7_calm 22 = .ok (.getfield 37, 3) := by decide +kernel
theorem dX7_calm_25 : decode cX7_calm 25 = .ok (.getfield 159, 3) := by decide +kernel
theorem dX7_calm_28 : decode cX7_calm 28 = .ok (.iload_n 1, 1) := by decide +kernel
theorem dX7_calm_29 : decode cX7_calm 29 = .ok (.aaload, 1) := by decide +kernel
theorem dX7_calm_30 : decode cX7_calm 30 = .ok (.getfield 168, 3) := by decide +kernel
theorem dX7_calm_33 : decode cX7_calm 33 = .ok (.aload_n 0, 1) := by decide +kernel
theorem dX7_calm_34 : decode cX7_calm 34 = .ok (.getfield 37, 3) := by decide +kernel
theorem dX7_calm_37 : decode cX7_calm 37 = .ok (.iload_n 1, 1) := by decide +kernel
theorem dX7_calm_38 : decode cX7_calm 38 = .ok (.invokevirtual 222, 3) := by decide +kernel
theorem dX7_calm_41 : decode cX7_calm 41 = .ok (.isub, 1) := by decide +kernel
theorem dX7_calm_42 : decode cX7_calm 42 = .ok (.istore_n 2, 1) := by decide +kernel
theorem dX7_calm_43 : decode cX7_calm 43 = .ok (.iload_n 2, 1) := by decide +kernel
theorem dX7_calm_44 : decode cX7_calm 44 = .ok (.ifCond .ge 7, 3) := by decide +kernel
theorem dX7_calm_47 : decode cX7_calm 47 = .ok (.iconst 0, 1) := by decide +kernel
theorem dX7_calm_48 : decode cX7_calm 48 = .ok (.goto 4, 3) := by decide +kernel
theorem dX7_calm_51 : decode cX7_calm 51 = .ok (.iload_n 2, 1) := by decide +kernel
theorem dX7_calm_52 : decode cX7_calm 52 = .ok (.ireturn, 1) := by decide +kernel
theorem dX7_endsAt_0 : decode cX7_endsAt 0 = .ok (.aload_n 0, 1) := by decide +kernel
theorem dX7_endsAt_1 : decode cX7_endsAt 1 = .ok (.getfield 37, 3) := by decide +kernel
theorem dX7_endsAt_4 : decode cX7_endsAt 4 = .ok (.iload_n 1, 1) := by decide +kernel
theorem dX7_endsAt_5 : decode cX7_endsAt 5 = .ok (.invokevirtual 190, 3) := by decide +kernel
theorem dX7_endsAt_8 : decode cX7_endsAt 8 = .ok (.ifCond .ne 13, 3) := by decide +kernel
theorem dX7_endsAt_11 : decode cX7_endsAt 11 = .ok (.new 116, 3) := by decide +kernel
theorem dX7_endsAt_14 : decode cX7_endsAt 14 = .ok (.dup, 1) := by decide +kernel
theorem dX7_endsAt_15 : decode cX7_endsAt 15 = .ok (.ldc 193, 2) := by decide +kernel
theorem dX7_endsAt_17 : decode cX7_endsAt 17 = .ok (.invokespecial 120, 3) := by decide +kernel
theorem dX7_endsAt_20 : decode cX7_endsAt 20 = .ok (.athrow, 1) := by decide +kernel
theorem dX7_endsAt_21 : decode cX7_endsAt 21 = .ok (.aload_n 0, 1) := by decide +kernel
theorem dX7_endsAt_22 : decode cX7_endsAt 22 = .ok (.getfield 41, 3) := by decide +kernel
theorem dX7_endsAt_25 : decode cX7_endsAt 25 = .ok (.aload_n 0, 1) := by decide +kernel
theorem dX7_endsAt_26 : decode cX7_endsAt 26 = .ok (.getfield 37, 3) := by decide +kernel
theorem dX7_endsAt_29 : decode cX7_endsAt 29 = .ok (.invokevirtual 80, 3) := by decide +kernel
theorem dX7_endsAt_32 : decode cX7_endsAt 32 = .ok (.aload_n 0, 1) := by decide +kernel
theorem dX7_endsAt_33 : decode cX7_endsAt 33 = .ok (.getfield 41, 3) := by decide +kernel
theorem dX7_endsAt_36 : decode cX7_endsAt 36 = .ok (.getfield 195, 3) := by decide +kernel
theorem dX7_endsAt_39 : decode cX7_endsAt 39 = .ok (.iload_n 1, 1) := by decide +kernel
theorem dX7_endsAt_40 : decode cX7_endsAt 40 = .ok (.aaload, 1) := by decide +kernel
theorem dX7_endsAt_41 : decode cX7_endsAt 41 = .ok (.astore_n 2, 1) := by decide +kernel
theorem dX7_endsAt_42 : decode cX7_endsAt 42 = .ok (.iconst 0, 1) := by decide +kernel
theorem dX7_endsAt_43 : decode cX7_endsAt 43 = .ok (.istore_n 3, 1) := by decide +kernel
theorem dX7_endsAt_44 : decode cX7_endsAt 44 = .ok (.iload_n 3, 1) := by decide +kernel
theorem dX7_endsAt_45 : decode cX7_endsAt 45 = .ok (.sipush 1100, 3) := by decide +kernel
theorem dX7_endsAt_48 : decode cX7_endsAt 48 = .ok (.if_icmp .ge 23, 3) := by decide +kernel
theorem dX7_endsAt_51 : decode cX7_endsAt 51 = .ok (.aload_n 2, 1) := by decide +kernel
theorem dX7_endsAt_52 : decode cX7_endsAt 52 = .ok (.getfield 217, 3) := by decide +kernel
theorem dX7_endsAt_55 : decode cX7_endsAt 55 = .ok (.ifCond .ge 16, 3) := by decide +kernel
theorem dX7_endsAt_58 : decode cX7_endsAt 58 = .ok (.aload_n 0, 1) := by decide +kernel
theorem dX7_endsAt_59 : decode cX7_endsAt 59 = .ok (.getfield 41, 3) := by decide +kernel
theorem dX7_endsAt_62 : decode cX7_endsAt 62 = .ok (.invokevirtual 225, 3) := by decide +kernel
theorem dX7_endsAt_65 : decode cX7_endsAt 65 = .ok (.iinc 3 1, 3) := by decide +kernel
theorem dX7_endsAt_68 : decode cX7_endsAt 68 = .ok (.goto (-24), 3) := by decide +kernel
theorem dX7_endsAt_71 : decode cX7_endsAt 71 = .ok (.aload_n 2, 1) := by decide +kernel
theorem dX7_endsAt_72 : decode cX7_endsAt 72 = .ok (.getfield 217, 3) := by decide +kernel
theorem dX7_endsAt_75 : decode cX7_endsAt 75 = .ok (.ireturn, 1) := by decide +kernel
theorem dX7_bankruptIn_0 : decode cX7_bankruptIn 0 = .ok (.aload_n 0, 1) := by decide +kernel
theorem dX7_bankruptIn_1 : decode cX7_bankruptIn 1 = .ok (.getfield 37, 3) := by decide +kernel
theorem dX7_bankruptIn_4 : decode cX7_bankruptIn 4 = .ok (.iload_n 1, 1) := by decide +kernel
theorem dX7_bankruptIn_5 : decode cX7_bankruptIn 5 = .ok (.invokevirtual 112, 3) := by decide +kernel
theorem dX7_bankruptIn_8 : decode cX7_bankruptIn 8 = .ok (.ifCond .ne 13, 3) := by decide +kernel
theorem dX7_bankruptIn_11 : decode cX7_bankruptIn 11 = .ok (.new 116, 3) := by decide +kernel
theorem dX7_bankruptIn_14 : decode cX7_bankruptIn 14 = .ok (.dup, 1) := by decide +kernel
theorem dX7_bankruptIn_15 : decode cX7_bankruptIn 15 = .ok (.ldc 118, 2) := by decide +kernel
theorem dX7_bankruptIn_17 : decode cX7_bankruptIn 17 = .ok (.invokespecial 120, 3) := by decide +kernel
theorem dX7_bankruptIn_20 : decode cX7_bankruptIn 20 = .ok (.athrow, 1) := by decide +kernel
theorem dX7_bankruptIn_21 : decode cX7_bankruptIn 21 = .ok (.aload_n 0, 1) := by decide +kernel
theorem dX7_bankruptIn_22 : decode cX7_bankruptIn 22 = .ok (.getfield 41, 3) := by decide +kernel
theorem dX7_bankruptIn_25 : decode cX7_bankruptIn 25 = .ok (.aload_n 0, 1) := by decide +kernel
theorem dX7_bankruptIn_26 : decode cX7_bankruptIn 26 = .ok (.getfield 37, 3) := by decide +kernel
theorem dX7_bankruptIn_29 : decode cX7_bankruptIn 29 = .ok (.invokevirtual 80, 3) := by decide +kernel
theorem dX7_bankruptIn_32 : decode cX7_bankruptIn 32 = .ok (.aload_n 0, 1) := by decide +kernel
theorem dX7_bankruptIn_33 : decode cX7_bankruptIn 33 = .ok (.getfield 41, 3) := by decide +kernel
theorem dX7_bankruptIn_36 : decode cX7_bankruptIn 36 = .ok (.getfield 121, 3) := by decide +kernel
theorem dX7_bankruptIn_39 : decode cX7_bankruptIn 39 = .ok (.iload_n 1, 1) := by decide +kernel
theorem dX7_bankruptIn_40 : decode cX7_bankruptIn 40 = .ok (.aaload, 1) := by decide +kernel
theorem dX7_bankruptIn_41 : decode cX7_bankruptIn 41 = .ok (.astore_n 2, 1) := by decide +kernel
theorem dX7_bankruptIn_42 : decode cX7_bankruptIn 42 = .ok (.iconst 0, 1) := by decide +kernel
theorem dX7_bankruptIn_43 : decode cX7_bankruptIn 43 = .ok (.istore_n 3, 1) := by decide +kernel
theorem dX7_bankruptIn_44 : decode cX7_bankruptIn 44 = .ok (.iload_n 3, 1) := by decide +kernel
theorem dX7_bankruptIn_45 : decode cX7_bankruptIn 45 = .ok (.sipush 1100, 3) := by decide +kernel
theorem dX7_bankruptIn_48 : decode cX7_bankruptIn 48 = .ok (.if_icmp .ge 23, 3) := by decide +kernel
theorem dX7_bankruptIn_51 : decode cX7_bankruptIn 51 = .ok (.aload_n 2, 1) := by decide +kernel
theorem dX7_bankruptIn_52 : decode cX7_bankruptIn 52 = .ok (.getfield 133, 3) := by decide +kernel
theorem dX7_bankruptIn_55 : decode cX7_bankruptIn 55 = .ok (.ifCond .ne 16, 3) := by decide +kernel
theorem dX7_bankruptIn_58 : decode cX7_bankruptIn 58 = .ok (.aload_n 0, 1) := by decide +kernel
theorem dX7_bankruptIn_59 : decode cX7_bankruptIn 59 = .ok (.getfield 41, 3) := by decide +kernel
theorem dX7_bankruptIn_62 : decode cX7_bankruptIn 62 = .ok (.invokevirtual 225, 3) := by decide +kernel
theorem dX7_bankruptIn_65 : decode cX7_bankruptIn 65 = .ok (.iinc 3 1, 3) := by decide +kernel
theorem dX7_bankruptIn_68 : decode cX7_bankruptIn 68 = .ok (.goto (-24), 3) := by decide +kernel
theorem dX7_bankruptIn_71 : decode cX7_bankruptIn 71 = .ok (.aload_n 2, 1) := by decide +kernel
theorem dX7_bankruptIn_72 : decode cX7_bankruptIn 72 = .ok (.getfield 133, 3) := by decide +kernel
theorem dX7_bankruptIn_75 : decode cX7_bankruptIn 75 = .ok (.ifCond .eq 7, 3) := by decide +kernel
theorem dX7_bankruptIn_78 : decode cX7_bankruptIn 78 = .ok (.iload_n 3, 1) := by decide +kernel
theorem dX7_bankruptIn_79 : decode cX7_bankruptIn 79 = .ok (.goto 4, 3) := by decide +kernel
theorem dX7_bankruptIn_82 : decode cX7_bankruptIn 82 = .ok (.iconst (-1), 1) := by decide +kernel
theorem dX7_bankruptIn_83 : decode cX7_bankruptIn 83 = .ok (.ireturn, 1) := by decide +kernel
theorem dX7_finesIn_0 : decode cX7_finesIn 0 = .ok (.iload_n 1, 1) := by decide +kernel
theorem dX7_finesIn_1 : decode cX7_finesIn 1 = .ok (.ifCond .lt 10, 3) := by decide +kernel
theorem dX7_finesIn_4 : decode cX7_finesIn 4 = .ok (.iload_n 1, 1) := by decide +kernel
theorem dX7_finesIn_5 : decode cX7_finesIn 5 = .ok (.sipush 1100, 3) := by decide +kernel
theorem dX7_finesIn_8 : decode cX7_finesIn 8 = .ok (.if_icmp .le 13, 3) := by decide +kernel
theorem dX7_finesIn_11 : decode cX7_finesIn 11 = .ok (.new 58, 3) := by decide +kernel
theorem dX7_finesIn_14 : decode cX7_finesIn 14 = .ok (.dup, 1) := by decide +kernel
theorem dX7_finesIn_15 : decode cX7_finesIn 15 = .ok (.ldc 228, 2) := by decide +kernel
theorem dX7_finesIn_17 : decode cX7_finesIn 17 = .ok (.invokespecial 62, 3) := by decide +kernel
theorem dX7_finesIn_20 : decode cX7_finesIn 20 = .ok (.athrow, 1) := by decide +kernel
theorem dX7_finesIn_21 : decode cX7_finesIn 21 = .ok (.aload_n 0, 1) := by decide +kernel
theorem dX7_finesIn_22 : decode cX7_finesIn 22 = .ok (.getfield 41, 3) := by decide +kernel
theorem dX7_finesIn_25 : decode cX7_finesIn 25 = .ok (.aload_n 0, 1) := by decide +kernel
theorem dX7_finesIn_26 : decode cX7_finesIn 26 = .ok (.getfield 37, 3) := by decide +kernel
theorem dX7_finesIn_29 : decode cX7_finesIn 29 = .ok (.invokevirtual 80, 3) := by decide +kernel
theorem dX7_finesIn_32 : decode cX7_finesIn 32 = .ok (.aload_n 0, 1) := by decide +kernel
theorem dX7_finesIn_33 : decode cX7_finesIn 33 = .ok (.getfield 41, 3) := by decide +kernel
theorem dX7_finesIn_36 : decode cX7_finesIn 36 = .ok (.iload_n 1, 1) := by decide +kernel
theorem dX7_finesIn_37 : decode cX7_finesIn 37 = .ok (.invokevirtual 230, 3) := by decide +kernel
theorem dX7_finesIn_40 : decode cX7_finesIn 40 = .ok (.ireturn, 1) := by decide +kernel
theorem dX7_advise_0 : decode cX7_advise 0 = .ok (.aload_n 0, 1) := by decide +kernel
theorem dX7_advise_1 : decode cX7_advise 1 = .ok (.getfield 37, 3) := by decide +kernel
theorem dX7_advise_4 : decode cX7_advise 4 = .ok (.iload_n 1, 1) := by decide +kernel
theorem dX7_advise_5 : decode cX7_advise 5 = .ok (.invokevirtual 154, 3) := by decide +kernel
theorem dX7_advise_8 : decode cX7_advise 8 = .ok (.ifCond .ne 13, 3) := by decide +kernel
theorem dX7_advise_11 : decode cX7_advise 11 = .ok (.new 116, 3) := by decide +kernel
theorem dX7_advise_14 : decode cX7_advise 14 = .ok (.dup, 1) := by decide +kernel
theorem dX7_advise_15 : decode cX7_advise 15 = .ok (.ldc 157, 2) := by decide +kernel
theorem dX7_advise_17 : decode cX7_advise 17 = .ok (.invokespecial 120, 3) := by decide +kernel
theorem dX7_advise_20 : decode cX7_advise 20 = .ok (.athrow, 1) := by decide +kernel
theorem dX7_advise_21 : decode cX7_advise 21 = .ok (.aload_n 0, 1) := by decide +kernel
theorem dX7_advise_22 : decode cX7_advise 22 = .ok (.getfield 41, 3) := by decide +kernel
theorem dX7_advise_25 : decode cX7_advise 25 = .ok (.aload_n 0, 1) := by decide +kernel
theorem dX7_advise_26 : decode cX7_advise 26 = .ok (.getfield 37, 3) := by decide +kernel
theorem dX7_advise_29 : decode cX7_advise 29 = .ok (.invokevirtual 80, 3) := by decide +kernel
theorem dX7_advise_32 : decode cX7_advise 32 = .ok (.aload_n 0, 1) := by decide +kernel
theorem dX7_advise_33 : decode cX7_advise 33 = .ok (.getfield 41, 3) := by decide +kernel
theorem dX7_advise_36 : decode cX7_advise 36 = .ok (.bipush 100, 2) := by decide +kernel
theorem dX7_advise_38 : decode cX7_advise 38 = .ok (.invokevirtual 230, 3) := by decide +kernel
theorem dX7_advise_41 : decode cX7_advise 41 = .ok (.istore_n 2, 1) := by decide +kernel
theorem dX7_advise_42 : decode cX7_advise 42 = .ok (.iconst (-1), 1) := by decide +kernel
theorem dX7_advise_43 : decode cX7_advise 43 = .ok (.istore_n 3, 1) := by decide +kernel
theorem dX7_advise_44 : decode cX7_advise 44 = .ok (.iconst 0, 1) := by decide +kernel
theorem dX7_advise_45 : decode cX7_advise 45 = .ok (.istore 4, 2) := by decide +kernel
theorem dX7_advise_47 : decode cX7_advise 47 = .ok (.iload 4, 2) := by decide +kernel
theorem dX7_advise_49 : decode cX7_advise 49 = .ok (.aload_n 0, 1) := by decide +kernel
theorem dX7_advise_50 : decode cX7_advise 50 = .ok (.getfield 37, 3) := by decide +kernel
theorem dX7_advise_53 : decode cX7_advise 53 = .ok (.getfield 90, 3) := by decide +kernel
theorem dX7_advise_56 : decode cX7_advise 56 = .ok (.if_icmp .ge 67, 3) := by decide +kernel
theorem dX7_advise_59 : decode cX7_advise 59 = .ok (.aload_n 0, 1) := by decide +kernel
theorem dX7_advise_60 : decode cX7_advise 60 = .ok (.getfield 37, 3) := by decide +kernel
theorem dX7_advise_63 : decode cX7_advise 63 = .ok (.iload 4, 2) := by decide +kernel
theorem dX7_advise_65 : decode cX7_advise 65 = .ok (.iload_n 1, 1) := by decide +kernel
theorem dX7_advise_66 : decode cX7_advise 66 = .ok (.invokevirtual 233, 3) := by decide +kernel
theorem dX7_advise_69 : decode cX7_advise 69 = .ok (.ifCond .eq 48, 3) := by decide +kernel
theorem dX7_advise_72 : decode cX7_advise 72 = .ok (.aload_n 0, 1) := by decide +kernel
theorem dX7_advise_73 : decode cX7_advise 73 = .ok (.getfield 41, 3) := by decide +kernel
theorem dX7_advise_76 : decode cX7_advise 76 = .ok (.aload_n 0, 1) := by decide +kernel
theorem dX7_advise_77 : decode cX7_advise 77 = .ok (.getfield 37, 3) := by decide +kernel
theorem dX7_advise_80 : decode cX7_advise 80 = .ok (.invokevirtual 80, 3) := by decide +kernel
theorem dX7_advise_83 : decode cX7_advise 83 = .ok (.aload_n 0, 1) := by decide +kernel
theorem dX7_advise_84 : decode cX7_advise 84 = .ok (.getfield 41, 3) := by decide +kernel
theorem dX7_advise_87 : decode cX7_advise 87 = .ok (.iload 4, 2) := by decide +kernel
theorem dX7_advise_89 : decode cX7_advise 89 = .ok (.iload_n 1, 1) := by decide +kernel
theorem dX7_advise_90 : decode cX7_advise 90 = .ok (.invokevirtual 237, 3) := by decide +kernel
theorem dX7_advise_93 : decode cX7_advise 93 = .ok (.pop, 1) := by decide +kernel
theorem dX7_advise_94 : decode cX7_advise 94 = .ok (.aload_n 0, 1) := by decide +kernel
theorem dX7_advise_95 : decode cX7_advise 95 = .ok (.getfield 41, 3) := by decide +kernel
theorem dX7_advise_98 : decode cX7_advise 98 = .ok (.bipush 100, 2) := by decide +kernel
theorem dX7_advise_100 : decode cX7_advise 100 = .ok (.invokevirtual 230, 3) := by decide +kernel
theorem dX7_advise_103 : decode cX7_advise 103 = .ok (.istore 5, 2) := by decide +kernel
theorem dX7_advise_105 : decode cX7_advise 105 = .ok (.iload 5, 2) := by decide +kernel
theorem dX7_advise_107 : decode cX7_advise 107 = .ok (.iload_n 2, 1) := by decide +kernel
theorem dX7_advise_108 : decode cX7_advise 108 = .ok (.if_icmp .ge 9, 3) := by decide +kernel
theorem dX7_advise_111 : decode cX7_advise 111 = .ok (.iload 5, 2) := by decide +kernel
theorem dX7_advise_113 : decode cX7_advise 113 = .ok (.istore_n 2, 1) := by decide +kernel
theorem dX7_advise_114 : decode cX7_advise 114 = .ok (.iload 4, 2) := by decide +kernel
theorem dX7_advise_116 : decode cX7_advise 116 = .ok (.istore_n 3, 1) := by decide +kernel
theorem dX7_advise_117 : decode cX7_advise 117 = .ok (.iinc 4 1, 3) := by decide +kernel
theorem dX7_advise_120 : decode cX7_advise 120 = .ok (.goto (-73), 3) := by decide +kernel
theorem dX7_advise_123 : decode cX7_advise 123 = .ok (.iload_n 3, 1) := by decide +kernel
theorem dX7_advise_124 : decode cX7_advise 124 = .ok (.ireturn, 1) := by decide +kernel
theorem dX7_pass_0 : decode cX7_pass 0 = .ok (.iload_n 1, 1) := by decide +kernel
theorem dX7_pass_1 : decode cX7_pass 1 = .ok (.iconst 1, 1) := by decide +kernel
theorem dX7_pass_2 : decode cX7_pass 2 = .ok (.if_icmp .lt 25, 3) := by decide +kernel
theorem dX7_pass_5 : decode cX7_pass 5 = .ok (.iload_n 1, 1) := by decide +kernel
theorem dX7_pass_6 : decode cX7_pass 6 = .ok (.sipush 200, 3) := by decide +kernel
theorem dX7_pass_9 : decode cX7_pass 9 = .ok (.if_icmp .gt 18, 3) := by decide +kernel
theorem dX7_pass_12 : decode cX7_pass 12 = .ok (.aload_n 0, 1) := by decide +kernel
theorem dX7_pass_13 : decode cX7_pass 13 = .ok (.getfield 37, 3) := by decide +kernel
theorem dX7_pass_16 : decode cX7_pass 16 = .ok (.getfield 87, 3) := by decide +kernel
theorem dX7_pass_19 : decode cX7_pass 19 = .ok (.iload_n 1, 1) := by decide +kernel
theorem dX7_pass_20 : decode cX7_pass 20 = .ok (.iadd, 1) := by decide +kernel
theorem dX7_pass_21 : decode cX7_pass 21 = .ok (.sipush 9999, 3) := by decide +kernel
theorem dX7_pass_24 : decode cX7_pass 24 = .ok (.if_icmp .le 13, 3) := by decide +kernel
theorem dX7_pass_27 : decode cX7_pass 27 = .ok (.new 58, 3) := by decide +kernel
theorem dX7_pass_30 : decode cX7_pass 30 = .ok (.dup, 1) := by decide +kernel
theorem dX7_pass_31 : decode cX7_pass 31 = .ok (.ldc 228, 2) := by decide +kernel
theorem dX7_pass_33 : decode cX7_pass 33 = .ok (.invokespecial 62, 3) := by decide +kernel
theorem dX7_pass_36 : decode cX7_pass 36 = .ok (.athrow, 1) := by decide +kernel
theorem dX7_pass_37 : decode cX7_pass 37 = .ok (.aload_n 0, 1) := by decide +kernel
theorem dX7_pass_38 : decode cX7_pass 38 = .ok (.invokevirtual 77, 3) := by decide +kernel
theorem dX7_pass_41 : decode cX7_pass 41 = .ok (.aload_n 0, 1) := by decide +kernel
theorem dX7_pass_42 : decode cX7_pass 42 = .ok (.getfield 37, 3) := by decide +kernel
theorem dX7_pass_45 : decode cX7_pass 45 = .ok (.iconst 2, 1) := by decide +kernel
theorem dX7_pass_46 : decode cX7_pass 46 = .ok (.invokevirtual 99, 3) := by decide +kernel
theorem dX7_pass_49 : decode cX7_pass 49 = .ok (.istore_n 2, 1) := by decide +kernel
theorem dX7_pass_50 : decode cX7_pass 50 = .ok (.iconst 0, 1) := by decide +kernel
theorem dX7_pass_51 : decode cX7_pass 51 = .ok (.istore_n 3, 1) := by decide +kernel
theorem dX7_pass_52 : decode cX7_pass 52 = .ok (.iload_n 3, 1) := by decide +kernel
theorem dX7_pass_53 : decode cX7_pass 53 = .ok (.iload_n 1, 1) := by decide +kernel
theorem dX7_pass_54 : decode cX7_pass 54 = .ok (.if_icmp .ge 16, 3) := by decide +kernel
theorem dX7_pass_57 : decode cX7_pass 57 = .ok (.aload_n 0, 1) := by decide +kernel
theorem dX7_pass_58 : decode cX7_pass 58 = .ok (.getfield 37, 3) := by decide +kernel
theorem dX7_pass_61 : decode cX7_pass 61 = .ok (.invokevirtual 225, 3) := by decide +kernel
theorem dX7_pass_64 : decode cX7_pass 64 = .ok (.iinc 3 1, 3) := by decide +kernel
theorem dX7_pass_67 : decode cX7_pass 67 = .ok (.goto (-15), 3) := by decide +kernel
theorem dX7_pass_70 : decode cX7_pass 70 = .ok (.aload_n 0, 1) := by decide +kernel
theorem dX7_pass_71 : decode cX7_pass 71 = .ok (.getfield 37, 3) := by decide +kernel
theorem dX7_pass_74 : decode cX7_pass 74 = .ok (.iconst 2, 1) := by decide +kernel
theorem dX7_pass_75 : decode cX7_pass 75 = .ok (.invokevirtual 99, 3) := by decide +kernel
theorem dX7_pass_78 : decode cX7_pass 78 = .ok (.iload_n 2, 1) := by decide +kernel
theorem dX7_pass_79 : decode cX7_pass 79 = .ok (.isub, 1) := by decide +kernel
theorem dX7_pass_80 : decode cX7_pass 80 = .ok (.ireturn, 1) := by decide +kernel
theorem dX7_raise_0 : decode cX7_raise 0 = .ok (.aload_n 0, 1) := by decide +kernel
theorem dX7_raise_1 : decode cX7_raise 1 = .ok (.getfield 37, 3) := by decide +kernel
theorem dX7_raise_4 : decode cX7_raise 4 = .ok (.iload_n 1, 1) := by decide +kernel
theorem dX7_raise_5 : decode cX7_raise 5 = .ok (.invokevirtual 154, 3) := by decide +kernel
theorem dX7_raise_8 : decode cX7_raise 8 = .ok (.ifCond .ne 13, 3) := by decide +kernel
theorem dX7_raise_11 : decode cX7_raise 11 = .ok (.new 116, 3) := by decide +kernel
theorem dX7_raise_14 : decode cX7_raise 14 = .ok (.dup, 1) := by decide +kernel
theorem dX7_raise_15 : decode cX7_raise 15 = .ok (.ldc 157, 2) := by decide +kernel
theorem dX7_raise_17 : decode cX7_raise 17 = .ok (.invokespecial 120, 3) := by decide +kernel
theorem dX7_raise_20 : decode cX7_raise 20 = .ok (.athrow, 1) := by decide +kernel
theorem dX7_raise_21 : decode cX7_raise 21 = .ok (.iload_n 2, 1) := by decide +kernel
theorem dX7_raise_22 : decode cX7_raise 22 = .ok (.iconst 1, 1) := by decide +kernel
theorem dX7_raise_23 : decode cX7_raise 23 = .ok (.if_icmp .lt 9, 3) := by decide +kernel
theorem dX7_raise_26 : decode cX7_raise 26 = .ok (.iload_n 2, 1) := by decide +kernel
theorem dX7_raise_27 : decode cX7_raise 27 = .ok (.bipush 99, 2) := by decide +kernel
theorem dX7_raise_29 : decode cX7_raise 29 = .ok (.if_icmp .le 13, 3) := by decide +kernel
theorem dX7_raise_32 : decode cX7_raise 32 = .ok (.new 58, 3) := by decide +kernel
theorem dX7_raise_35 : decode cX7_raise 35 = .ok (.dup, 1) := by decide +kernel
theorem dX7_raise_36 : decode cX7_raise 36 = .ok (.ldc 240, 2) := by decide +kernel
theorem dX7_raise_38 : decode cX7_raise 38 = .ok (.invokespecial 62, 3) := by decide +kernel
theorem dX7_raise_41 : decode cX7_raise 41 = .ok (.athrow, 1) := by decide +kernel
theorem dX7_raise_42 : decode cX7_raise 42 = .ok (.aload_n 0, 1) := by decide +kernel
theorem dX7_raise_43 : decode cX7_raise 43 = .ok (.getfield 37, 3) := by decide +kernel
theorem dX7_raise_46 : decode cX7_raise 46 = .ok (.getfield 84, 3) := by decide +kernel
theorem dX7_raise_49 : decode cX7_raise 49 = .ok (.bipush 60, 2) := by decide +kernel
theorem dX7_raise_51 : decode cX7_raise 51 = .ok (.if_icmp .lt 13, 3) := by decide +kernel
theorem dX7_raise_54 : decode cX7_raise 54 = .ok (.new 242, 3) := by decide +kernel
theorem dX7_raise_57 : decode cX7_raise 57 = .ok (.dup, 1) := by decide +kernel
theorem dX7_raise_58 : decode cX7_raise 58 = .ok (.ldc 244, 2) := by decide +kernel
theorem dX7_raise_60 : decode cX7_raise 60 = .ok (.invokespecial 246, 3) := by decide +kernel
theorem dX7_raise_63 : decode cX7_raise 63 = .ok (.athrow, 1) := by decide +kernel
theorem dX7_raise_64 : decode cX7_raise 64 = .ok (.aload_n 0, 1) := by decide +kernel
theorem dX7_raise_65 : decode cX7_raise 65 = .ok (.invokevirtual 77, 3) := by decide +kernel
theorem dX7_raise_68 : decode cX7_raise 68 = .ok (.aload_n 0, 1) := by decide +kernel
theorem dX7_raise_69 : decode cX7_raise 69 = .ok (.getfield 37, 3) := by decide +kernel
theorem dX7_raise_72 : decode cX7_raise 72 = .ok (.getfield 84, 3) := by decide +kernel
theorem dX7_raise_75 : decode cX7_raise 75 = .ok (.istore_n 3, 1) := by decide +kernel
theorem dX7_raise_76 : decode cX7_raise 76 = .ok (.aload_n 0, 1) := by decide +kernel
theorem dX7_raise_77 : decode cX7_raise 77 = .ok (.getfield 37, 3) := by decide +kernel
theorem dX7_raise_80 : decode cX7_raise 80 = .ok (.iload_n 1, 1) := by decide +kernel
theorem dX7_raise_81 : decode cX7_raise 81 = .ok (.aload_n 0, 1) := by decide +kernel
theorem dX7_raise_82 : decode cX7_raise 82 = .ok (.getfield 37, 3) := by decide +kernel
theorem dX7_raise_85 : decode cX7_raise 85 = .ok (.getfield 87, 3) := by decide +kernel
theorem dX7_raise_88 : decode cX7_raise 88 = .ok (.iload_n 2, 1) := by decide +kernel
theorem dX7_raise_89 : decode cX7_raise 89 = .ok (.invokevirtual 247, 3) := by decide +kernel
theorem dX7_raise_92 : decode cX7_raise 92 = .ok (.aload_n 0, 1) := by decide +kernel
theorem dX7_raise_93 : decode cX7_raise 93 = .ok (.getfield 37, 3) := by decide +kernel
theorem dX7_raise_96 : decode cX7_raise 96 = .ok (.aload_n 0, 1) := by decide +kernel
theorem dX7_raise_97 : decode cX7_raise 97 = .ok (.getfield 37, 3) := by decide +kernel
theorem dX7_raise_100 : decode cX7_raise 100 = .ok (.getfield 195, 3) := by decide +kernel
theorem dX7_raise_103 : decode cX7_raise 103 = .ok (.iload_n 3, 1) := by decide +kernel
theorem dX7_raise_104 : decode cX7_raise 104 = .ok (.aaload, 1) := by decide +kernel
theorem dX7_raise_105 : decode cX7_raise 105 = .ok (.invokevirtual 251, 3) := by decide +kernel
theorem dX7_raise_108 : decode cX7_raise 108 = .ok (.iload_n 3, 1) := by decide +kernel
theorem dX7_raise_109 : decode cX7_raise 109 = .ok (.ireturn, 1) := by decide +kernel
theorem dX7_lease_0 : decode cX7_lease 0 = .ok (.aload_n 0, 1) := by decide +kernel
theorem dX7_lease_1 : decode cX7_lease 1 = .ok (.getfield 37, 3) := by decide +kernel
theorem dX7_lease_4 : decode cX7_lease 4 = .ok (.iload_n 1, 1) := by decide +kernel
theorem dX7_lease_5 : decode cX7_lease 5 = .ok (.invokevirtual 112, 3) := by decide +kernel
theorem dX7_lease_8 : decode cX7_lease 8 = .ok (.ifCond .eq 14, 3) := by decide +kernel
theorem dX7_lease_11 : decode cX7_lease 11 = .ok (.aload_n 0, 1) := by decide +kernel
theorem dX7_lease_12 : decode cX7_lease 12 = .ok (.getfield 37, 3) := by decide +kernel
theorem dX7_lease_15 : decode cX7_lease 15 = .ok (.iload_n 2, 1) := by decide +kernel
theorem dX7_lease_16 : decode cX7_lease 16 = .ok (.invokevirtual 154, 3) := by decide +kernel
theorem dX7_lease_19 : decode cX7_lease 19 = .ok (.ifCond .ne 13, 3) := by decide +kernel
theorem dX7_lease_22 : decode cX7_lease 22 = .ok (.new 116, 3) := by decide +kernel
theorem dX7_lease_25 : decode cX7_lease 25 = .ok (.dup, 1) := by decide +kernel
theorem dX7_lease_26 : decode cX7_lease 26 = .ok (.ldc 255, 2) := by decide +kernel
theorem dX7_lease_28 : decode cX7_lease 28 = .ok (.invokespecial 120, 3) := by decide +kernel
theorem dX7_lease_31 : decode cX7_lease 31 = .ok (.athrow, 1) := by decide +kernel
theorem dX7_lease_32 : decode cX7_lease 32 = .ok (.aload_n 0, 1) := by decide +kernel
theorem dX7_lease_33 : decode cX7_lease 33 = .ok (.invokevirtual 77, 3) := by decide +kernel
theorem dX7_lease_36 : decode cX7_lease 36 = .ok (.aload_n 0, 1) := by decide +kernel
theorem dX7_lease_37 : decode cX7_lease 37 = .ok (.getfield 37, 3) := by decide +kernel
theorem dX7_lease_40 : decode cX7_lease 40 = .ok (.iload_n 1, 1) := by decide +kernel
theorem dX7_lease_41 : decode cX7_lease 41 = .ok (.iload_n 2, 1) := by decide +kernel
theorem dX7_lease_42 : decode cX7_lease 42 = .ok (.invokevirtual 233, 3) := by decide +kernel
theorem dX7_lease_45 : decode cX7_lease 45 = .ok (.ifCond .eq 15, 3) := by decide +kernel
theorem dX7_lease_48 : decode cX7_lease 48 = .ok (.aload_n 0, 1) := by decide +kernel
theorem dX7_lease_49 : decode cX7_lease 49 = .ok (.getfield 37, 3) := by decide +kernel
theorem dX7_lease_52 : decode cX7_lease 52 = .ok (.iload_n 1, 1) := by decide +kernel
theorem dX7_lease_53 : decode cX7_lease 53 = .ok (.iload_n 2, 1) := by decide +kernel
theorem dX7_lease_54 : decode cX7_lease 54 = .ok (.invokevirtual 237, 3) := by decide +kernel
theorem dX7_lease_57 : decode cX7_lease 57 = .ok (.goto 4, 3) := by decide +kernel
theorem dX7_lease_60 : decode cX7_lease 60 = .ok (.iconst (-1), 1) := by decide +kernel
theorem dX7_lease_61 : decode cX7_lease 61 = .ok (.ireturn, 1) := by decide +kernel
theorem dX7_release_0 : decode cX7_release 0 = .ok (.aload_n 0, 1) := by decide +kernel
theorem dX7_release_1 : decode cX7_release 1 = .ok (.getfield 37, 3) := by decide +kernel
theorem dX7_release_4 : decode cX7_release 4 = .ok (.iload_n 1, 1) := by decide +kernel
theorem dX7_release_5 : decode cX7_release 5 = .ok (.invokevirtual 112, 3) := by decide +kernel
theorem dX7_release_8 : decode cX7_release 8 = .ok (.ifCond .eq 14, 3) := by decide +kernel
theorem dX7_release_11 : decode cX7_release 11 = .ok (.aload_n 0, 1) := by decide +kernel
theorem dX7_release_12 : decode cX7_release 12 = .ok (.getfield 37, 3) := by decide +kernel
theorem dX7_release_15 : decode cX7_release 15 = .ok (.iload_n 2, 1) := by decide +kernel
theorem dX7_release_16 : decode cX7_release 16 = .ok (.invokevirtual 154, 3) := by decide +kernel
theorem dX7_release_19 : decode cX7_release 19 = .ok (.ifCond .ne 13, 3) := by decide +kernel
theorem dX7_release_22 : decode cX7_release 22 = .ok (.new 116, 3) := by decide +kernel
theorem dX7_release_25 : decode cX7_release 25 = .ok (.dup, 1) := by decide +kernel
theorem dX7_release_26 : decode cX7_release 26 = .ok (.ldc 255, 2) := by decide +kernel
theorem dX7_release_28 : decode cX7_release 28 = .ok (.invokespecial 120, 3) := by decide +kernel
theorem dX7_release_31 : decode cX7_release 31 = .ok (.athrow, 1) := by decide +kernel
theorem dX7_release_32 : decode cX7_release 32 = .ok (.aload_n 0, 1) := by decide +kernel
theorem dX7_release_33 : decode cX7_release 33 = .ok (.invokevirtual 77, 3) := by decide +kernel
theorem dX7_release_36 : decode cX7_release 36 = .ok (.aload_n 0, 1) := by decide +kernel
theorem dX7_release_37 : decode cX7_release 37 = .ok (.getfield 37, 3) := by decide +kernel
theorem dX7_release_40 : decode cX7_release 40 = .ok (.getfield 159, 3) := by decide +kernel
theorem dX7_release_43 : decode cX7_release 43 = .ok (.iload_n 2, 1) := by decide +kernel
theorem dX7_release_44 : decode cX7_release 44 = .ok (.aaload, 1) := by decide +kernel
theorem dX7_release_45 : decode cX7_release 45 = .ok (.iload_n 1, 1) := by decide +kernel
theorem dX7_release_46 : decode cX7_release 46 = .ok (.invokevirtual 257, 3) := by decide +kernel
theorem dX7_release_49 : decode cX7_release 49 = .ok (.ifCond .lt 15, 3) := by decide +kernel
theorem dX7_release_52 : decode cX7_release 52 = .ok (.aload_n 0, 1) := by decide +kernel
theorem dX7_release_53 : decode cX7_release 53 = .ok (.getfield 37, 3) := by decide +kernel
theorem dX7_release_56 : decode cX7_release 56 = .ok (.iload_n 1, 1) := by decide +kernel
theorem dX7_release_57 : decode cX7_release 57 = .ok (.iload_n 2, 1) := by decide +kernel
theorem dX7_release_58 : decode cX7_release 58 = .ok (.invokevirtual 260, 3) := by decide +kernel
theorem dX7_release_61 : decode cX7_release 61 = .ok (.goto 4, 3) := by decide +kernel
theorem dX7_release_64 : decode cX7_release 64 = .ok (.iconst (-1), 1) := by decide +kernel
theorem dX7_release_65 : decode cX7_release 65 = .ok (.ireturn, 1) := by decide +kernel
theorem dX7_fund_0 : decode cX7_fund 0 = .ok (.aload_n 0, 1) := by decide +kernel
theorem dX7_fund_1 : decode cX7_fund 1 = .ok (.getfield 37, 3) := by decide +kernel
theorem dX7_fund_4 : decode cX7_fund 4 = .ok (.iload_n 1, 1) := by decide +kernel
theorem dX7_fund_5 : decode cX7_fund 5 = .ok (.invokevirtual 112, 3) := by decide +kernel
theorem dX7_fund_8 : decode cX7_fund 8 = .ok (.ifCond .ne 13, 3) := by decide +kernel
theorem dX7_fund_11 : decode cX7_fund 11 = .ok (.new 116, 3) := by decide +kernel
theorem dX7_fund_14 : decode cX7_fund 14 = .ok (.dup, 1) := by decide +kernel
theorem dX7_fund_15 : decode cX7_fund 15 = .ok (.ldc 118, 2) := by decide +kernel
theorem dX7_fund_17 : decode cX7_fund 17 = .ok (.invokespecial 120, 3) := by decide +kernel
theorem dX7_fund_20 : decode cX7_fund 20 = .ok (.athrow, 1) := by decide +kernel
theorem dX7_fund_21 : decode cX7_fund 21 = .ok (.iload_n 2, 1) := by decide +kernel
theorem dX7_fund_22 : decode cX7_fund 22 = .ok (.iconst 1, 1) := by decide +kernel
theorem dX7_fund_23 : decode cX7_fund 23 = .ok (.if_icmp .lt 10, 3) := by decide +kernel
theorem dX7_fund_26 : decode cX7_fund 26 = .ok (.iload_n 2, 1) := by decide +kernel
theorem dX7_fund_27 : decode cX7_fund 27 = .ok (.sipush 9999, 3) := by decide +kernel
theorem dX7_fund_30 : decode cX7_fund 30 = .ok (.if_icmp .le 14, 3) := by decide +kernel
theorem dX7_fund_33 : decode cX7_fund 33 = .ok (.new 58, 3) := by decide +kernel
theorem dX7_fund_36 : decode cX7_fund 36 = .ok (.dup, 1) := by decide +kernel
theorem dX7_fund_37 : decode cX7_fund 37 = .ok (.ldc_w 263, 3) := by decide +kernel
theorem dX7_fund_40 : decode cX7_fund 40 = .ok (.invokespecial 62, 3) := by decide +kernel
theorem dX7_fund_43 : decode cX7_fund 43 = .ok (.athrow, 1) := by decide +kernel
theorem dX7_fund_44 : decode cX7_fund 44 = .ok (.aload_n 0, 1) := by decide +kernel
theorem dX7_fund_45 : decode cX7_fund 45 = .ok (.invokevirtual 77, 3) := by decide +kernel
theorem dX7_fund_48 : decode cX7_fund 48 = .ok (.aload_n 0, 1) := by decide +kernel
theorem dX7_fund_49 : decode cX7_fund 49 = .ok (.getfield 37, 3) := by decide +kernel
theorem dX7_fund_52 : decode cX7_fund 52 = .ok (.getfield 121, 3) := by decide +kernel
theorem dX7_fund_55 : decode cX7_fund 55 = .ok (.iload_n 1, 1) := by decide +kernel
theorem dX7_fund_56 : decode cX7_fund 56 = .ok (.aaload, 1) := by decide +kernel
theorem dX7_fund_57 : decode cX7_fund 57 = .ok (.astore_n 3, 1) := by decide +kernel
theorem dX7_fund_58 : decode cX7_fund 58 = .ok (.aload_n 3, 1) := by decide +kernel
theorem dX7_fund_59 : decode cX7_fund 59 = .ok (.dup, 1) := by decide +kernel
theorem dX7_fund_60 : decode cX7_fund 60 = .ok (.getfield 125, 3) := by decide +kernel
theorem dX7_fund_63 : decode cX7_fund 63 = .ok (.iload_n 2, 1) := by decide +kernel
theorem dX7_fund_64 : decode cX7_fund 64 = .ok (.iadd, 1) := by decide +kernel
theorem dX7_fund_65 : decode cX7_fund 65 = .ok (.putfield 125, 3) := by decide +kernel
theorem dX7_fund_68 : decode cX7_fund 68 = .ok (.aload_n 3, 1) := by decide +kernel
theorem dX7_fund_69 : decode cX7_fund 69 = .ok (.iconst 0, 1) := by decide +kernel
theorem dX7_fund_70 : decode cX7_fund 70 = .ok (.putfield 133, 3) := by decide +kernel
theorem dX7_fund_73 : decode cX7_fund 73 = .ok (.aload_n 3, 1) := by decide +kernel
theorem dX7_fund_74 : decode cX7_fund 74 = .ok (.getfield 125, 3) := by decide +kernel
theorem dX7_fund_77 : decode cX7_fund 77 = .ok (.ireturn, 1) := by decide +kernel
theorem dX7_undo_0 : decode cX7_undo 0 = .ok (.aload_n 0, 1) := by decide +kernel
theorem dX7_undo_1 : decode cX7_undo 1 = .ok (.getfield 48, 3) := by decide +kernel
theorem dX7_undo_4 : decode cX7_undo 4 = .ok (.ifCond .ne 5, 3) := by decide +kernel
theorem dX7_undo_7 : decode cX7_undo 7 = .ok (.iconst (-1), 1) := by decide +kernel
theorem dX7_undo_8 : decode cX7_undo 8 = .ok (.ireturn, 1) := by decide +kernel
theorem dX7_undo_9 : decode cX7_undo 9 = .ok (.aload_n 0, 1) := by decide +kernel
theorem dX7_undo_10 : decode cX7_undo 10 = .ok (.aload_n 0, 1) := by decide +kernel
theorem dX7_undo_11 : decode cX7_undo 11 = .ok (.getfield 51, 3) := by decide +kernel
theorem dX7_undo_14 : decode cX7_undo 14 = .ok (.ifCond .le 12, 3) := by decide +kernel
theorem dX7_undo_17 : decode cX7_undo 17 = .ok (.aload_n 0, 1) := by decide +kernel
theorem dX7_undo_18 : decode cX7_undo 18 = .ok (.getfield 51, 3) := by decide +kernel
theorem dX7_undo_21 : decode cX7_undo 21 = .ok (.iconst 1, 1) := by decide +kernel
theorem dX7_undo_22 : decode cX7_undo 22 = .ok (.isub, 1) := by decide +kernel
theorem dX7_undo_23 : decode cX7_undo 23 = .ok (.goto 10, 3) := by decide +kernel
theorem dX7_undo_26 : decode cX7_undo 26 = .ok (.aload_n 0, 1) := by decide +kernel
theorem dX7_undo_27 : decode cX7_undo 27 = .ok (.getfield 44, 3) := by decide +kernel
theorem dX7_undo_30 : decode cX7_undo 30 = .ok (.arraylength, 1) := by decide +kernel
theorem dX7_undo_31 : decode cX7_undo 31 = .ok (.iconst 1, 1) := by decide +kernel
theorem dX7_undo_32 : decode cX7_undo 32 = .ok (.isub, 1) := by decide +kernel
theorem dX7_undo_33 : decode cX7_undo 33 = .ok (.putfield 51, 3) := by decide +kernel
theorem dX7_undo_36 : decode cX7_undo 36 = .ok (.aload_n 0, 1) := by decide +kernel
theorem dX7_undo_37 : decode cX7_undo 37 = .ok (.dup, 1) := by decide +kernel
theorem dX7_undo_38 : decode cX7_undo 38 = .ok (.getfield 48, 3) := by decide +kernel
theorem dX7_undo_41 : decode cX7_undo 41 = .ok (.iconst 1, 1) := by decide +kernel
theorem dX7_undo_42 : decode cX7_undo 42 = .ok (.isub, 1) := by decide +kernel
theorem dX7_undo_43 : decode cX7_undo 43 = .ok (.putfield 48, 3) := by decide +kernel
theorem dX7_undo_46 : decode cX7_undo 46 = .ok (.aload_n 0, 1) := by decide +kernel
theorem dX7_undo_47 : decode cX7_undo 47 = .ok (.getfield 37, 3) := by decide +kernel
theorem dX7_undo_50 : decode cX7_undo 50 = .ok (.aload_n 0, 1) := by decide +kernel
theorem dX7_undo_51 : decode cX7_undo 51 = .ok (.getfield 44, 3) := by decide +kernel
theorem dX7_undo_54 : decode cX7_undo 54 = .ok (.aload_n 0, 1) := by decide +kernel
theorem dX7_undo_55 : decode cX7_undo 55 = .ok (.getfield 51, 3) := by decide +kernel
theorem dX7_undo_58 : decode cX7_undo 58 = .ok (.aaload, 1) := by decide +kernel
theorem dX7_undo_59 : decode cX7_undo 59 = .ok (.invokevirtual 80, 3) := by decide +kernel
theorem dX7_undo_62 : decode cX7_undo 62 = .ok (.aload_n 0, 1) := by decide +kernel
theorem dX7_undo_63 : decode cX7_undo 63 = .ok (.getfield 48, 3) := by decide +kernel
theorem dX7_undo_66 : decode cX7_undo 66 = .ok (.ireturn, 1) := by decide +kernel
theorem dX7_keepPresent_0 : decode cX7_keepPresent 0 = .ok (.aload_n 0, 1) := by decide +kernel
theorem dX7_keepPresent_1 : decode cX7_keepPresent 1 = .ok (.getfield 44, 3) := by decide +kernel
theorem dX7_keepPresent_4 : decode cX7_keepPresent 4 = .ok (.aload_n 0, 1) := by decide +kernel
theorem dX7_keepPresent_5 : decode cX7_keepPresent 5 = .ok (.getfield 51, 3) := by decide +kernel
theorem dX7_keepPresent_8 : decode cX7_keepPresent 8 = .ok (.aaload, 1) := by decide +kernel
theorem dX7_keepPresent_9 : decode cX7_keepPresent 9 = .ok (.aload_n 0, 1) := by decide +kernel
theorem dX7_keepPresent_10 : decode cX7_keepPresent 10 = .ok (.getfield 37, 3) := by decide +kernel
theorem dX7_keepPresent_13 : decode cX7_keepPresent 13 = .ok (.invokevirtual 80, 3) := by decide +kernel
theorem dX7_keepPresent_16 : decode cX7_keepPresent 16 = .ok (.aload_n 0, 1) := by decide +kernel
theorem dX7_keepPresent_17 : decode cX7_keepPresent 17 = .ok (.aload_n 0, 1) := by decide +kernel
theorem dX7_keepPresent_18 : decode cX7_keepPresent 18 = .ok (.getfield 51, 3) := by decide +kernel
theorem dX7_keepPresent_21 : decode cX7_keepPresent 21 = .ok (.iconst 1, 1) := by decide +kernel
theorem dX7_keepPresent_22 : decode cX7_keepPresent 22 = .ok (.iadd, 1) := by decide +kernel
theorem dX7_keepPresent_23 : decode cX7_keepPresent 23 = .ok (.aload_n 0, 1) := by decide +kernel
theorem dX7_keepPresent_24 : decode cX7_keepPresent 24 = .ok (.getfield 44, 3) := by decide +kernel
theorem dX7_keepPresent_27 : decode cX7_keepPresent 27 = .ok (.arraylength, 1) := by decide +kernel
theorem dX7_keepPresent_28 : decode cX7_keepPresent 28 = .ok (.if_icmp .ge 12, 3) := by decide +kernel
theorem dX7_keepPresent_31 : decode cX7_keepPresent 31 = .ok (.aload_n 0, 1) := by decide +kernel
theorem dX7_keepPresent_32 : decode cX7_keepPresent 32 = .ok (.getfield 51, 3) := by decide +kernel
theorem dX7_keepPresent_35 : decode cX7_keepPresent 35 = .ok (.iconst 1, 1) := by decide +kernel
theorem dX7_keepPresent_36 : decode cX7_keepPresent 36 = .ok (.iadd, 1) := by decide +kernel
theorem dX7_keepPresent_37 : decode cX7_keepPresent 37 = .ok (.goto 4, 3) := by decide +kernel
theorem dX7_keepPresent_40 : decode cX7_keepPresent 40 = .ok (.iconst 0, 1) := by decide +kernel
theorem dX7_keepPresent_41 : decode cX7_keepPresent 41 = .ok (.putfield 51, 3) := by decide +kernel
theorem dX7_keepPresent_44 : decode cX7_keepPresent 44 = .ok (.aload_n 0, 1) := by decide +kernel
theorem dX7_keepPresent_45 : decode cX7_keepPresent 45 = .ok (.getfield 48, 3) := by decide +kernel
theorem dX7_keepPresent_48 : decode cX7_keepPresent 48 = .ok (.aload_n 0, 1) := by decide +kernel
theorem dX7_keepPresent_49 : decode cX7_keepPresent 49 = .ok (.getfield 44, 3) := by decide +kernel
theorem dX7_keepPresent_52 : decode cX7_keepPresent 52 = .ok (.arraylength, 1) := by decide +kernel
theorem dX7_keepPresent_53 : decode cX7_keepPresent 53 = .ok (.if_icmp .ge 13, 3) := by decide +kernel
theorem dX7_keepPresent_56 : decode cX7_keepPresent 56 = .ok (.aload_n 0, 1) := by decide +kernel
theorem dX7_keepPresent_57 : decode cX7_keepPresent 57 = .ok (.dup, 1) := by decide +kernel
theorem dX7_keepPresent_58 : decode cX7_keepPresent 58 = .ok (.getfield 48, 3) := by decide +kernel
theorem dX7_keepPresent_61 : decode cX7_keepPresent 61 = .ok (.iconst 1, 1) := by decide +kernel
theorem dX7_keepPresent_62 : decode cX7_keepPresent 62 = .ok (.iadd, 1) := by decide +kernel
theorem dX7_keepPresent_63 : decode cX7_keepPresent 63 = .ok (.putfield 48, 3) := by decide +kernel
theorem dX7_keepPresent_66 : decode cX7_keepPresent 66 = .ok (.return_, 1) := by decide +kernel
theorem dX7_checksum_0 : decode cX7_checksum 0 = .ok (.lconst 0, 1) := by decide +kernel
theorem dX7_checksum_1 : decode cX7_checksum 1 = .ok (.lstore_n 1, 1) := by decide +kernel
theorem dX7_checksum_2 : decode cX7_checksum 2 = .ok (.iconst 0, 1) := by decide +kernel
theorem dX7_checksum_3 : decode cX7_checksum 3 = .ok (.istore_n 3, 1) := by decide +kernel
theorem dX7_checksum_4 : decode cX7_checksum 4 = .ok (.iload_n 3, 1) := by decide +kernel
theorem dX7_checksum_5 : decode cX7_checksum 5 = .ok (.bipush 10, 2) := by decide +kernel
theorem dX7_checksum_7 : decode cX7_checksum 7 = .ok (.if_icmp .ge 22, 3) := by decide +kernel
theorem dX7_checksum_10 : decode cX7_checksum 10 = .ok (.ldc2_w 265, 3) := by decide +kernel
theorem dX7_checksum_13 : decode cX7_checksum 13 = .ok (.lload_n 1, 1) := by decide +kernel
theorem dX7_checksum_14 : decode cX7_checksum 14 = .ok (.lmul, 1) := by decide +kernel
theorem dX7_checksum_15 : decode cX7_checksum 15 = .ok (.aload_n 0, 1) := by decide +kernel
theorem dX7_checksum_16 : decode cX7_checksum 16 = .ok (.iload_n 3, 1) := by decide +kernel
theorem dX7_checksum_17 : decode cX7_checksum 17 = .ok (.invokevirtual 267, 3) := by decide +kernel
theorem dX7_checksum_20 : decode cX7_checksum 20 = .ok (.i2l, 1) := by decide +kernel
theorem dX7_checksum_21 : decode cX7_checksum 21 = .ok (.ladd, 1) := by decide +kernel
theorem dX7_checksum_22 : decode cX7_checksum 22 = .ok (.lstore_n 1, 1) := by decide +kernel
theorem dX7_checksum_23 : decode cX7_checksum 23 = .ok (.iinc 3 1, 3) := by decide +kernel
theorem dX7_checksum_26 : decode cX7_checksum 26 = .ok (.goto (-22), 3) := by decide +kernel
theorem dX7_checksum_29 : decode cX7_checksum 29 = .ok (.iconst 0, 1) := by decide +kernel
theorem dX7_checksum_30 : decode cX7_checksum 30 = .ok (.istore_n 3, 1) := by decide +kernel
theorem dX7_checksum_31 : decode cX7_checksum 31 = .ok (.iload_n 3, 1) := by decide +kernel
theorem dX7_checksum_32 : decode cX7_checksum 32 = .ok (.aload_n 0, 1) := by decide +kernel
theorem dX7_checksum_33 : decode cX7_checksum 33 = .ok (.getfield 37, 3) := by decide +kernel
theorem dX7_checksum_36 : decode cX7_checksum 36 = .ok (.getfield 90, 3) := by decide +kernel
theorem dX7_checksum_39 : decode cX7_checksum 39 = .ok (.if_icmp .ge 40, 3) := by decide +kernel
theorem dX7_checksum_42 : decode cX7_checksum 42 = .ok (.iconst 0, 1) := by decide +kernel
theorem dX7_checksum_43 : decode cX7_checksum 43 = .ok (.istore 4, 2) := by decide +kernel
theorem dX7_checksum_45 : decode cX7_checksum 45 = .ok (.iload 4, 2) := by decide +kernel
theorem dX7_checksum_47 : decode cX7_checksum 47 = .ok (.bipush 8, 2) := by decide +kernel
theorem dX7_checksum_49 : decode cX7_checksum 49 = .ok (.if_icmp .ge 24, 3) := by decide +kernel
theorem dX7_checksum_52 : decode cX7_checksum 52 = .ok (.ldc2_w 265, 3) := by decide +kernel
theorem dX7_checksum_55 : decode cX7_checksum 55 = .ok (.lload_n 1, 1) := by decide +kernel
theorem dX7_checksum_56 : decode cX7_checksum 56 = .ok (.lmul, 1) := by decide +kernel
theorem dX7_checksum_57 : decode cX7_checksum 57 = .ok (.aload_n 0, 1) := by decide +kernel
theorem dX7_checksum_58 : decode cX7_checksum 58 = .ok (.iload_n 3, 1) := by decide +kernel
theorem dX7_checksum_59 : decode cX7_checksum 59 = .ok (.iload 4, 2) := by decide +kernel
theorem dX7_checksum_61 : decode cX7_checksum 61 = .ok (.invokevirtual 269, 3) := by decide +kernel
theorem dX7_checksum_64 : decode cX7_checksum 64 = .ok (.i2l, 1) := by decide +kernel
theorem dX7_checksum_65 : decode cX7_checksum 65 = .ok (.ladd, 1) := by decide +kernel
theorem dX7_checksum_66 : decode cX7_checksum 66 = .ok (.lstore_n 1, 1) := by decide +kernel
theorem dX7_checksum_67 : decode cX7_checksum 67 = .ok (.iinc 4 1, 3) := by decide +kernel
theorem dX7_checksum_70 : decode cX7_checksum 70 = .ok (.goto (-25), 3) := by decide +kernel
theorem dX7_checksum_73 : decode cX7_checksum 73 = .ok (.iinc 3 1, 3) := by decide +kernel
theorem dX7_checksum_76 : decode cX7_checksum 76 = .ok (.goto (-45), 3) := by decide +kernel
theorem dX7_checksum_79 : decode cX7_checksum 79 = .ok (.iconst 0, 1) := by decide +kernel
theorem dX7_checksum_80 : decode cX7_checksum 80 = .ok (.istore_n 3, 1) := by decide +kernel
theorem dX7_checksum_81 : decode cX7_checksum 81 = .ok (.iload_n 3, 1) := by decide +kernel
theorem dX7_checksum_82 : decode cX7_checksum 82 = .ok (.aload_n 0, 1) := by decide +kernel
theorem dX7_checksum_83 : decode cX7_checksum 83 = .ok (.getfield 37, 3) := by decide +kernel
theorem dX7_checksum_86 : decode cX7_checksum 86 = .ok (.getfield 93, 3) := by decide +kernel
theorem dX7_checksum_89 : decode cX7_checksum 89 = .ok (.if_icmp .ge 80, 3) := by decide +kernel
theorem dX7_checksum_92 : decode cX7_checksum 92 = .ok (.iconst 0, 1) := by decide +kernel
theorem dX7_checksum_93 : decode cX7_checksum 93 = .ok (.istore 4, 2) := by decide +kernel
theorem dX7_checksum_95 : decode cX7_checksum 95 = .ok (.iload 4, 2) := by decide +kernel
theorem dX7_checksum_97 : decode cX7_checksum 97 = .ok (.iconst 5, 1) := by decide +kernel
theorem dX7_checksum_98 : decode cX7_checksum 98 = .ok (.if_icmp .ge 24, 3) := by decide +kernel
theorem dX7_checksum_101 : decode cX7_checksum 101 = .ok (.ldc2_w 265, 3) := by decide +kernel
theorem dX7_checksum_104 : decode cX7_checksum 104 = .ok (.lload_n 1, 1) := by decide +kernel
theorem dX7_checksum_105 : decode cX7_checksum 105 = .ok (.lmul, 1) := by decide +kernel
theorem dX7_checksum_106 : decode cX7_checksum 106 = .ok (.aload_n 0, 1) := by decide +kernel
theorem dX7_checksum_107 : decode cX7_checksum 107 = .ok (.iload_n 3, 1) := by decide +kernel
theorem dX7_checksum_108 : decode cX7_checksum 108 = .ok (.iload 4, 2) := by decide +kernel
theorem dX7_checksum_110 : decode cX7_checksum 110 = .ok (.invokevirtual 272, 3) := by decide +kernel
theorem dX7_checksum_113 : decode cX7_checksum 113 = .ok (.i2l, 1) := by decide +kernel
theorem dX7_checksum_114 : decode cX7_checksum 114 = .ok (.ladd, 1) := by decide +kernel
theorem dX7_checksum_115 : decode cX7_checksum 115 = .ok (.lstore_n 1, 1) := by decide +kernel
theorem dX7_checksum_116 : decode cX7_checksum 116 = .ok (.iinc 4 1, 3) := by decide +kernel
theorem dX7_checksum_119 : decode cX7_checksum 119 = .ok (.goto (-24), 3) := by decide +kernel
theorem dX7_checksum_122 : decode cX7_checksum 122 = .ok (.iconst 0, 1) := by decide +kernel
theorem dX7_checksum_123 : decode cX7_checksum 123 = .ok (.istore 4, 2) := by decide +kernel
theorem dX7_checksum_125 : decode cX7_checksum 125 = .ok (.iload 4, 2) := by decide +kernel
theorem dX7_checksum_127 : decode cX7_checksum 127 = .ok (.aload_n 0, 1) := by decide +kernel
theorem dX7_checksum_128 : decode cX7_checksum 128 = .ok (.getfield 37, 3) := by decide +kernel
theorem dX7_checksum_131 : decode cX7_checksum 131 = .ok (.getfield 159, 3) := by decide +kernel
theorem dX7_checksum_134 : decode cX7_checksum 134 = .ok (.iload_n 3, 1) := by decide +kernel
theorem dX7_checksum_135 : decode cX7_checksum 135 = .ok (.aaload, 1) := by decide +kernel
theorem dX7_checksum_136 : decode cX7_checksum 136 = .ok (.getfield 172, 3) := by decide +kernel
theorem dX7_checksum_139 : decode cX7_checksum 139 = .ok (.if_icmp .ge 24, 3) := by decide +kernel
theorem dX7_checksum_142 : decode cX7_checksum 142 = .ok (.ldc2_w 265, 3) := by decide +kernel
theorem dX7_checksum_145 : decode cX7_checksum 145 = .ok (.lload_n 1, 1) := by decide +kernel
theorem dX7_checksum_146 : decode cX7_checksum 146 = .ok (.lmul, 1) := by decide +kernel
theorem dX7_checksum_147 : decode cX7_checksum 147 = .ok (.aload_n 0, 1) := by decide +kernel
theorem dX7_checksum_148 : decode cX7_checksum 148 = .ok (.iload_n 3, 1) := by decide +kernel
theorem dX7_checksum_149 : decode cX7_checksum 149 = .ok (.iload 4, 2) := by decide +kernel
theorem dX7_checksum_151 : decode cX7_checksum 151 = .ok (.invokevirtual 274, 3) := by decide +kernel
theorem dX7_checksum_154 : decode cX7_checksum 154 = .ok (.i2l, 1) := by decide +kernel
theorem dX7_checksum_155 : decode cX7_checksum 155 = .ok (.ladd, 1) := by decide +kernel
theorem dX7_checksum_156 : decode cX7_checksum 156 = .ok (.lstore_n 1, 1) := by decide +kernel
theorem dX7_checksum_157 : decode cX7_checksum 157 = .ok (.iinc 4 1, 3) := by decide +kernel
theorem dX7_checksum_160 : decode cX7_checksum 160 = .ok (.goto (-35), 3) := by decide +kernel
theorem dX7_checksum_163 : decode cX7_checksum 163 = .ok (.iinc 3 1, 3) := by decide +kernel
theorem dX7_checksum_166 : decode cX7_checksum 166 = .ok (.goto (-85), 3) := by decide +kernel
theorem dX7_checksum_169 : decode cX7_checksum 169 = .ok (.iconst 0, 1) := by decide +kernel
theorem dX7_checksum_170 : decode cX7_checksum 170 = .ok (.istore_n 3, 1) := by decide +kernel
theorem dX7_checksum_171 : decode cX7_checksum 171 = .ok (.iload_n 3, 1) := by decide +kernel
theorem dX7_checksum_172 : decode cX7_checksum 172 = .ok (.aload_n 0, 1) := by decide +kernel
theorem dX7_checksum_173 : decode cX7_checksum 173 = .ok (.getfield 37, 3) := by decide +kernel
theorem dX7_checksum_176 : decode cX7_checksum 176 = .ok (.getfield 84, 3) := by decide +kernel
theorem dX7_checksum_179 : decode cX7_checksum 179 = .ok (.if_icmp .ge 40, 3) := by decide +kernel
theorem dX7_checksum_182 : decode cX7_checksum 182 = .ok (.iconst 0, 1) := by decide +kernel
theorem dX7_checksum_183 : decode cX7_checksum 183 = .ok (.istore 4, 2) := by decide +kernel
theorem dX7_checksum_185 : decode cX7_checksum 185 = .ok (.iload 4, 2) := by decide +kernel
theorem dX7_checksum_187 : decode cX7_checksum 187 = .ok (.bipush 7, 2) := by decide +kernel
theorem dX7_checksum_189 : decode cX7_checksum 189 = .ok (.if_icmp .ge 24, 3) := by decide +kernel
theorem dX7_checksum_192 : decode cX7_checksum 192 = .ok (.ldc2_w 265, 3) := by decide +kernel
theorem dX7_checksum_195 : decode cX7_checksum 195 = .ok (.lload_n 1, 1) := by decide +kernel
theorem dX7_checksum_196 : decode cX7_checksum 196 = .ok (.lmul, 1) := by decide +kernel
theorem dX7_checksum_197 : decode cX7_checksum 197 = .ok (.aload_n 0, 1) := by decide +kernel
theorem dX7_checksum_198 : decode cX7_checksum 198 = .ok (.iload_n 3, 1) := by decide +kernel
theorem dX7_checksum_199 : decode cX7_checksum 199 = .ok (.iload 4, 2) := by decide +kernel
theorem dX7_checksum_201 : decode cX7_checksum 201 = .ok (.invokevirtual 277, 3) := by decide +kernel
theorem dX7_checksum_204 : decode cX7_checksum 204 = .ok (.i2l, 1) := by decide +kernel
theorem dX7_checksum_205 : decode cX7_checksum 205 = .ok (.ladd, 1) := by decide +kernel
theorem dX7_checksum_206 : decode cX7_checksum 206 = .ok (.lstore_n 1, 1) := by decide +kernel
theorem dX7_checksum_207 : decode cX7_checksum 207 = .ok (.iinc 4 1, 3) := by decide +kernel
theorem dX7_checksum_210 : decode cX7_checksum 210 = .ok (.goto (-25), 3) := by decide +kernel
theorem dX7_checksum_213 : decode cX7_checksum 213 = .ok (.iinc 3 1, 3) := by decide +kernel
theorem dX7_checksum_216 : decode cX7_checksum 216 = .ok (.goto (-45), 3) := by decide +kernel
theorem dX7_checksum_219 : decode cX7_checksum 219 = .ok (.lload_n 1, 1) := by decide +kernel
theorem dX7_checksum_220 : decode cX7_checksum 220 = .ok (.lreturn, 1) := by decide +kernel
theorem dX8_init_0 : decode cX8_init 0 = .ok (.aload_n 0, 1) := by decide +kernel
theorem dX8_init_1 : decode cX8_init 1 = .ok (.invokespecial 1, 3) := by decide +kernel
theorem dX8_init_4 : decode cX8_init 4 = .ok (.aload_n 0, 1) := by decide +kernel
theorem dX8_init_5 : decode cX8_init 5 = .ok (.iconst 5, 1) := by decide +kernel
theorem dX8_init_6 : decode cX8_init 6 = .ok (.newarray .int, 2) := by decide +kernel
theorem dX8_init_8 : decode cX8_init 8 = .ok (.dup, 1) := by decide +kernel
theorem dX8_init_9 : decode cX8_init 9 = .ok (.iconst 0, 1) := by decide +kernel
theorem dX8_init_10 : decode cX8_init 10 = .ok (.iconst 5, 1) := by decide +kernel
theorem dX8_init_11 : decode cX8_init 11 = .ok (.iastore, 1) := by decide +kernel
theorem dX8_init_12 : decode cX8_init 12 = .ok (.dup, 1) := by decide +kernel
theorem dX8_init_13 : decode cX8_init 13 = .ok (.iconst 1, 1) := by decide +kernel
theorem dX8_init_14 : decode cX8_init 14 = .ok (.bipush 10, 2) := by decide +kernel
theorem dX8_init_16 : decode cX8_init 16 = .ok (.iastore, 1) := by decide +kernel
theorem dX8_init_17 : decode cX8_init 17 = .ok (.dup, 1) := by decide +kernel
theorem dX8_init_18 : decode cX8_init 18 = .ok (.iconst 2, 1) := by decide +kernel
theorem dX8_init_19 : decode cX8_init 19 = .ok (.bipush 10, 2) := by decide +kernel
theorem dX8_init_21 : decode cX8_init 21 = .ok (.iastore, 1) := by decide +kernel
theorem dX8_init_22 : decode cX8_init 22 = .ok (.dup, 1) := by decide +kernel
theorem dX8_init_23 : decode cX8_init 23 = .ok (.iconst 3, 1) := by decide +kernel
theorem dX8_init_24 : decode cX8_init 24 = .ok (.bipush 10, 2) := by decide +kernel
theorem dX8_init_26 : decode cX8_init 26 = .ok (.iastore, 1) := by decide +kernel
theorem dX8_init_27 : decode cX8_init 27 = .ok (.dup, 1) := by decide +kernel
theorem dX8_init_28 : decode cX8_init 28 = .ok (.iconst 4, 1) := by decide +kernel
theorem dX8_init_29 : decode cX8_init 29 = .ok (.iconst 1, 1) := by decide +kernel
theorem dX8_init_30 : decode cX8_init 30 = .ok (.iastore, 1) := by decide +kernel
theorem dX8_init_31 : decode cX8_init 31 = .ok (.putfield 7, 3) := by decide +kernel
theorem dX8_init_34 : decode cX8_init 34 = .ok (.aload_n 0, 1) := by decide +kernel
theorem dX8_init_35 : decode cX8_init 35 = .ok (.iconst 0, 1) := by decide +kernel
theorem dX8_init_36 : decode cX8_init 36 = .ok (.anewarray 13, 3) := by decide +kernel
theorem dX8_init_39 : decode cX8_init 39 = .ok (.putfield 14, 3) := by decide +kernel
theorem dX8_init_42 : decode cX8_init 42 = .ok (.aload_n 0, 1) := by decide +kernel
theorem dX8_init_43 : decode cX8_init 43 = .ok (.iconst 0, 1) := by decide +kernel
theorem dX8_init_44 : decode cX8_init 44 = .ok (.anewarray 13, 3) := by decide +kernel
theorem dX8_init_47 : decode cX8_init 47 = .ok (.putfield 18, 3) := by decide +kernel
theorem dX8_init_50 : decode cX8_init 50 = .ok (.aload_n 0, 1) := by decide +kernel
theorem dX8_init_51 : decode cX8_init 51 = .ok (.iconst 0, 1) := by decide +kernel
theorem dX8_init_52 : decode cX8_init 52 = .ok (.anewarray 13, 3) := by decide +kernel
theorem dX8_init_55 : decode cX8_init 55 = .ok (.putfield 21, 3) := by decide +kernel
theorem dX8_init_58 : decode cX8_init 58 = .ok (.aload_n 0, 1) := by decide +kernel
theorem dX8_init_59 : decode cX8_init 59 = .ok (.iconst 0, 1) := by decide +kernel
theorem dX8_init_60 : decode cX8_init 60 = .ok (.anewarray 13, 3) := by decide +kernel
theorem dX8_init_63 : decode cX8_init 63 = .ok (.putfield 24, 3) := by decide +kernel
theorem dX8_init_66 : decode cX8_init 66 = .ok (.return_, 1) := by decide +kernel
theorem dX8_copy_0 : decode cX8_copy 0 = .ok (.new 8, 3) := by decide +kernel
theorem dX8_copy_3 : decode cX8_copy 3 = .ok (.dup, 1) := by decide +kernel
theorem dX8_copy_4 : decode cX8_copy 4 = .ok (.invokespecial 27, 3) := by decide +kernel
theorem dX8_copy_7 : decode cX8_copy 7 = .ok (.astore_n 1, 1) := by decide +kernel
theorem dX8_copy_8 : decode cX8_copy 8 = .ok (.aload_n 1, 1) := by decide +kernel
theorem dX8_copy_9 : decode cX8_copy 9 = .ok (.aload_n 0, 1) := by decide +kernel
theorem dX8_copy_10 : decode cX8_copy 10 = .ok (.getfield 28, 3) := by decide +kernel
theorem dX8_copy_13 : decode cX8_copy 13 = .ok (.putfield 28, 3) := by decide +kernel
theorem dX8_copy_16 : decode cX8_copy 16 = .ok (.aload_n 1, 1) := by decide +kernel
theorem dX8_copy_17 : decode cX8_copy 17 = .ok (.aload_n 0, 1) := by decide +kernel
theorem dX8_copy_18 : decode cX8_copy 18 = .ok (.getfield 32, 3) := by decide +kernel
theorem dX8_copy_21 : decode cX8_copy 21 = .ok (.putfield 32, 3) := by decide +kernel
theorem dX8_copy_24 : decode cX8_copy 24 = .ok (.aload_n 1, 1) := by decide +kernel
theorem dX8_copy_25 : decode cX8_copy 25 = .ok (.aload_n 0, 1) := by decide +kernel
theorem dX8_copy_26 : decode cX8_copy 26 = .ok (.getfield 7, 3) := by decide +kernel
theorem dX8_copy_29 : decode cX8_copy 29 = .ok (.putfield 7, 3) := by decide +kernel
theorem dX8_copy_32 : decode cX8_copy 32 = .ok (.aload_n 1, 1) := by decide +kernel
theorem dX8_copy_33 : decode cX8_copy 33 = .ok (.aload_n 0, 1) := by decide +kernel
theorem dX8_copy_34 : decode cX8_copy 34 = .ok (.getfield 14, 3) := by decide +kernel
theorem dX8_copy_37 : decode cX8_copy 37 = .ok (.invokestatic 35, 3) := by decide +kernel
theorem dX8_copy_40 : decode cX8_copy 40 = .ok (.putfield 14, 3) := by decide +kernel
theorem dX8_copy_43 : decode cX8_copy 43 = .ok (.aload_n 1, 1) := by decide +kernel
theorem dX8_copy_44 : decode cX8_copy 44 = .ok (.aload_n 0, 1) := by decide +kernel
theorem dX8_copy_45 : decode cX8_copy 45 = .ok (.getfield 18, 3) := by decide +kernel
theorem dX8_copy_48 : decode cX8_copy 48 = .ok (.invokestatic 35, 3) := by decide +kernel
theorem dX8_copy_51 : decode cX8_copy 51 = .ok (.putfield 18, 3) := by decide +kernel
theorem dX8_copy_54 : decode cX8_copy 54 = .ok (.aload_n 1, 1) := by decide +kernel
theorem dX8_copy_55 : decode cX8_copy 55 = .ok (.aload_n 0, 1) := by decide +kernel
theorem dX8_copy_56 : decode cX8_copy 56 = .ok (.getfield 21, 3) := by decide +kernel
theorem dX8_copy_59 : decode cX8_copy 59 = .ok (.invokestatic 35, 3) := by decide +kernel
theorem dX8_copy_62 : decode cX8_copy 62 = .ok (.putfield 21, 3) := by decide +kernel
theorem dX8_copy_65 : decode cX8_copy 65 = .ok (.aload_n 1, 1) := by decide +kernel
theorem dX8_copy_66 : decode cX8_copy 66 = .ok (.aload_n 0, 1) := by decide +kernel
theorem dX8_copy_67 : decode cX8_copy 67 = .ok (.getfield 24, 3) := by decide +kernel
theorem dX8_copy_70 : decode cX8_copy 70 = .ok (.invokestatic 35, 3) := by decide +kernel
theorem dX8_copy_73 : decode cX8_copy 73 = .ok (.putfield 24, 3) := by decide +kernel
theorem dX8_copy_76 : decode cX8_copy 76 = .ok (.aload_n 1, 1) := by decide +kernel
theorem dX8_copy_77 : decode cX8_copy 77 = .ok (.aload_n 0, 1) := by decide +kernel
theorem dX8_copy_78 : decode cX8_copy 78 = .ok (.getfield 41, 3) := by decide +kernel
theorem dX8_copy_81 : decode cX8_copy 81 = .ok (.putfield 41, 3) := by decide +kernel
theorem dX8_copy_84 : decode cX8_copy 84 = .ok (.aload_n 1, 1) := by decide +kernel
theorem dX8_copy_85 : decode cX8_copy 85 = .ok (.areturn, 1) := by decide +kernel
theorem dX8_held_0 : decode cX8_held 0 = .ok (.iconst 0, 1) := by decide +kernel
theorem dX8_held_1 : decode cX8_held 1 = .ok (.istore_n 2, 1) := by decide +kernel
theorem dX8_held_2 : decode cX8_held 2 = .ok (.aload_n 0, 1) := by decide +kernel
theorem dX8_held_3 : decode cX8_held 3 = .ok (.getfield 24, 3) := by decide +kernel
theorem dX8_held_6 : decode cX8_held 6 = .ok (.astore_n 3, 1) := by decide +kernel
theorem dX8_held_7 : decode cX8_held 7 = .ok (.aload_n 3, 1) := by decide +kernel
theorem dX8_held_8 : decode cX8_held 8 = .ok (.arraylength, 1) := by decide +kernel
theorem dX8_held_9 : decode cX8_held 9 = .ok (.istore 4, 2) := by decide +kernel
theorem dX8_held_11 : decode cX8_held 11 = .ok (.iconst 0, 1) := by decide +kernel
theorem dX8_held_12 : decode cX8_held 12 = .ok (.istore 5, 2) := by decide +kernel
theorem dX8_held_14 : decode cX8_held 14 = .ok (.iload 5, 2) := by decide +kernel
theorem dX8_held_16 : decode cX8_held 16 = .ok (.iload 4, 2) := by decide +kernel
theorem dX8_held_18 : decode cX8_held 18 = .ok (.if_icmp .ge 34, 3) := by decide +kernel
theorem dX8_held_21 : decode cX8_held 21 = .ok (.aload_n 3, 1) := by decide +kernel
theorem dX8_held_22 : decode cX8_held 22 = .ok (.iload 5, 2) := by decide +kernel
theorem dX8_held_24 : decode cX8_held 24 = .ok (.aaload, 1) := by decide +kernel
theorem dX8_held_25 : decode cX8_held 25 = .ok (.astore 6, 2) := by decide +kernel
theorem dX8_held_27 : decode cX8_held 27 = .ok (.aload 6, 2) := by decide +kernel
theorem dX8_held_29 : decode cX8_held 29 = .ok (.iconst 3, 1) := by decide +kernel
theorem dX8_held_30 : decode cX8_held 30 = .ok (.iaload, 1) := by decide +kernel
theorem dX8_held_31 : decode cX8_held 31 = .ok (.iconst 1, 1) := by decide +kernel
theorem dX8_held_32 : decode cX8_held 32 = .ok (.if_icmp .ne 14, 3) := by decide +kernel
theorem dX8_held_35 : decode cX8_held 35 = .ok (.aload 6, 2) := by decide +kernel
theorem dX8_held_37 : decode cX8_held 37 = .ok (.iconst 4, 1) := by decide +kernel
theorem dX8_held_38 : decode cX8_held 38 = .ok (.iaload, 1) := by decide +kernel
theorem dX8_held_39 : decode cX8_held 39 = .ok (.iload_n 1, 1) := by decide +kernel
theorem dX8_held_40 : decode cX8_held 40 = .ok (.if_icmp .ne 6, 3) := by decide +kernel
theorem dX8_held_43 : decode cX8_held 43 = .ok (.iinc 2 1, 3) := by decide +kernel
theorem dX8_held_46 : decode cX8_held 46 = .ok (.iinc 5 1, 3) := by decide +kernel
theorem dX8_held_49 : decode cX8_held 49 = .ok (.goto (-35), 3) := by decide +kernel
theorem dX8_held_52 : decode cX8_held 52 = .ok (.iload_n 2, 1) := by decide +kernel
theorem dX8_held_53 : decode cX8_held 53 = .ok (.ireturn, 1) := by decide +kernel
theorem dX8_assign_0 : decode cX8_assign 0 = .ok (.aload_n 1, 1) := by decide +kernel
theorem dX8_assign_1 : decode cX8_assign 1 = .ok (.iconst 4, 1) := by decide +kernel
theorem dX8_assign_2 : decode cX8_assign 2 = .ok (.iconst (-1), 1) := by decide +kernel
theorem dX8_assign_3 : decode cX8_assign 3 = .ok (.iastore, 1) := by decide +kernel
theorem dX8_assign_4 : decode cX8_assign 4 = .ok (.iconst (-1), 1) := by decide +kernel
theorem dX8_assign_5 : decode cX8_assign 5 = .ok (.istore_n 2, 1) := by decide +kernel
theorem dX8_assign_6 : decode cX8_assign 6 = .ok (.aload_n 0, 1) := by decide +kernel
theorem dX8_assign_7 : decode cX8_assign 7 = .ok (.getfield 21, 3) := by decide +kernel
theorem dX8_assign_10 : decode cX8_assign 10 = .ok (.aload_n 1, 1) := by decide +kernel
theorem dX8_assign_11 : decode cX8_assign 11 = .ok (.iconst 0, 1) := by decide +kernel
theorem dX8_assign_12 : decode cX8_assign 12 = .ok (.iaload, 1) := by decide +kernel
theorem dX8_assign_13 : decode cX8_assign 13 = .ok (.aaload, 1) := by decide +kernel
theorem dX8_assign_14 : decode cX8_assign 14 = .ok (.astore_n 3, 1) := by decide +kernel
theorem dX8_assign_15 : decode cX8_assign 15 = .ok (.aload_n 3, 1) := by decide +kernel
theorem dX8_assign_16 : decode cX8_assign 16 = .ok (.arraylength, 1) := by decide +kernel
theorem dX8_assign_17 : decode cX8_assign 17 = .ok (.istore 4, 2) := by decide +kernel
theorem dX8_assign_19 : decode cX8_assign 19 = .ok (.iconst 0, 1) := by decide +kernel
theorem dX8_assign_20 : decode cX8_assign 20 = .ok (.istore 5, 2) := by decide +kernel
theorem dX8_assign_22 : decode cX8_assign 22 = .ok (.iload 5, 2) := by decide +kernel
theorem dX8_assign_24 : decode cX8_assign 24 = .ok (.iload 4, 2) := by decide +kernel
theorem dX8_assign_26 : decode cX8_assign 26 = .ok (.if_icmp .ge 36, 3) := by decide +kernel
theorem dX8_assign_29 : decode cX8_assign 29 = .ok (.aload_n 3, 1) := by decide +kernel
theorem dX8_assign_30 : decode cX8_assign 30 = .ok (.iload 5, 2) := by decide +kernel
theorem dX8_assign_32 : decode cX8_assign 32 = .ok (.iaload, 1) := by decide +kernel
theorem dX8_assign_33 : decode cX8_assign 33 = .ok (.istore 6, 2) := by decide +kernel
theorem dX8_assign_35 : decode cX8_assign 35 = .ok (.iload_n 2, 1) := by decide +kernel
theorem dX8_assign_36 : decode cX8_assign 36 = .ok (.ifCond .lt 17, 3) := by decide +kernel
theorem dX8_assign_39 : decode cX8_assign 39 = .ok (.aload_n 0, 1) := by decide +kernel
theorem dX8_assign_40 : decode cX8_assign 40 = .ok (.iload 6, 2) := by decide +kernel
theorem dX8_assign_42 : decode cX8_assign 42 = .ok (.invokevirtual 45, 3) := by decide +kernel
theorem dX8_assign_45 : decode cX8_assign 45 = .ok (.aload_n 0, 1) := by decide +kernel
theorem dX8_assign_46 : decode cX8_assign 46 = .ok (.iload_n 2, 1) := by decide +kernel
theorem dX8_assign_47 : decode cX8_assign 47 = .ok (.invokevirtual 45, 3) := by decide +kernel
theorem dX8_assign_50 : decode cX8_assign 50 = .ok (.if_icmp .ge 6, 3) := by decide +kernel
theorem dX8_assign_53 : decode cX8_assign 53 = .ok (.iload 6, 2) := by decide +kernel
theorem dX8_assign_55 : decode cX8_assign 55 = .ok (.istore_n 2, 1) := by decide +kernel
theorem dX8_assign_56 : decode cX8_assign 56 = .ok (.iinc 5 1, 3) := by decide +kernel
theorem dX8_assign_59 : decode cX8_assign 59 = .ok (.goto (-37), 3) := by decide +kernel
theorem dX8_assign_62 : decode cX8_assign 62 = .ok (.aload_n 1, 1) := by decide +kernel
theorem dX8_assign_63 : decode cX8_assign 63 = .ok (.iconst 4, 1) := by decide +kernel
theorem dX8_assign_64 : decode cX8_assign 64 = .ok (.iload_n 2, 1) := by decide +kernel
theorem dX8_assign_65 : decode cX8_assign 65 = .ok (.iastore, 1) := by decide +kernel
theorem dX8_assign_66 : decode cX8_assign 66 = .ok (.aload_n 1, 1) := by decide +kernel
theorem dX8_assign_67 : decode cX8_assign 67 = .ok (.bipush 7, 2) := by decide +kernel
theorem dX8_assign_69 : decode cX8_assign 69 = .ok (.aload_n 0, 1) := by decide +kernel
theorem dX8_assign_70 : decode cX8_assign 70 = .ok (.getfield 28, 3) := by decide +kernel
theorem dX8_assign_73 : decode cX8_assign 73 = .ok (.iastore, 1) := by decide +kernel
theorem dX8_assign_74 : decode cX8_assign 74 = .ok (.return_, 1) := by decide +kernel
theorem dX8_raised_0 : decode cX8_raised 0 = .ok (.iconst 0, 1) := by decide +kernel
theorem dX8_raised_1 : decode cX8_raised 1 = .ok (.istore_n 2, 1) := by decide +kernel
theorem dX8_raised_2 : decode cX8_raised 2 = .ok (.aload_n 0, 1) := by decide +kernel
theorem dX8_raised_3 : decode cX8_raised 3 = .ok (.getfield 24, 3) := by decide +kernel
theorem dX8_raised_6 : decode cX8_raised 6 = .ok (.astore_n 3, 1) := by decide +kernel
theorem dX8_raised_7 : decode cX8_raised 7 = .ok (.aload_n 3, 1) := by decide +kernel
theorem dX8_raised_8 : decode cX8_raised 8 = .ok (.arraylength, 1) := by decide +kernel
theorem dX8_raised_9 : decode cX8_raised 9 = .ok (.istore 4, 2) := by decide +kernel
theorem dX8_raised_11 : decode cX8_raised 11 = .ok (.iconst 0, 1) := by decide +kernel
theorem dX8_raised_12 : decode cX8_raised 12 = .ok (.istore 5, 2) := by decide +kernel
theorem dX8_raised_14 : decode cX8_raised 14 = .ok (.iload 5, 2) := by decide +kernel
theorem dX8_raised_16 : decode cX8_raised 16 = .ok (.iload 4, 2) := by decide +kernel
theorem dX8_raised_18 : decode cX8_raised 18 = .ok (.if_icmp .ge 51, 3) := by decide +kernel
theorem dX8_raised_21 : decode cX8_raised 21 = .ok (.aload_n 3, 1) := by decide +kernel
theorem dX8_raised_22 : decode cX8_raised 22 = .ok (.iload 5, 2) := by decide +kernel
theorem dX8_raised_24 : decode cX8_raised 24 = .ok (.aaload, 1) := by decide +kernel
theorem dX8_raised_25 : decode cX8_raised 25 = .ok (.astore 6, 2) := by decide +kernel
theorem dX8_raised_27 : decode cX8_raised 27 = .ok (.aload 6, 2) := by decide +kernel
theorem dX8_raised_29 : decode cX8_raised 29 = .ok (.iconst 0, 1) := by decide +kernel
theorem dX8_raised_30 : decode cX8_raised 30 = .ok (.iaload, 1) := by decide +kernel
theorem dX8_raised_31 : decode cX8_raised 31 = .ok (.iload_n 1, 1) := by decide +kernel
theorem dX8_raised_32 : decode cX8_raised 32 = .ok (.if_icmp .ne 31, 3) := by decide +kernel
theorem dX8_raised_35 : decode cX8_raised 35 = .ok (.aload 6, 2) := by decide +kernel
theorem dX8_raised_37 : decode cX8_raised 37 = .ok (.iconst 3, 1) := by decide +kernel
theorem dX8_raised_38 : decode cX8_raised 38 = .ok (.iaload, 1) := by decide +kernel
theorem dX8_raised_39 : decode cX8_raised 39 = .ok (.ifCond .le 24, 3) := by decide +kernel
theorem dX8_raised_42 : decode cX8_raised 42 = .ok (.aload 6, 2) := by decide +kernel
theorem dX8_raised_44 : decode cX8_raised 44 = .ok (.iconst 1, 1) := by decide +kernel
theorem dX8_raised_45 : decode cX8_raised 45 = .ok (.iaload, 1) := by decide +kernel
theorem dX8_raised_46 : decode cX8_raised 46 = .ok (.aload_n 0, 1) := by decide +kernel
theorem dX8_raised_47 : decode cX8_raised 47 = .ok (.getfield 28, 3) := by decide +kernel
theorem dX8_raised_50 : decode cX8_raised 50 = .ok (.aload_n 0, 1) := by decide +kernel
theorem dX8_raised_51 : decode cX8_raised 51 = .ok (.getfield 7, 3) := by decide +kernel
theorem dX8_raised_54 : decode cX8_raised 54 = .ok (.iconst 1, 1) := by decide +kernel
theorem dX8_raised_55 : decode cX8_raised 55 = .ok (.iaload, 1) := by decide +kernel
theorem dX8_raised_56 : decode cX8_raised 56 = .ok (.isub, 1) := by decide +kernel
theorem dX8_raised_57 : decode cX8_raised 57 = .ok (.if_icmp .le 6, 3) := by decide +kernel
theorem dX8_raised_60 : decode cX8_raised 60 = .ok (.iinc 2 1, 3) := by decide +kernel
theorem dX8_raised_63 : decode cX8_raised 63 = .ok (.iinc 5 1, 3) := by decide +kernel
theorem dX8_raised_66 : decode cX8_raised 66 = .ok (.goto (-52), 3) := by decide +kernel
theorem dX8_raised_69 : decode cX8_raised 69 = .ok (.iload_n 2, 1) := by decide +kernel
theorem dX8_raised_70 : decode cX8_raised 70 = .ok (.ireturn, 1) := by decide +kernel
theorem dX8_raises_0 : decode cX8_raises 0 = .ok (.aload_n 0, 1) := by decide +kernel
theorem dX8_raises_1 : decode cX8_raises 1 = .ok (.getfield 18, 3) := by decide +kernel
theorem dX8_raises_4 : decode cX8_raises 4 = .ok (.aload_n 1, 1) := by decide +kernel
theorem dX8_raises_5 : decode cX8_raises 5 = .ok (.iconst 0, 1) := by decide +kernel
theorem dX8_raises_6 : decode cX8_raises 6 = .ok (.iaload, 1) := by decide +kernel
theorem dX8_raises_7 : decode cX8_raises 7 = .ok (.aaload, 1) := by decide +kernel
theorem dX8_raises_8 : decode cX8_raises 8 = .ok (.astore_n 2, 1) := by decide +kernel
theorem dX8_raises_9 : decode cX8_raises 9 = .ok (.aload_n 0, 1) := by decide +kernel
theorem dX8_raises_10 : decode cX8_raises 10 = .ok (.aload_n 1, 1) := by decide +kernel
theorem dX8_raises_11 : decode cX8_raises 11 = .ok (.iconst 0, 1) := by decide +kernel
theorem dX8_raises_12 : decode cX8_raises 12 = .ok (.iaload, 1) := by decide +kernel
theorem dX8_raises_13 : decode cX8_raises 13 = .ok (.invokevirtual 49, 3) := by decide +kernel
theorem dX8_raises_16 : decode cX8_raises 16 = .ok (.aload_n 2, 1) := by decide +kernel
theorem dX8_raises_17 : decode cX8_raises 17 = .ok (.iconst 1, 1) := by decide +kernel
theorem dX8_raises_18 : decode cX8_raises 18 = .ok (.iaload, 1) := by decide +kernel
theorem dX8_raises_19 : decode cX8_raises 19 = .ok (.if_icmp .lt 46, 3) := by decide +kernel
theorem dX8_raises_22 : decode cX8_raises 22 = .ok (.aload_n 0, 1) := by decide +kernel
theorem dX8_raises_23 : decode cX8_raises 23 = .ok (.getfield 7, 3) := by decide +kernel
theorem dX8_raises_26 : decode cX8_raises 26 = .ok (.iconst 2, 1) := by decide +kernel
theorem dX8_raises_27 : decode cX8_raises 27 = .ok (.iaload, 1) := by decide +kernel
theorem dX8_raises_28 : decode cX8_raises 28 = .ok (.aload_n 2, 1) := by decide +kernel
theorem dX8_raises_29 : decode cX8_raises 29 = .ok (.iconst 2, 1) := by decide +kernel
theorem dX8_raises_30 : decode cX8_raises 30 = .ok (.iaload, 1) := by decide +kernel
theorem dX8_raises_31 : decode cX8_raises 31 = .ok (.invokestatic 52, 3) := by decide +kernel
theorem dX8_raises_34 : decode cX8_raises 34 = .ok (.istore_n 3, 1) := by decide +kernel
theorem dX8_raises_35 : decode cX8_raises 35 = .ok (.aload_n 2, 1) := by decide +kernel
theorem dX8_raises_36 : decode cX8_raises 36 = .ok (.iconst 2, 1) := by decide +kernel
theorem dX8_raises_37 : decode cX8_raises 37 = .ok (.dup2, 1) := by decide +kernel
theorem dX8_raises_38 : decode cX8_raises 38 = .ok (.iaload, 1) := by decide +kernel
theorem dX8_raises_39 : decode cX8_raises 39 = .ok (.iload_n 3, 1) := by decide +kernel
theorem dX8_raises_40 : decode cX8_raises 40 = .ok (.isub, 1) := by decide +kernel
theorem dX8_raises_41 : decode cX8_raises 41 = .ok (.iastore, 1) := by decide +kernel
theorem dX8_raises_42 : decode cX8_raises 42 = .ok (.aload_n 0, 1) := by decide +kernel
theorem dX8_raises_43 : decode cX8_raises 43 = .ok (.dup, 1) := by decide +kernel
theorem dX8_raises_44 : decode cX8_raises 44 = .ok (.getfield 32, 3) := by decide +kernel
theorem dX8_raises_47 : decode cX8_raises 47 = .ok (.iload_n 3, 1) := by decide +kernel
theorem dX8_raises_48 : decode cX8_raises 48 = .ok (.iadd, 1) := by decide +kernel
theorem dX8_raises_49 : decode cX8_raises 49 = .ok (.putfield 32, 3) := by decide +kernel
theorem dX8_raises_52 : decode cX8_raises 52 = .ok (.aload_n 1, 1) := by decide +kernel
theorem dX8_raises_53 : decode cX8_raises 53 = .ok (.iconst 3, 1) := by decide +kernel
theorem dX8_raises_54 : decode cX8_raises 54 = .ok (.iconst 3, 1) := by decide +kernel
theorem dX8_raises_55 : decode cX8_raises 55 = .ok (.iastore, 1) := by decide +kernel
theorem dX8_raises_56 : decode cX8_raises 56 = .ok (.aload_n 1, 1) := by decide +kernel
theorem dX8_raises_57 : decode cX8_raises 57 = .ok (.bipush 6, 2) := by decide +kernel
theorem dX8_raises_59 : decode cX8_raises 59 = .ok (.aload_n 0, 1) := by decide +kernel
theorem dX8_raises_60 : decode cX8_raises 60 = .ok (.getfield 28, 3) := by decide +kernel
theorem dX8_raises_63 : decode cX8_raises 63 = .ok (.iastore, 1) := by decide +kernel
theorem dX8_raises_64 : decode cX8_raises 64 = .ok (.return_, 1) := by decide +kernel
theorem dX8_raises_65 : decode cX8_raises 65 = .ok (.aload_n 1, 1) := by decide +kernel
theorem dX8_raises_66 : decode cX8_raises 66 = .ok (.iconst 3, 1) := by decide +kernel
theorem dX8_raises_67 : decode cX8_raises 67 = .ok (.iconst 1, 1) := by decide +kernel
theorem dX8_raises_68 : decode cX8_raises 68 = .ok (.iastore, 1) := by decide +kernel
theorem dX8_raises_69 : decode cX8_raises 69 = .ok (.aload_n 1, 1) := by decide +kernel
theorem dX8_raises_70 : decode cX8_raises 70 = .ok (.iconst 5, 1) := by decide +kernel
theorem dX8_raises_71 : decode cX8_raises 71 = .ok (.aload_n 1, 1) := by decide +kernel
theorem dX8_raises_72 : decode cX8_raises 72 = .ok (.iconst 2, 1) := by decide +kernel
theorem dX8_raises_73 : decode cX8_raises 73 = .ok (.iaload, 1) := by decide +kernel
theorem dX8_raises_74 : decode cX8_raises 74 = .ok (.iastore, 1) := by decide +kernel
theorem dX8_raises_75 : decode cX8_raises 75 = .ok (.aload_n 0, 1) := by decide +kernel
theorem dX8_raises_76 : decode cX8_raises 76 = .ok (.aload_n 1, 1) := by decide +kernel
theorem dX8_raises_77 : decode cX8_raises 77 = .ok (.invokevirtual 58, 3) := by decide +kernel
theorem dX8_raises_80 : decode cX8_raises 80 = .ok (.return_, 1) := by decide +kernel
theorem dX8_pays_0 : decode cX8_pays 0 = .ok (.iload_n 2, 1) := by decide +kernel
theorem dX8_pays_1 : decode cX8_pays 1 = .ok (.aload_n 0, 1) := by decide +kernel
theorem dX8_pays_2 : decode cX8_pays 2 = .ok (.getfield 14, 3) := by decide +kernel
theorem dX8_pays_5 : decode cX8_pays 5 = .ok (.iload_n 1, 1) := by decide +kernel
theorem dX8_pays_6 : decode cX8_pays 6 = .ok (.aaload, 1) := by decide +kernel
theorem dX8_pays_7 : decode cX8_pays 7 = .ok (.iconst 0, 1) := by decide +kernel
theorem dX8_pays_8 : decode cX8_pays 8 = .ok (.iaload, 1) := by decide +kernel
theorem dX8_pays_9 : decode cX8_pays 9 = .ok (.invokestatic 52, 3) := by decide +kernel
theorem dX8_pays_12 : decode cX8_pays 12 = .ok (.istore_n 3, 1) := by decide +kernel
theorem dX8_pays_13 : decode cX8_pays 13 = .ok (.aload_n 0, 1) := by decide +kernel
theorem dX8_pays_14 : decode cX8_pays 14 = .ok (.getfield 14, 3) := by decide +kernel
theorem dX8_pays_17 : decode cX8_pays 17 = .ok (.iload_n 1, 1) := by decide +kernel
theorem dX8_pays_18 : decode cX8_pays 18 = .ok (.aaload, 1) := by decide +kernel
theorem dX8_pays_19 : decode cX8_pays 19 = .ok (.iconst 0, 1) := by decide +kernel
theorem dX8_pays_20 : decode cX8_pays 20 = .ok (.dup2, 1) := by decide +kernel
theorem dX8_pays_21 : decode cX8_pays 21 = .ok (.iaload, 1) := by decide +kernel
theorem dX8_pays_22 : decode cX8_pays 22 = .ok (.iload_n 3, 1) := by decide +kernel
theorem dX8_pays_23 : decode cX8_pays 23 = .ok (.isub, 1) := by decide +kernel
theorem dX8_pays_24 : decode cX8_pays 24 = .ok (.iastore, 1) := by decide +kernel
theorem dX8_pays_25 : decode cX8_pays 25 = .ok (.iload_n 3, 1) := by decide +kernel
theorem dX8_pays_26 : decode cX8_pays 26 = .ok (.iload_n 2, 1) := by decide +kernel
theorem dX8_pays_27 : decode cX8_pays 27 = .ok (.if_icmp .ge 129, 3) := by decide +kernel
theorem dX8_pays_30 : decode cX8_pays 30 = .ok (.aload_n 0, 1) := by decide +kernel
theorem dX8_pays_31 : decode cX8_pays 31 = .ok (.getfield 14, 3) := by decide +kernel
theorem dX8_pays_34 : decode cX8_pays 34 = .ok (.iload_n 1, 1) := by decide +kernel
theorem dX8_pays_35 : decode cX8_pays 35 = .ok (.aaload, 1) := by decide +kernel
theorem dX8_pays_36 : decode cX8_pays 36 = .ok (.iconst 2, 1) := by decide +kernel
theorem dX8_pays_37 : decode cX8_pays 37 = .ok (.iconst 1, 1) := by decide +kernel
theorem dX8_pays_38 : decode cX8_pays 38 = .ok (.iastore, 1) := by decide +kernel
theorem dX8_pays_39 : decode cX8_pays 39 = .ok (.iconst 0, 1) := by decide +kernel
theorem dX8_pays_40 : decode cX8_pays 40 = .ok (.istore 4, 2) := by decide +kernel
theorem dX8_pays_42 : decode cX8_pays 42 = .ok (.iload 4, 2) := by decide +kernel
theorem dX8_pays_44 : decode cX8_pays 44 = .ok (.aload_n 0, 1) := by decide +kernel
theorem dX8_pays_45 : decode cX8_pays 45 = .ok (.getfield 18, 3) := by decide +kernel
theorem dX8_pays_48 : decode cX8_pays 48 = .ok (.arraylength, 1) := by decide +kernel
theorem dX8_pays_49 : decode cX8_pays 49 = .ok (.if_icmp .ge 51, 3) := by decide +kernel
theorem dX8_pays_52 : decode cX8_pays 52 = .ok (.aload_n 0, 1) := by decide +kernel
theorem dX8_pays_53 : decode cX8_pays 53 = .ok (.getfield 21, 3) := by decide +kernel
theorem dX8_pays_56 : decode cX8_pays 56 = .ok (.iload 4, 2) := by decide +kernel
theorem dX8_pays_58 : decode cX8_pays 58 = .ok (.aaload, 1) := by decide +kernel
theorem dX8_pays_59 : decode cX8_pays 59 = .ok (.iload_n 1, 1) := by decide +kernel
theorem dX8_pays_60 : decode cX8_pays 60 = .ok (.invokestatic 62, 3) := by decide +kernel
theorem dX8_pays_63 : decode cX8_pays 63 = .ok (.ifCond .lt 31, 3) := by decide +kernel
theorem dX8_pays_66 : decode cX8_pays 66 = .ok (.aload_n 0, 1) := by decide +kernel
theorem dX8_pays_67 : decode cX8_pays 67 = .ok (.getfield 21, 3) := by decide +kernel
theorem dX8_pays_70 : decode cX8_pays 70 = .ok (.iload 4, 2) := by decide +kernel
theorem dX8_pays_72 : decode cX8_pays 72 = .ok (.aload_n 0, 1) := by decide +kernel
theorem dX8_pays_73 : decode cX8_pays 73 = .ok (.getfield 21, 3) := by decide +kernel
theorem dX8_pays_76 : decode cX8_pays 76 = .ok (.iload 4, 2) := by decide +kernel
theorem dX8_pays_78 : decode cX8_pays 78 = .ok (.aaload, 1) := by decide +kernel
theorem dX8_pays_79 : decode cX8_pays 79 = .ok (.aload_n 0, 1) := by decide +kernel
theorem dX8_pays_80 : decode cX8_pays 80 = .ok (.getfield 21, 3) := by decide +kernel
theorem dX8_pays_83 : decode cX8_pays 83 = .ok (.iload 4, 2) := by decide +kernel
theorem dX8_pays_85 : decode cX8_pays 85 = .ok (.aaload, 1) := by decide +kernel
theorem dX8_pays_86 : decode cX8_pays 86 = .ok (.iload_n 1, 1) := by decide +kernel
theorem dX8_pays_87 : decode cX8_pays 87 = .ok (.invokestatic 62, 3) := by decide +kernel
theorem dX8_pays_90 : decode cX8_pays 90 = .ok (.invokestatic 66, 3) := by decide +kernel
theorem dX8_pays_93 : decode cX8_pays 93 = .ok (.aastore, 1) := by decide +kernel
theorem dX8_pays_94 : decode cX8_pays 94 = .ok (.iinc 4 1, 3) := by decide +kernel
theorem dX8_pays_97 : decode cX8_pays 97 = .ok (.goto (-55), 3) := by decide +kernel
theorem dX8_pays_100 : decode cX8_pays 100 = .ok (.aload_n 0, 1) := by decide +kernel
theorem dX8_pays_101 : decode cX8_pays 101 = .ok (.getfield 24, 3) := by decide +kernel
theorem dX8_pays_104 : decode cX8_pays 104 = .ok (.astore 4, 2) := by decide +kernel
theorem dX8_pays_106 : decode cX8_pays 106 = .ok (.aload 4, 2) := by decide +kernel
theorem dX8_pays_108 : decode cX8_pays 108 = .ok (.arraylength, 1) := by decide +kernel
theorem dX8_pays_109 : decode cX8_pays 109 = .ok (.istore 5, 2) := by decide +kernel
theorem dX8_pays_111 : decode cX8_pays 111 = .ok (.iconst 0, 1) := by decide +kernel
theorem dX8_pays_112 : decode cX8_pays 112 = .ok (.istore 6, 2) := by decide +kernel
theorem dX8_pays_114 : decode cX8_pays 114 = .ok (.iload 6, 2) := by decide +kernel
theorem dX8_pays_116 : decode cX8_pays 116 = .ok (.iload 5, 2) := by decide +kernel
theorem dX8_pays_118 : decode cX8_pays 118 = .ok (.if_icmp .ge 38, 3) := by decide +kernel
theorem dX8_pays_121 : decode cX8_pays 121 = .ok (.aload 4, 2) := by decide +kernel
theorem dX8_pays_123 : decode cX8_pays 123 = .ok (.iload 6, 2) := by decide +kernel
theorem dX8_pays_125 : decode cX8_pays 125 = .ok (.aaload, 1) := by decide +kernel
theorem dX8_pays_126 : decode cX8_pays 126 = .ok (.astore 7, 2) := by decide +kernel
theorem dX8_pays_128 : decode cX8_pays 128 = .ok (.aload 7, 2) := by decide +kernel
theorem dX8_pays_130 : decode cX8_pays 130 = .ok (.iconst 3, 1) := by decide +kernel
theorem dX8_pays_131 : decode cX8_pays 131 = .ok (.iaload, 1) := by decide +kernel
theorem dX8_pays_132 : decode cX8_pays 132 = .ok (.iconst 1, 1) := by decide +kernel
theorem dX8_pays_133 : decode cX8_pays 133 = .ok (.if_icmp .ne 17, 3) := by decide +kernel
theorem dX8_pays_136 : decode cX8_pays 136 = .ok (.aload 7, 2) := by decide +kernel
theorem dX8_pays_138 : decode cX8_pays 138 = .ok (.iconst 4, 1) := by decide +kernel
theorem dX8_pays_139 : decode cX8_pays 139 = .ok (.iaload, 1) := by decide +kernel
theorem dX8_pays_140 : decode cX8_pays 140 = .ok (.iload_n 1, 1) := by decide +kernel
theorem dX8_pays_141 : decode cX8_pays 141 = .ok (.if_icmp .ne 9, 3) := by decide +kernel
theorem dX8_pays_144 : decode cX8_pays 144 = .ok (.aload_n 0, 1) := by decide +kernel
theorem dX8_pays_145 : decode cX8_pays 145 = .ok (.aload 7, 2) := by decide +kernel
theorem dX8_pays_147 : decode cX8_pays 147 = .ok (.invokevirtual 58, 3) := by decide +kernel
theorem dX8_pays_150 : decode cX8_pays 150 = .ok (.iinc 6 1, 3) := by decide +kernel
theorem dX8_pays_153 : decode cX8_pays 153 = .ok (.goto (-39), 3) := by decide +kernel
theorem dX8_pays_156 : decode cX8_pays 156 = .ok (.iload_n 3, 1) := by decide +kernel
theorem dX8_pays_157 : decode cX8_pays 157 = .ok (.ireturn, 1) := by decide +kernel
theorem dX8_tick_0 : decode cX8_tick 0 = .ok (.aload_n 0, 1) := by decide +kernel
theorem dX8_tick_1 : decode cX8_tick 1 = .ok (.getfield 24, 3) := by decide +kernel
theorem dX8_tick_4 : decode cX8_tick 4 = .ok (.astore_n 1, 1) := by decide +kernel
theorem dX8_tick_5 : decode cX8_tick 5 = .ok (.aload_n 1, 1) := by decide +kernel
theorem dX8_tick_6 : decode cX8_tick 6 = .ok (.arraylength, 1) := by decide +kernel
theorem dX8_tick_7 : decode cX8_tick 7 = .ok (.istore_n 2, 1) := by decide +kernel
theorem dX8_tick_8 : decode cX8_tick 8 = .ok (.iconst 0, 1) := by decide +kernel
theorem dX8_tick_9 : decode cX8_tick 9 = .ok (.istore_n 3, 1) := by decide +kernel
theorem dX8_tick_10 : decode cX8_tick 10 = .ok (.iload_n 3, 1) := by decide +kernel
theorem dX8_tick_11 : decode cX8_tick 11 = .ok (.iload_n 2, 1) := by decide +kernel
theorem dX8_tick_12 : decode cX8_tick 12 = .ok (.if_icmp .ge 38, 3) := by decide +kernel
theorem dX8_tick_15 : decode cX8_tick 15 = .ok (.aload_n 1, 1) := by decide +kernel
theorem dX8_tick_16 : decode cX8_tick 16 = .ok (.iload_n 3, 1) := by decide +kernel
theorem dX8_tick_17 : decode cX8_tick 17 = .ok (.aaload, 1) := by decide +kernel
theorem dX8_tick_18 : decode cX8_tick 18 = .ok (.astore 4, 2) := by decide +kernel
theorem dX8_tick_20 : decode cX8_tick 20 = .ok (.aload 4, 2) := by decide +kernel
theorem dX8_tick_22 : decode cX8_tick 22 = .ok (.iconst 3, 1) := by decide +kernel
theorem dX8_tick_23 : decode cX8_tick 23 = .ok (.iaload, 1) := by decide +kernel
theorem dX8_tick_24 : decode cX8_tick 24 = .ok (.ifCond .ne 20, 3) := by decide +kernel
theorem dX8_tick_27 : decode cX8_tick 27 = .ok (.aload 4, 2) := by decide +kernel
theorem dX8_tick_29 : decode cX8_tick 29 = .ok (.iconst 1, 1) := by decide +kernel
theorem dX8_tick_30 : decode cX8_tick 30 = .ok (.iaload, 1) := by decide +kernel
theorem dX8_tick_31 : decode cX8_tick 31 = .ok (.aload_n 0, 1) := by decide +kernel
theorem dX8_tick_32 : decode cX8_tick 32 = .ok (.getfield 28, 3) := by decide +kernel
theorem dX8_tick_35 : decode cX8_tick 35 = .ok (.if_icmp .ne 9, 3) := by decide +kernel
theorem dX8_tick_38 : decode cX8_tick 38 = .ok (.aload_n 0, 1) := by decide +kernel
theorem dX8_tick_39 : decode cX8_tick 39 = .ok (.aload 4, 2) := by decide +kernel
theorem dX8_tick_41 : decode cX8_tick 41 = .ok (.invokevirtual 70, 3) := by decide +kernel
theorem dX8_tick_44 : decode cX8_tick 44 = .ok (.iinc 3 1, 3) := by decide +kernel
theorem dX8_tick_47 : decode cX8_tick 47 = .ok (.goto (-37), 3) := by decide +kernel
theorem dX8_tick_50 : decode cX8_tick 50 = .ok (.iconst 0, 1) := by decide +kernel
theorem dX8_tick_51 : decode cX8_tick 51 = .ok (.istore_n 1, 1) := by decide +kernel
theorem dX8_tick_52 : decode cX8_tick 52 = .ok (.iload_n 1, 1) := by decide +kernel
theorem dX8_tick_53 : decode cX8_tick 53 = .ok (.aload_n 0, 1) := by decide +kernel
theorem dX8_tick_54 : decode cX8_tick 54 = .ok (.getfield 14, 3) := by decide +kernel
theorem dX8_tick_57 : decode cX8_tick 57 = .ok (.arraylength, 1) := by decide +kernel
theorem dX8_tick_58 : decode cX8_tick 58 = .ok (.if_icmp .ge 197, 3) := by decide +kernel
theorem dX8_tick_61 : decode cX8_tick 61 = .ok (.aload_n 0, 1) := by decide +kernel
theorem dX8_tick_62 : decode cX8_tick 62 = .ok (.getfield 14, 3) := by decide +kernel
theorem dX8_tick_65 : decode cX8_tick 65 = .ok (.iload_n 1, 1) := by decide +kernel
theorem dX8_tick_66 : decode cX8_tick 66 = .ok (.aaload, 1) := by decide +kernel
theorem dX8_tick_67 : decode cX8_tick 67 = .ok (.iconst 1, 1) := by decide +kernel
theorem dX8_tick_68 : decode cX8_tick 68 = .ok (.iaload, 1) := by decide +kernel
theorem dX8_tick_69 : decode cX8_tick 69 = .ok (.istore_n 2, 1) := by decide +kernel
theorem dX8_tick_70 : decode cX8_tick 70 = .ok (.iconst 0, 1) := by decide +kernel
theorem dX8_tick_71 : decode cX8_tick 71 = .ok (.istore_n 3, 1) := by decide +kernel
theorem dX8_tick_72 : decode cX8_tick 72 = .ok (.iload_n 3, 1) := by decide +kernel
theorem dX8_tick_73 : decode cX8_tick 73 = .ok (.aload_n 0, 1) := by decide +kernel
theorem dX8_tick_74 : decode cX8_tick 74 = .ok (.getfield 24, 3) := by decide +kernel
theorem dX8_tick_77 : decode cX8_tick 77 = .ok (.arraylength, 1) := by decide +kernel
theorem dX8_tick_78 : decode cX8_tick 78 = .ok (.if_icmp .ge 171, 3) := by decide +kernel
theorem dX8_tick_81 : decode cX8_tick 81 = .ok (.iload_n 2, 1) := by decide +kernel
theorem dX8_tick_82 : decode cX8_tick 82 = .ok (.ifCond .le 167, 3) := by decide +kernel
theorem dX8_tick_85 : decode cX8_tick 85 = .ok (.aload_n 0, 1) := by decide +kernel
theorem dX8_tick_86 : decode cX8_tick 86 = .ok (.getfield 24, 3) := by decide +kernel
theorem dX8_tick_89 : decode cX8_tick 89 = .ok (.iload_n 3, 1) := by decide +kernel
theorem dX8_tick_90 : decode cX8_tick 90 = .ok (.aaload, 1) := by decide +kernel
theorem dX8_tick_91 : decode cX8_tick 91 = .ok (.astore 4, 2) := by decide +kernel
theorem dX8_tick_93 : decode cX8_tick 93 = .ok (.aload 4, 2) := by decide +kernel
theorem dX8_tick_95 : decode cX8_tick 95 = .ok (.iconst 3, 1) := by decide +kernel
theorem dX8_tick_96 : decode cX8_tick 96 = .ok (.iaload, 1) := by decide +kernel
theorem dX8_tick_97 : decode cX8_tick 97 = .ok (.iconst 1, 1) := by decide +kernel
theorem dX8_tick_98 : decode cX8_tick 98 = .ok (.if_icmp .ne 145, 3) := by decide +kernel
theorem dX8_tick_101 : decode cX8_tick 101 = .ok (.aload 4, 2) := by decide +kernel
theorem dX8_tick_103 : decode cX8_tick 103 = .ok (.iconst 4, 1) := by decide +kernel
theorem dX8_tick_104 : decode cX8_tick 104 = .ok (.iaload, 1) := by decide +kernel
theorem dX8_tick_105 : decode cX8_tick 105 = .ok (.iload_n 1, 1) := by decide +kernel
theorem dX8_tick_106 : decode cX8_tick 106 = .ok (.if_icmp .eq 6, 3) := by decide +kernel
theorem dX8_tick_109 : decode cX8_tick 109 = .ok (.goto 134, 3) := by decide +kernel
theorem dX8_tick_112 : decode cX8_tick 112 = .ok (.iload_n 2, 1) := by decide +kernel
theorem dX8_tick_113 : decode cX8_tick 113 = .ok (.aload 4, 2) := by decide +kernel
theorem dX8_tick_115 : decode cX8_tick 115 = .ok (.iconst 5, 1) := by decide +kernel
theorem dX8_tick_116 : decode cX8_tick 116 = .ok (.iaload, 1) := by decide +kernel
theorem dX8_tick_117 : decode cX8_tick 117 = .ok (.invokestatic 52, 3) := by decide +kernel
theorem dX8_tick_120 : decode cX8_tick 120 = .ok (.istore 5, 2) := by decide +kernel
theorem dX8_tick_122 : decode cX8_tick 122 = .ok (.iload_n 2, 1) := by decide +kernel
theorem dX8_tick_123 : decode cX8_tick 123 = .ok (.iload 5, 2) := by decide +kernel
theorem dX8_tick_125 : decode cX8_tick 125 = .ok (.isub, 1) := by decide +kernel
theorem dX8_tick_126 : decode cX8_tick 126 = .ok (.istore_n 2, 1) := by decide +kernel
theorem dX8_tick_127 : decode cX8_tick 127 = .ok (.aload 4, 2) := by decide +kernel
theorem dX8_tick_129 : decode cX8_tick 129 = .ok (.iconst 5, 1) := by decide +kernel
theorem dX8_tick_130 : decode cX8_tick 130 = .ok (.dup2, 1) := by decide +kernel
theorem dX8_tick_131 : decode cX8_tick 131 = .ok (.iaload, 1) := by decide +kernel
theorem dX8_tick_132 : decode cX8_tick 132 = .ok (.iload 5, 2) := by decide +kernel
theorem dX8_tick_134 : decode cX8_tick 134 = .ok (.isub, 1) := by decide +kernel
theorem dX8_tick_135 : decode cX8_tick 135 = .ok (.iastore, 1) := by decide +kernel
theorem dX8_tick_136 : decode cX8_tick 136 = .ok (.aload 4, 2) := by decide +kernel
theorem dX8_tick_138 : decode cX8_tick 138 = .ok (.bipush 7, 2) := by decide +kernel
theorem dX8_tick_140 : decode cX8_tick 140 = .ok (.aload_n 0, 1) := by decide +kernel
theorem dX8_tick_141 : decode cX8_tick 141 = .ok (.getfield 28, 3) := by decide +kernel
theorem dX8_tick_144 : decode cX8_tick 144 = .ok (.iastore, 1) := by decide +kernel
theorem dX8_tick_145 : decode cX8_tick 145 = .ok (.aload 4, 2) := by decide +kernel
theorem dX8_tick_147 : decode cX8_tick 147 = .ok (.iconst 5, 1) := by decide +kernel
theorem dX8_tick_148 : decode cX8_tick 148 = .ok (.iaload, 1) := by decide +kernel
theorem dX8_tick_149 : decode cX8_tick 149 = .ok (.ifCond .le 6, 3) := by decide +kernel
theorem dX8_tick_152 : decode cX8_tick 152 = .ok (.goto 91, 3) := by decide +kernel
theorem dX8_tick_155 : decode cX8_tick 155 = .ok (.aload_n 0, 1) := by decide +kernel
theorem dX8_tick_156 : decode cX8_tick 156 = .ok (.getfield 18, 3) := by decide +kernel
theorem dX8_tick_159 : decode cX8_tick 159 = .ok (.aload 4, 2) := by decide +kernel
theorem dX8_tick_161 : decode cX8_tick 161 = .ok (.iconst 0, 1) := by decide +kernel
theorem dX8_tick_162 : decode cX8_tick 162 = .ok (.iaload, 1) := by decide +kernel
theorem dX8_tick_163 : decode cX8_tick 163 = .ok (.aaload, 1) := by decide +kernel
theorem dX8_tick_164 : decode cX8_tick 164 = .ok (.iconst 2, 1) := by decide +kernel
theorem dX8_tick_165 : decode cX8_tick 165 = .ok (.iaload, 1) := by decide +kernel
theorem dX8_tick_166 : decode cX8_tick 166 = .ok (.aload_n 0, 1) := by decide +kernel
theorem dX8_tick_167 : decode cX8_tick 167 = .ok (.getfield 7, 3) := by decide +kernel
theorem dX8_tick_170 : decode cX8_tick 170 = .ok (.iconst 4, 1) := by decide +kernel
theorem dX8_tick_171 : decode cX8_tick 171 = .ok (.iaload, 1) := by decide +kernel
theorem dX8_tick_172 : decode cX8_tick 172 = .ok (.aload 4, 2) := by decide +kernel
theorem dX8_tick_174 : decode cX8_tick 174 = .ok (.iconst 2, 1) := by decide +kernel
theorem dX8_tick_175 : decode cX8_tick 175 = .ok (.iaload, 1) := by decide +kernel
theorem dX8_tick_176 : decode cX8_tick 176 = .ok (.imul, 1) := by decide +kernel
theorem dX8_tick_177 : decode cX8_tick 177 = .ok (.invokestatic 52, 3) := by decide +kernel
theorem dX8_tick_180 : decode cX8_tick 180 = .ok (.istore 6, 2) := by decide +kernel
theorem dX8_tick_182 : decode cX8_tick 182 = .ok (.aload_n 0, 1) := by decide +kernel
theorem dX8_tick_183 : decode cX8_tick 183 = .ok (.getfield 18, 3) := by decide +kernel
theorem dX8_tick_186 : decode cX8_tick 186 = .ok (.aload 4, 2) := by decide +kernel
theorem dX8_tick_188 : decode cX8_tick 188 = .ok (.iconst 0, 1) := by decide +kernel
theorem dX8_tick_189 : decode cX8_tick 189 = .ok (.iaload, 1) := by decide +kernel
theorem dX8_tick_190 : decode cX8_tick 190 = .ok (.aaload, 1) := by decide +kernel
theorem dX8_tick_191 : decode cX8_tick 191 = .ok (.iconst 2, 1) := by decide +kernel
theorem dX8_tick_192 : decode cX8_tick 192 = .ok (.dup2, 1) := by decide +kernel
theorem dX8_tick_193 : decode cX8_tick 193 = .ok (.iaload, 1) := by decide +kernel
theorem dX8_tick_194 : decode cX8_tick 194 = .ok (.iload 6, 2) := by decide +kernel
theorem dX8_tick_196 : decode cX8_tick 196 = .ok (.isub, 1) := by decide +kernel
theorem dX8_tick_197 : decode cX8_tick 197 = .ok (.iastore, 1) := by decide +kernel
theorem dX8_tick_198 : decode cX8_tick 198 = .ok (.aload_n 0, 1) := by decide +kernel
theorem dX8_tick_199 : decode cX8_tick 199 = .ok (.getfield 14, 3) := by decide +kernel
theorem dX8_tick_202 : decode cX8_tick 202 = .ok (.iload_n 1, 1) := by decide +kernel
theorem dX8_tick_203 : decode cX8_tick 203 = .ok (.aaload, 1) := by decide +kernel
theorem dX8_tick_204 : decode cX8_tick 204 = .ok (.iconst 0, 1) := by decide +kernel
theorem dX8_tick_205 : decode cX8_tick 205 = .ok (.dup2, 1) := by decide +kernel
theorem dX8_tick_206 : decode cX8_tick 206 = .ok (.iaload, 1) := by decide +kernel
theorem dX8_tick_207 : decode cX8_tick 207 = .ok (.iload 6, 2) := by decide +kernel
theorem dX8_tick_209 : decode cX8_tick 209 = .ok (.iadd, 1) := by decide +kernel
theorem dX8_tick_210 : decode cX8_tick 210 = .ok (.iastore, 1) := by decide +kernel
theorem dX8_tick_211 : decode cX8_tick 211 = .ok (.aload_n 0, 1) := by decide +kernel
theorem dX8_tick_212 : decode cX8_tick 212 = .ok (.getfield 14, 3) := by decide +kernel
theorem dX8_tick_215 : decode cX8_tick 215 = .ok (.iload_n 1, 1) := by decide +kernel
theorem dX8_tick_216 : decode cX8_tick 216 = .ok (.aaload, 1) := by decide +kernel
theorem dX8_tick_217 : decode cX8_tick 217 = .ok (.iconst 5, 1) := by decide +kernel
theorem dX8_tick_218 : decode cX8_tick 218 = .ok (.dup2, 1) := by decide +kernel
theorem dX8_tick_219 : decode cX8_tick 219 = .ok (.iaload, 1) := by decide +kernel
theorem dX8_tick_220 : decode cX8_tick 220 = .ok (.iload 6, 2) := by decide +kernel
theorem dX8_tick_222 : decode cX8_tick 222 = .ok (.iadd, 1) := by decide +kernel
theorem dX8_tick_223 : decode cX8_tick 223 = .ok (.iastore, 1) := by decide +kernel
theorem dX8_tick_224 : decode cX8_tick 224 = .ok (.aload 4, 2) := by decide +kernel
theorem dX8_tick_226 : decode cX8_tick 226 = .ok (.iconst 3, 1) := by decide +kernel
theorem dX8_tick_227 : decode cX8_tick 227 = .ok (.iconst 2, 1) := by decide +kernel
theorem dX8_tick_228 : decode cX8_tick 228 = .ok (.iastore, 1) := by decide +kernel
theorem dX8_tick_229 : decode cX8_tick 229 = .ok (.aload 4, 2) := by decide +kernel
theorem dX8_tick_231 : decode cX8_tick 231 = .ok (.iconst 4, 1) := by decide +kernel
theorem dX8_tick_232 : decode cX8_tick 232 = .ok (.iconst (-1), 1) := by decide +kernel
theorem dX8_tick_233 : decode cX8_tick 233 = .ok (.iastore, 1) := by decide +kernel
theorem dX8_tick_234 : decode cX8_tick 234 = .ok (.aload 4, 2) := by decide +kernel
theorem dX8_tick_236 : decode cX8_tick 236 = .ok (.bipush 6, 2) := by decide +kernel
theorem dX8_tick_238 : decode cX8_tick 238 = .ok (.aload_n 0, 1) := by decide +kernel
theorem dX8_tick_239 : decode cX8_tick 239 = .ok (.getfield 28, 3) := by decide +kernel
theorem dX8_tick_242 : decode cX8_tick 242 = .ok (.iastore, 1) := by decide +kernel
theorem dX8_tick_243 : decode cX8_tick 243 = .ok (.iinc 3 1, 3) := by decide +kernel
theorem dX8_tick_246 : decode cX8_tick 246 = .ok (.goto (-174), 3) := by decide +kernel
theorem dX8_tick_249 : decode cX8_tick 249 = .ok (.iinc 1 1, 3) := by decide +kernel
theorem dX8_tick_252 : decode cX8_tick 252 = .ok (.goto (-200), 3) := by decide +kernel
theorem dX8_tick_255 : decode cX8_tick 255 = .ok (.aload_n 0, 1) := by decide +kernel
theorem dX8_tick_256 : decode cX8_tick 256 = .ok (.getfield 24, 3) := by decide +kernel
theorem dX8_tick_259 : decode cX8_tick 259 = .ok (.astore_n 1, 1) := by decide +kernel
theorem dX8_tick_260 : decode cX8_tick 260 = .ok (.aload_n 1, 1) := by decide +kernel
theorem dX8_tick_261 : decode cX8_tick 261 = .ok (.arraylength, 1) := by decide +kernel
theorem dX8_tick_262 : decode cX8_tick 262 = .ok (.istore_n 2, 1) := by decide +kernel
theorem dX8_tick_263 : decode cX8_tick 263 = .ok (.iconst 0, 1) := by decide +kernel
theorem dX8_tick_264 : decode cX8_tick 264 = .ok (.istore_n 3, 1) := by decide +kernel
theorem dX8_tick_265 : decode cX8_tick 265 = .ok (.iload_n 3, 1) := by decide +kernel
theorem dX8_tick_266 : decode cX8_tick 266 = .ok (.iload_n 2, 1) := by decide +kernel
theorem dX8_tick_267 : decode cX8_tick 267 = .ok (.if_icmp .ge 184, 3) := by decide +kernel
theorem dX8_tick_270 : decode cX8_tick 270 = .ok (.aload_n 1, 1) := by decide +kernel
theorem dX8_tick_271 : decode cX8_tick 271 = .ok (.iload_n 3, 1) := by decide +kernel
theorem dX8_tick_272 : decode cX8_tick 272 = .ok (.aaload, 1) := by decide +kernel
theorem dX8_tick_273 : decode cX8_tick 273 = .ok (.astore 4, 2) := by decide +kernel
theorem dX8_tick_275 : decode cX8_tick 275 = .ok (.aload 4, 2) := by decide +kernel
theorem dX8_tick_277 : decode cX8_tick 277 = .ok (.iconst 3, 1) := by decide +kernel
theorem dX8_tick_278 : decode cX8_tick 278 = .ok (.iaload, 1) := by decide +kernel
theorem dX8_tick_279 : decode cX8_tick 279 = .ok (.iconst 1, 1) := by decide +kernel
theorem dX8_tick_280 : decode cX8_tick 280 = .ok (.if_icmp .ne 165, 3) := by decide +kernel
theorem dX8_tick_283 : decode cX8_tick 283 = .ok (.aload 4, 2) := by decide +kernel
theorem dX8_tick_285 : decode cX8_tick 285 = .ok (.iconst 4, 1) := by decide +kernel
theorem dX8_tick_286 : decode cX8_tick 286 = .ok (.iaload, 1) := by decide +kernel
theorem dX8_tick_287 : decode cX8_tick 287 = .ok (.ifCond .lt 158, 3) := by decide +kernel
theorem dX8_tick_290 : decode cX8_tick 290 = .ok (.aload_n 0, 1) := by decide +kernel
theorem dX8_tick_291 : decode cX8_tick 291 = .ok (.getfield 28, 3) := by decide +kernel
theorem dX8_tick_294 : decode cX8_tick 294 = .ok (.aload 4, 2) := by decide +kernel
theorem dX8_tick_296 : decode cX8_tick 296 = .ok (.bipush 7, 2) := by decide +kernel
theorem dX8_tick_298 : decode cX8_tick 298 = .ok (.iaload, 1) := by decide +kernel
theorem dX8_tick_299 : decode cX8_tick 299 = .ok (.isub, 1) := by decide +kernel
theorem dX8_tick_300 : decode cX8_tick 300 = .ok (.aload_n 0, 1) := by decide +kernel
theorem dX8_tick_301 : decode cX8_tick 301 = .ok (.getfield 7, 3) := by decide +kernel
theorem dX8_tick_304 : decode cX8_tick 304 = .ok (.iconst 0, 1) := by decide +kernel
theorem dX8_tick_305 : decode cX8_tick 305 = .ok (.iaload, 1) := by decide +kernel
theorem dX8_tick_306 : decode cX8_tick 306 = .ok (.if_icmp .ge 6, 3) := by decide +kernel
theorem dX8_tick_309 : decode cX8_tick 309 = .ok (.goto 136, 3) := by decide +kernel
theorem dX8_tick_312 : decode cX8_tick 312 = .ok (.aload 4, 2) := by decide +kernel
theorem dX8_tick_314 : decode cX8_tick 314 = .ok (.iconst 4, 1) := by decide +kernel
theorem dX8_tick_315 : decode cX8_tick 315 = .ok (.iaload, 1) := by decide +kernel
theorem dX8_tick_316 : decode cX8_tick 316 = .ok (.istore 5, 2) := by decide +kernel
theorem dX8_tick_318 : decode cX8_tick 318 = .ok (.aload_n 0, 1) := by decide +kernel
theorem dX8_tick_319 : decode cX8_tick 319 = .ok (.getfield 41, 3) := by decide +kernel
theorem dX8_tick_322 : decode cX8_tick 322 = .ok (.ifnonnull 11, 3) := by decide +kernel
theorem dX8_tick_325 : decode cX8_tick 325 = .ok (.aload 4, 2) := by decide +kernel
theorem dX8_tick_327 : decode cX8_tick 327 = .ok (.iconst 5, 1) := by decide +kernel
theorem dX8_tick_328 : decode cX8_tick 328 = .ok (.iaload, 1) := by decide +kernel
theorem dX8_tick_329 : decode cX8_tick 329 = .ok (.i2l, 1) := by decide +kernel
theorem dX8_tick_330 : decode cX8_tick 330 = .ok (.goto 53, 3) := by decide +kernel
theorem dX8_tick_333 : decode cX8_tick 333 = .ok (.aload_n 0, 1) := by decide +kernel
theorem dX8_tick_334 : decode cX8_tick 334 = .ok (.getfield 41, 3) := by decide +kernel
theorem dX8_tick_337 : decode cX8_tick 337 = .ok (.iconst 4, 1) := by decide +kernel
theorem dX8_tick_338 : decode cX8_tick 338 = .ok (.newarray .long, 2) := by decide +kernel
theorem dX8_tick_340 : decode cX8_tick 340 = .ok (.dup, 1) := by decide +kernel
theorem dX8_tick_341 : decode cX8_tick 341 = .ok (.iconst 0, 1) := by decide +kernel
theorem dX8_tick_342 : decode cX8_tick 342 = .ok (.aload 4, 2) := by decide +kernel
theorem dX8_tick_344 : decode cX8_tick 344 = .ok (.iconst 0, 1) := by decide +kernel
theorem dX8_tick_345 : decode cX8_tick 345 = .ok (.iaload, 1) := by decide +kernel
theorem dX8_tick_346 : decode cX8_tick 346 = .ok (.i2l, 1) := by decide +kernel
theorem dX8_tick_347 : decode cX8_tick 347 = .ok (.lastore, 1) := by decide +kernel
theorem dX8_tick_348 : decode cX8_tick 348 = .ok (.dup, 1) := by decide +kernel
theorem dX8_tick_349 : decode cX8_tick 349 = .ok (.iconst 1, 1) := by decide +kernel
theorem dX8_tick_350 : decode cX8_tick 350 = .ok (.aload 4, 2) := by decide +kernel
theorem dX8_tick_352 : decode cX8_tick 352 = .ok (.iconst 5, 1) := by decide +kernel
theorem dX8_tick_353 : decode cX8_tick 353 = .ok (.iaload, 1) := by decide +kernel
theorem dX8_tick_354 : decode cX8_tick 354 = .ok (.i2l, 1) := by decide +kernel
theorem dX8_tick_355 : decode cX8_tick 355 = .ok (.lastore, 1) := by decide +kernel
theorem dX8_tick_356 : decode cX8_tick 356 = .ok (.dup, 1) := by decide +kernel
theorem dX8_tick_357 : decode cX8_tick 357 = .ok (.iconst 2, 1) := by decide +kernel
theorem dX8_tick_358 : decode cX8_tick 358 = .ok (.aload_n 0, 1) := by decide +kernel
theorem dX8_tick_359 : decode cX8_tick 359 = .ok (.iload 5, 2) := by decide +kernel
theorem dX8_tick_361 : decode cX8_tick 361 = .ok (.invokevirtual 45, 3) := by decide +kernel
theorem dX8_tick_364 : decode cX8_tick 364 = .ok (.i2l, 1) := by decide +kernel
theorem dX8_tick_365 : decode cX8_tick 365 = .ok (.lastore, 1) := by decide +kernel
theorem dX8_tick_366 : decode cX8_tick 366 = .ok (.dup, 1) := by decide +kernel
theorem dX8_tick_367 : decode cX8_tick 367 = .ok (.iconst 3, 1) := by decide +kernel
theorem dX8_tick_368 : decode cX8_tick 368 = .ok (.aload_n 0, 1) := by decide +kernel
theorem dX8_tick_369 : decode cX8_tick 369 = .ok (.getfield 28, 3) := by decide +kernel
theorem dX8_tick_372 : decode cX8_tick 372 = .ok (.aload 4, 2) := by decide +kernel
theorem dX8_tick_374 : decode cX8_tick 374 = .ok (.bipush 7, 2) := by decide +kernel
theorem dX8_tick_376 : decode cX8_tick 376 = .ok (.iaload, 1) := by decide +kernel
theorem dX8_tick_377 : decode cX8_tick 377 = .ok (.isub, 1) := by decide +kernel
theorem dX8_tick_378 : decode cX8_tick 378 = .ok (.i2l, 1) := by decide +kernel
theorem dX8_tick_379 : decode cX8_tick 379 = .ok (.lastore, 1) := by decide +kernel
theorem dX8_tick_380 : decode cX8_tick 380 = .ok (.invokevirtual 73, 3) := by decide +kernel
theorem dX8_tick_383 : decode cX8_tick 383 = .ok (.lstore 6, 2) := by decide +kernel
theorem dX8_tick_385 : decode cX8_tick 385 = .ok (.aload_n 0, 1) := by decide +kernel
theorem dX8_tick_386 : decode cX8_tick 386 = .ok (.iload 5, 2) := by decide +kernel
theorem dX8_tick_388 : decode cX8_tick 388 = .ok (.lconst 0, 1) := by decide +kernel
theorem dX8_tick_389 : decode cX8_tick 389 = .ok (.ldc2_w 79, 3) := by decide +kernel
theorem dX8_tick_392 : decode cX8_tick 392 = .ok (.lload 6, 2) := by decide +kernel
theorem dX8_tick_394 : decode cX8_tick 394 = .ok (.invokestatic 81, 3) := by decide +kernel
theorem dX8_tick_397 : decode cX8_tick 397 = .ok (.invokestatic 84, 3) := by decide +kernel
theorem dX8_tick_400 : decode cX8_tick 400 = .ok (.l2i, 1) := by decide +kernel
theorem dX8_tick_401 : decode cX8_tick 401 = .ok (.invokevirtual 87, 3) := by decide +kernel
theorem dX8_tick_404 : decode cX8_tick 404 = .ok (.istore 8, 2) := by decide +kernel
theorem dX8_tick_406 : decode cX8_tick 406 = .ok (.aload_n 0, 1) := by decide +kernel
theorem dX8_tick_407 : decode cX8_tick 407 = .ok (.getfield 14, 3) := by decide +kernel
theorem dX8_tick_410 : decode cX8_tick 410 = .ok (.iload 5, 2) := by decide +kernel
theorem dX8_tick_412 : decode cX8_tick 412 = .ok (.aaload, 1) := by decide +kernel
theorem dX8_tick_413 : decode cX8_tick 413 = .ok (.iconst 3, 1) := by decide +kernel
theorem dX8_tick_414 : decode cX8_tick 414 = .ok (.dup2, 1) := by decide +kernel
theorem dX8_tick_415 : decode cX8_tick 415 = .ok (.iaload, 1) := by decide +kernel
theorem dX8_tick_416 : decode cX8_tick 416 = .ok (.iload 8, 2) := by decide +kernel
theorem dX8_tick_418 : decode cX8_tick 418 = .ok (.iadd, 1) := by decide +kernel
theorem dX8_tick_419 : decode cX8_tick 419 = .ok (.iastore, 1) := by decide +kernel
theorem dX8_tick_420 : decode cX8_tick 420 = .ok (.aload_n 0, 1) := by decide +kernel
theorem dX8_tick_421 : decode cX8_tick 421 = .ok (.getfield 18, 3) := by decide +kernel
theorem dX8_tick_424 : decode cX8_tick 424 = .ok (.aload 4, 2) := by decide +kernel
theorem dX8_tick_426 : decode cX8_tick 426 = .ok (.iconst 0, 1) := by decide +kernel
theorem dX8_tick_427 : decode cX8_tick 427 = .ok (.iaload, 1) := by decide +kernel
theorem dX8_tick_428 : decode cX8_tick 428 = .ok (.aaload, 1) := by decide +kernel
theorem dX8_tick_429 : decode cX8_tick 429 = .ok (.iconst 2, 1) := by decide +kernel
theorem dX8_tick_430 : decode cX8_tick 430 = .ok (.dup2, 1) := by decide +kernel
theorem dX8_tick_431 : decode cX8_tick 431 = .ok (.iaload, 1) := by decide +kernel
theorem dX8_tick_432 : decode cX8_tick 432 = .ok (.iload 8, 2) := by decide +kernel
theorem dX8_tick_434 : decode cX8_tick 434 = .ok (.iadd, 1) := by decide +kernel
theorem dX8_tick_435 : decode cX8_tick 435 = .ok (.iastore, 1) := by decide +kernel
theorem dX8_tick_436 : decode cX8_tick 436 = .ok (.aload 4, 2) := by decide +kernel
theorem dX8_tick_438 : decode cX8_tick 438 = .ok (.bipush 7, 2) := by decide +kernel
theorem dX8_tick_440 : decode cX8_tick 440 = .ok (.aload_n 0, 1) := by decide +kernel
theorem dX8_tick_441 : decode cX8_tick 441 = .ok (.getfield 28, 3) := by decide +kernel
theorem dX8_tick_444 : decode cX8_tick 444 = .ok (.iastore, 1) := by decide +kernel
theorem dX8_tick_445 : decode cX8_tick 445 = .ok (.iinc 3 1, 3) := by decide +kernel
theorem dX8_tick_448 : decode cX8_tick 448 = .ok (.goto (-183), 3) := by decide +kernel
theorem dX8_tick_451 : decode cX8_tick 451 = .ok (.iconst 0, 1) := by decide +kernel
theorem dX8_tick_452 : decode cX8_tick 452 = .ok (.istore_n 1, 1) := by decide +kernel
theorem dX8_tick_453 : decode cX8_tick 453 = .ok (.iload_n 1, 1) := by decide +kernel
theorem dX8_tick_454 : decode cX8_tick 454 = .ok (.aload_n 0, 1) := by decide +kernel
theorem dX8_tick_455 : decode cX8_tick 455 = .ok (.getfield 18, 3) := by decide +kernel
theorem dX8_tick_458 : decode cX8_tick 458 = .ok (.arraylength, 1) := by decide +kernel
theorem dX8_tick_459 : decode cX8_tick 459 = .ok (.if_icmp .ge 113, 3) := by decide +kernel
theorem dX8_tick_462 : decode cX8_tick 462 = .ok (.aload_n 0, 1) := by decide +kernel
theorem dX8_tick_463 : decode cX8_tick 463 = .ok (.getfield 28, 3) := by decide +kernel
theorem dX8_tick_466 : decode cX8_tick 466 = .ok (.iconst 1, 1) := by decide +kernel
theorem dX8_tick_467 : decode cX8_tick 467 = .ok (.iadd, 1) := by decide +kernel
theorem dX8_tick_468 : decode cX8_tick 468 = .ok (.aload_n 0, 1) := by decide +kernel
theorem dX8_tick_469 : decode cX8_tick 469 = .ok (.getfield 7, 3) := by decide +kernel
theorem dX8_tick_472 : decode cX8_tick 472 = .ok (.iconst 3, 1) := by decide +kernel
theorem dX8_tick_473 : decode cX8_tick 473 = .ok (.iaload, 1) := by decide +kernel
theorem dX8_tick_474 : decode cX8_tick 474 = .ok (.irem, 1) := by decide +kernel
theorem dX8_tick_475 : decode cX8_tick 475 = .ok (.ifCond .ne 97, 3) := by decide +kernel
theorem dX8_tick_478 : decode cX8_tick 478 = .ok (.aload_n 0, 1) := by decide +kernel
theorem dX8_tick_479 : decode cX8_tick 479 = .ok (.getfield 21, 3) := by decide +kernel
theorem dX8_tick_482 : decode cX8_tick 482 = .ok (.iload_n 1, 1) := by decide +kernel
theorem dX8_tick_483 : decode cX8_tick 483 = .ok (.aaload, 1) := by decide +kernel
theorem dX8_tick_484 : decode cX8_tick 484 = .ok (.astore_n 2, 1) := by decide +kernel
theorem dX8_tick_485 : decode cX8_tick 485 = .ok (.iconst 0, 1) := by decide +kernel
theorem dX8_tick_486 : decode cX8_tick 486 = .ok (.istore_n 3, 1) := by decide +kernel
theorem dX8_tick_487 : decode cX8_tick 487 = .ok (.iload_n 3, 1) := by decide +kernel
theorem dX8_tick_488 : decode cX8_tick 488 = .ok (.aload_n 2, 1) := by decide +kernel
theorem dX8_tick_489 : decode cX8_tick 489 = .ok (.arraylength, 1) := by decide +kernel
theorem dX8_tick_490 : decode cX8_tick 490 = .ok (.if_icmp .ge 76, 3) := by decide +kernel
theorem dX8_tick_493 : decode cX8_tick 493 = .ok (.aload_n 0, 1) := by decide +kernel
theorem dX8_tick_494 : decode cX8_tick 494 = .ok (.aload_n 2, 1) := by decide +kernel
theorem dX8_tick_495 : decode cX8_tick 495 = .ok (.iload_n 3, 1) := by decide +kernel
theorem dX8_tick_496 : decode cX8_tick 496 = .ok (.iaload, 1) := by decide +kernel
theorem dX8_tick_497 : decode cX8_tick 497 = .ok (.aload_n 0, 1) := by decide +kernel
theorem dX8_tick_498 : decode cX8_tick 498 = .ok (.getfield 18, 3) := by decide +kernel
theorem dX8_tick_501 : decode cX8_tick 501 = .ok (.iload_n 1, 1) := by decide +kernel
theorem dX8_tick_502 : decode cX8_tick 502 = .ok (.aaload, 1) := by decide +kernel
theorem dX8_tick_503 : decode cX8_tick 503 = .ok (.iconst 0, 1) := by decide +kernel
theorem dX8_tick_504 : decode cX8_tick 504 = .ok (.iaload, 1) := by decide +kernel
theorem dX8_tick_505 : decode cX8_tick 505 = .ok (.aload_n 2, 1) := by decide +kernel
theorem dX8_tick_506 : decode cX8_tick 506 = .ok (.arraylength, 1) := by decide +kernel
theorem dX8_tick_507 : decode cX8_tick 507 = .ok (.idiv, 1) := by decide +kernel
theorem dX8_tick_508 : decode cX8_tick 508 = .ok (.iload_n 3, 1) := by decide +kernel
theorem dX8_tick_509 : decode cX8_tick 509 = .ok (.aload_n 0, 1) := by decide +kernel
theorem dX8_tick_510 : decode cX8_tick 510 = .ok (.getfield 18, 3) := by decide +kernel
theorem dX8_tick_513 : decode cX8_tick 513 = .ok (.iload_n 1, 1) := by decide +kernel
theorem dX8_tick_514 : decode cX8_tick 514 = .ok (.aaload, 1) := by decide +kernel
theorem dX8_tick_515 : decode cX8_tick 515 = .ok (.iconst 0, 1) := by decide +kernel
theorem dX8_tick_516 : decode cX8_tick 516 = .ok (.iaload, 1) := by decide +kernel
theorem dX8_tick_517 : decode cX8_tick 517 = .ok (.aload_n 2, 1) := by decide +kernel
theorem dX8_tick_518 : decode cX8_tick 518 = .ok (.arraylength, 1) := by decide +kernel
theorem dX8_tick_519 : decode cX8_tick 519 = .ok (.irem, 1) := by decide +kernel
theorem dX8_tick_520 : decode cX8_tick 520 = .ok (.if_icmp .ge 7, 3) := by decide +kernel
theorem dX8_tick_523 : decode cX8_tick 523 = .ok (.iconst 1, 1) := by decide +kernel
theorem dX8_tick_524 : decode cX8_tick 524 = .ok (.goto 4, 3) := by decide +kernel
theorem dX8_tick_527 : decode cX8_tick 527 = .ok (.iconst 0, 1) := by decide +kernel
theorem dX8_tick_528 : decode cX8_tick 528 = .ok (.iadd, 1) := by decide +kernel
theorem dX8_tick_529 : decode cX8_tick 529 = .ok (.invokevirtual 87, 3) := by decide +kernel
theorem dX8_tick_532 : decode cX8_tick 532 = .ok (.istore 4, 2) := by decide +kernel
theorem dX8_tick_534 : decode cX8_tick 534 = .ok (.aload_n 0, 1) := by decide +kernel
theorem dX8_tick_535 : decode cX8_tick 535 = .ok (.getfield 14, 3) := by decide +kernel
theorem dX8_tick_538 : decode cX8_tick 538 = .ok (.aload_n 2, 1) := by decide +kernel
theorem dX8_tick_539 : decode cX8_tick 539 = .ok (.iload_n 3, 1) := by decide +kernel
theorem dX8_tick_540 : decode cX8_tick 540 = .ok (.iaload, 1) := by decide +kernel
theorem dX8_tick_541 : decode cX8_tick 541 = .ok (.aaload, 1) := by decide +kernel
theorem dX8_tick_542 : decode cX8_tick 542 = .ok (.iconst 4, 1) := by decide +kernel
theorem dX8_tick_543 : decode cX8_tick 543 = .ok (.dup2, 1) := by decide +kernel
theorem dX8_tick_544 : decode cX8_tick 544 = .ok (.iaload, 1) := by decide +kernel
theorem dX8_tick_545 : decode cX8_tick 545 = .ok (.iload 4, 2) := by decide +kernel
theorem dX8_tick_547 : decode cX8_tick 547 = .ok (.iadd, 1) := by decide +kernel
theorem dX8_tick_548 : decode cX8_tick 548 = .ok (.iastore, 1) := by decide +kernel
theorem dX8_tick_549 : decode cX8_tick 549 = .ok (.aload_n 0, 1) := by decide +kernel
theorem dX8_tick_550 : decode cX8_tick 550 = .ok (.dup, 1) := by decide +kernel
theorem dX8_tick_551 : decode cX8_tick 551 = .ok (.getfield 32, 3) := by decide +kernel
theorem dX8_tick_554 : decode cX8_tick 554 = .ok (.iload 4, 2) := by decide +kernel
theorem dX8_tick_556 : decode cX8_tick 556 = .ok (.iadd, 1) := by decide +kernel
theorem dX8_tick_557 : decode cX8_tick 557 = .ok (.putfield 32, 3) := by decide +kernel
theorem dX8_tick_560 : decode cX8_tick 560 = .ok (.iinc 3 1, 3) := by decide +kernel
theorem dX8_tick_563 : decode cX8_tick 563 = .ok (.goto (-76), 3) := by decide +kernel
theorem dX8_tick_566 : decode cX8_tick 566 = .ok (.iinc 1 1, 3) := by decide +kernel
theorem dX8_tick_569 : decode cX8_tick 569 = .ok (.goto (-116), 3) := by decide +kernel
theorem dX8_tick_572 : decode cX8_tick 572 = .ok (.aload_n 0, 1) := by decide +kernel
theorem dX8_tick_573 : decode cX8_tick 573 = .ok (.dup, 1) := by decide +kernel
theorem dX8_tick_574 : decode cX8_tick 574 = .ok (.getfield 28, 3) := by decide +kernel
theorem dX8_tick_577 : decode cX8_tick 577 = .ok (.iconst 1, 1) := by decide +kernel
theorem dX8_tick_578 : decode cX8_tick 578 = .ok (.iadd, 1) := by decide +kernel
theorem dX8_tick_579 : decode cX8_tick 579 = .ok (.putfield 28, 3) := by decide +kernel
theorem dX8_tick_582 : decode cX8_tick 582 = .ok (.return_, 1) := by decide +kernel
theorem dX8_lease_0 : decode cX8_lease 0 = .ok (.aload_n 0, 1) := by decide +kernel
theorem dX8_lease_1 : decode cX8_lease 1 = .ok (.getfield 14, 3) := by decide +kernel
theorem dX8_lease_4 : decode cX8_lease 4 = .ok (.iload_n 1, 1) := by decide +kernel
theorem dX8_lease_5 : decode cX8_lease 5 = .ok (.aaload, 1) := by decide +kernel
theorem dX8_lease_6 : decode cX8_lease 6 = .ok (.iconst 2, 1) := by decide +kernel
theorem dX8_lease_7 : decode cX8_lease 7 = .ok (.iaload, 1) := by decide +kernel
theorem dX8_lease_8 : decode cX8_lease 8 = .ok (.iconst 1, 1) := by decide +kernel
theorem dX8_lease_9 : decode cX8_lease 9 = .ok (.if_icmp .eq 27, 3) := by decide +kernel
theorem dX8_lease_12 : decode cX8_lease 12 = .ok (.aload_n 0, 1) := by decide +kernel
theorem dX8_lease_13 : decode cX8_lease 13 = .ok (.getfield 21, 3) := by decide +kernel
theorem dX8_lease_16 : decode cX8_lease 16 = .ok (.iload_n 2, 1) := by decide +kernel
theorem dX8_lease_17 : decode cX8_lease 17 = .ok (.aaload, 1) := by decide +kernel
theorem dX8_lease_18 : decode cX8_lease 18 = .ok (.iload_n 1, 1) := by decide +kernel
theorem dX8_lease_19 : decode cX8_lease 19 = .ok (.invokestatic 62, 3) := by decide +kernel
theorem dX8_lease_22 : decode cX8_lease 22 = .ok (.ifCond .ge 14, 3) := by decide +kernel
theorem dX8_lease_25 : decode cX8_lease 25 = .ok (.aload_n 0, 1) := by decide +kernel
theorem dX8_lease_26 : decode cX8_lease 26 = .ok (.getfield 21, 3) := by decide +kernel
theorem dX8_lease_29 : decode cX8_lease 29 = .ok (.iload_n 2, 1) := by decide +kernel
theorem dX8_lease_30 : decode cX8_lease 30 = .ok (.aaload, 1) := by decide +kernel
theorem dX8_lease_31 : decode cX8_lease 31 = .ok (.arraylength, 1) := by decide +kernel
theorem dX8_lease_32 : decode cX8_lease 32 = .ok (.iconst 3, 1) := by decide +kernel
theorem dX8_lease_33 : decode cX8_lease 33 = .ok (.if_icmp .ne 5, 3) := by decide +kernel
theorem dX8_lease_36 : decode cX8_lease 36 = .ok (.iconst (-1), 1) := by decide +kernel
theorem dX8_lease_37 : decode cX8_lease 37 = .ok (.ireturn, 1) := by decide +kernel
theorem dX8_lease_38 : decode cX8_lease 38 = .ok (.aload_n 0, 1) := by decide +kernel
theorem dX8_lease_39 : decode cX8_lease 39 = .ok (.getfield 21, 3) := by decide +kernel
theorem dX8_lease_42 : decode cX8_lease 42 = .ok (.iload_n 2, 1) := by decide +kernel
theorem dX8_lease_43 : decode cX8_lease 43 = .ok (.aload_n 0, 1) := by decide +kernel
theorem dX8_lease_44 : decode cX8_lease 44 = .ok (.getfield 21, 3) := by decide +kernel
theorem dX8_lease_47 : decode cX8_lease 47 = .ok (.iload_n 2, 1) := by decide +kernel
theorem dX8_lease_48 : decode cX8_lease 48 = .ok (.aaload, 1) := by decide +kernel
theorem dX8_lease_49 : decode cX8_lease 49 = .ok (.iload_n 1, 1) := by decide +kernel
theorem dX8_lease_50 : decode cX8_lease 50 = .ok (.invokestatic 90, 3) := by decide +kernel
theorem dX8_lease_53 : decode cX8_lease 53 = .ok (.aastore, 1) := by decide +kernel
theorem dX8_lease_54 : decode cX8_lease 54 = .ok (.iconst 0, 1) := by decide +kernel
theorem dX8_lease_55 : decode cX8_lease 55 = .ok (.istore_n 3, 1) := by decide +kernel
theorem dX8_lease_56 : decode cX8_lease 56 = .ok (.aload_n 0, 1) := by decide +kernel
theorem dX8_lease_57 : decode cX8_lease 57 = .ok (.getfield 24, 3) := by decide +kernel
theorem dX8_lease_60 : decode cX8_lease 60 = .ok (.astore 4, 2) := by decide +kernel
theorem dX8_lease_62 : decode cX8_lease 62 = .ok (.aload 4, 2) := by decide +kernel
theorem dX8_lease_64 : decode cX8_lease 64 = .ok (.arraylength, 1) := by decide +kernel
theorem dX8_lease_65 : decode cX8_lease 65 = .ok (.istore 5, 2) := by decide +kernel
theorem dX8_lease_67 : decode cX8_lease 67 = .ok (.iconst 0, 1) := by decide +kernel
theorem dX8_lease_68 : decode cX8_lease 68 = .ok (.istore 6, 2) := by decide +kernel
theorem dX8_lease_70 : decode cX8_lease 70 = .ok (.iload 6, 2) := by decide +kernel
theorem dX8_lease_72 : decode cX8_lease 72 = .ok (.iload 5, 2) := by decide +kernel
theorem dX8_lease_74 : decode cX8_lease 74 = .ok (.if_icmp .ge 51, 3) := by decide +kernel
theorem dX8_lease_77 : decode cX8_lease 77 = .ok (.aload 4, 2) := by decide +kernel
theorem dX8_lease_79 : decode cX8_lease 79 = .ok (.iload 6, 2) := by decide +kernel
theorem dX8_lease_81 : decode cX8_lease 81 = .ok (.aaload, 1) := by decide +kernel
theorem dX8_lease_82 : decode cX8_lease 82 = .ok (.astore 7, 2) := by decide +kernel
theorem dX8_lease_84 : decode cX8_lease 84 = .ok (.aload 7, 2) := by decide +kernel
theorem dX8_lease_86 : decode cX8_lease 86 = .ok (.iconst 3, 1) := by decide +kernel
theorem dX8_lease_87 : decode cX8_lease 87 = .ok (.iaload, 1) := by decide +kernel
theorem dX8_lease_88 : decode cX8_lease 88 = .ok (.iconst 1, 1) := by decide +kernel
theorem dX8_lease_89 : decode cX8_lease 89 = .ok (.if_icmp .ne 30, 3) := by decide +kernel
theorem dX8_lease_92 : decode cX8_lease 92 = .ok (.aload 7, 2) := by decide +kernel
theorem dX8_lease_94 : decode cX8_lease 94 = .ok (.iconst 0, 1) := by decide +kernel
theorem dX8_lease_95 : decode cX8_lease 95 = .ok (.iaload, 1) := by decide +kernel
theorem dX8_lease_96 : decode cX8_lease 96 = .ok (.iload_n 2, 1) := by decide +kernel
theorem dX8_lease_97 : decode cX8_lease 97 = .ok (.if_icmp .ne 22, 3) := by decide +kernel
theorem dX8_lease_100 : decode cX8_lease 100 = .ok (.aload 7, 2) := by decide +kernel
theorem dX8_lease_102 : decode cX8_lease 102 = .ok (.iconst 4, 1) := by decide +kernel
theorem dX8_lease_103 : decode cX8_lease 103 = .ok (.iaload, 1) := by decide +kernel
theorem dX8_lease_104 : decode cX8_lease 104 = .ok (.ifCond .lt 6, 3) := by decide +kernel
theorem dX8_lease_107 : decode cX8_lease 107 = .ok (.goto 12, 3) := by decide +kernel
theorem dX8_lease_110 : decode cX8_lease 110 = .ok (.aload_n 0, 1) := by decide +kernel
theorem dX8_lease_111 : decode cX8_lease 111 = .ok (.aload 7, 2) := by decide +kernel
theorem dX8_lease_113 : decode cX8_lease 113 = .ok (.invokevirtual 58, 3) := by decide +kernel
theorem dX8_lease_116 : decode cX8_lease 116 = .ok (.iinc 3 1, 3) := by decide +kernel
theorem dX8_lease_119 : decode cX8_lease 119 = .ok (.iinc 6 1, 3) := by decide +kernel
theorem dX8_lease_122 : decode cX8_lease 122 = .ok (.goto (-52), 3) := by decide +kernel
theorem dX8_lease_125 : decode cX8_lease 125 = .ok (.iload_n 3, 1) := by decide +kernel
theorem dX8_lease_126 : decode cX8_lease 126 = .ok (.ireturn, 1) := by decide +kernel
theorem dX8_release_0 : decode cX8_release 0 = .ok (.aload_n 0, 1) := by decide +kernel
theorem dX8_release_1 : decode cX8_release 1 = .ok (.getfield 21, 3) := by decide +kernel
theorem dX8_release_4 : decode cX8_release 4 = .ok (.iload_n 2, 1) := by decide +kernel
theorem dX8_release_5 : decode cX8_release 5 = .ok (.aaload, 1) := by decide +kernel
theorem dX8_release_6 : decode cX8_release 6 = .ok (.iload_n 1, 1) := by decide +kernel
theorem dX8_release_7 : decode cX8_release 7 = .ok (.invokestatic 62, 3) := by decide +kernel
theorem dX8_release_10 : decode cX8_release 10 = .ok (.istore_n 3, 1) := by decide +kernel
theorem dX8_release_11 : decode cX8_release 11 = .ok (.iload_n 3, 1) := by decide +kernel
theorem dX8_release_12 : decode cX8_release 12 = .ok (.ifCond .ge 5, 3) := by decide +kernel
theorem dX8_release_15 : decode cX8_release 15 = .ok (.iconst (-1), 1) := by decide +kernel
theorem dX8_release_16 : decode cX8_release 16 = .ok (.ireturn, 1) := by decide +kernel
theorem dX8_release_17 : decode cX8_release 17 = .ok (.aload_n 0, 1) := by decide +kernel
theorem dX8_release_18 : decode cX8_release 18 = .ok (.getfield 21, 3) := by decide +kernel
theorem dX8_release_21 : decode cX8_release 21 = .ok (.iload_n 2, 1) := by decide +kernel
theorem dX8_release_22 : decode cX8_release 22 = .ok (.aload_n 0, 1) := by decide +kernel
theorem dX8_release_23 : decode cX8_release 23 = .ok (.getfield 21, 3) := by decide +kernel
theorem dX8_release_26 : decode cX8_release 26 = .ok (.iload_n 2, 1) := by decide +kernel
theorem dX8_release_27 : decode cX8_release 27 = .ok (.aaload, 1) := by decide +kernel
theorem dX8_release_28 : decode cX8_release 28 = .ok (.iload_n 3, 1) := by decide +kernel
theorem dX8_release_29 : decode cX8_release 29 = .ok (.invokestatic 66, 3) := by decide +kernel
theorem dX8_release_32 : decode cX8_release 32 = .ok (.aastore, 1) := by decide +kernel
theorem dX8_release_33 : decode cX8_release 33 = .ok (.iconst 0, 1) := by decide +kernel
theorem dX8_release_34 : decode cX8_release 34 = .ok (.istore 4, 2) := by decide +kernel
theorem dX8_release_36 : decode cX8_release 36 = .ok (.aload_n 0, 1) := by decide +kernel
theorem dX8_release_37 : decode cX8_release 37 = .ok (.getfield 24, 3) := by decide +kernel
theorem dX8_release_40 : decode cX8_release 40 = .ok (.astore 5, 2) := by decide +kernel
theorem dX8_release_42 : decode cX8_release 42 = .ok (.aload 5, 2) := by decide +kernel
theorem dX8_release_44 : decode cX8_release 44 = .ok (.arraylength, 1) := by decide +kernel
theorem dX8_release_45 : decode cX8_release 45 = .ok (.istore 6, 2) := by decide +kernel
theorem dX8_release_47 : decode cX8_release 47 = .ok (.iconst 0, 1) := by decide +kernel
theorem dX8_release_48 : decode cX8_release 48 = .ok (.istore 7, 2) := by decide +kernel
theorem dX8_release_50 : decode cX8_release 50 = .ok (.iload 7, 2) := by decide +kernel
theorem dX8_release_52 : decode cX8_release 52 = .ok (.iload 6, 2) := by decide +kernel
theorem dX8_release_54 : decode cX8_release 54 = .ok (.if_icmp .ge 52, 3) := by decide +kernel
theorem dX8_release_57 : decode cX8_release 57 = .ok (.aload 5, 2) := by decide +kernel
theorem dX8_release_59 : decode cX8_release 59 = .ok (.iload 7, 2) := by decide +kernel
theorem dX8_release_61 : decode cX8_release 61 = .ok (.aaload, 1) := by decide +kernel
theorem dX8_release_62 : decode cX8_release 62 = .ok (.astore 8, 2) := by decide +kernel
theorem dX8_release_64 : decode cX8_release 64 = .ok (.aload 8, 2) := by decide +kernel
theorem dX8_release_66 : decode cX8_release 66 = .ok (.iconst 3, 1) := by decide +kernel
theorem dX8_release_67 : decode cX8_release 67 = .ok (.iaload, 1) := by decide +kernel
theorem dX8_release_68 : decode cX8_release 68 = .ok (.iconst 1, 1) := by decide +kernel
theorem dX8_release_69 : decode cX8_release 69 = .ok (.if_icmp .ne 31, 3) := by decide +kernel
theorem dX8_release_72 : decode cX8_release 72 = .ok (.aload 8, 2) := by decide +kernel
theorem dX8_release_74 : decode cX8_release 74 = .ok (.iconst 0, 1) := by decide +kernel
theorem dX8_release_75 : decode cX8_release 75 = .ok (.iaload, 1) := by decide +kernel
theorem dX8_release_76 : decode cX8_release 76 = .ok (.iload_n 2, 1) := by decide +kernel
theorem dX8_release_77 : decode cX8_release 77 = .ok (.if_icmp .ne 23, 3) := by decide +kernel
theorem dX8_release_80 : decode cX8_release 80 = .ok (.aload 8, 2) := by decide +kernel
theorem dX8_release_82 : decode cX8_release 82 = .ok (.iconst 4, 1) := by decide +kernel
theorem dX8_release_83 : decode cX8_release 83 = .ok (.iaload, 1) := by decide +kernel
theorem dX8_release_84 : decode cX8_release 84 = .ok (.iload_n 1, 1) := by decide +kernel
theorem dX8_release_85 : decode cX8_release 85 = .ok (.if_icmp .eq 6, 3) := by decide +kernel
theorem dX8_release_88 : decode cX8_release 88 = .ok (.goto 12, 3) := by decide +kernel
theorem dX8_release_91 : decode cX8_release 91 = .ok (.aload_n 0, 1) := by decide +kernel
theorem dX8_release_92 : decode cX8_release 92 = .ok (.aload 8, 2) := by decide +kernel
theorem dX8_release_94 : decode cX8_release 94 = .ok (.invokevirtual 58, 3) := by decide +kernel
theorem dX8_release_97 : decode cX8_release 97 = .ok (.iinc 4 1, 3) := by decide +kernel
theorem dX8_release_100 : decode cX8_release 100 = .ok (.iinc 7 1, 3) := by decide +kernel
theorem dX8_release_103 : decode cX8_release 103 = .ok (.goto (-53), 3) := by decide +kernel
theorem dX8_release_106 : decode cX8_release 106 = .ok (.iload 4, 2) := by decide +kernel
theorem dX8_release_108 : decode cX8_release 108 = .ok (.ireturn, 1) := by decide +kernel
theorem dX8_count_0 : decode cX8_count 0 = .ok (.iconst 0, 1) := by decide +kernel
theorem dX8_count_1 : decode cX8_count 1 = .ok (.istore_n 2, 1) := by decide +kernel
theorem dX8_count_2 : decode cX8_count 2 = .ok (.aload_n 0, 1) := by decide +kernel
theorem dX8_count_3 : decode cX8_count 3 = .ok (.getfield 24, 3) := by decide +kernel
theorem dX8_count_6 : decode cX8_count 6 = .ok (.astore_n 3, 1) := by decide +kernel
theorem dX8_count_7 : decode cX8_count 7 = .ok (.aload_n 3, 1) := by decide +kernel
theorem dX8_count_8 : decode cX8_count 8 = .ok (.arraylength, 1) := by decide +kernel
theorem dX8_count_9 : decode cX8_count 9 = .ok (.istore 4, 2) := by decide +kernel
theorem dX8_count_11 : decode cX8_count 11 = .ok (.iconst 0, 1) := by decide +kernel
theorem dX8_count_12 : decode cX8_count 12 = .ok (.istore 5, 2) := by decide +kernel
theorem dX8_count_14 : decode cX8_count 14 = .ok (.iload 5, 2) := by decide +kernel
theorem dX8_count_16 : decode cX8_count 16 = .ok (.iload 4, 2) := by decide +kernel
theorem dX8_count_18 : decode cX8_count 18 = .ok (.if_icmp .ge 26, 3) := by decide +kernel
theorem dX8_count_21 : decode cX8_count 21 = .ok (.aload_n 3, 1) := by decide +kernel
theorem dX8_count_22 : decode cX8_count 22 = .ok (.iload 5, 2) := by decide +kernel
theorem dX8_count_24 : decode cX8_count 24 = .ok (.aaload, 1) := by decide +kernel
theorem dX8_count_25 : decode cX8_count 25 = .ok (.astore 6, 2) := by decide +kernel
theorem dX8_count_27 : decode cX8_count 27 = .ok (.aload 6, 2) := by decide +kernel
theorem dX8_count_29 : decode cX8_count 29 = .ok (.iconst 3, 1) := by decide +kernel
theorem dX8_count_30 : decode cX8_count 30 = .ok (.iaload, 1) := by decide +kernel
theorem dX8_count_31 : decode cX8_count 31 = .ok (.iload_n 1, 1) := by decide +kernel
theorem dX8_count_32 : decode cX8_count 32 = .ok (.if_icmp .ne 6, 3) := by decide +kernel
theorem dX8_count_35 : decode cX8_count 35 = .ok (.iinc 2 1, 3) := by decide +kernel
theorem dX8_count_38 : decode cX8_count 38 = .ok (.iinc 5 1, 3) := by decide +kernel
theorem dX8_count_41 : decode cX8_count 41 = .ok (.goto (-27), 3) := by decide +kernel
theorem dX8_count_44 : decode cX8_count 44 = .ok (.iload_n 2, 1) := by decide +kernel
theorem dX8_count_45 : decode cX8_count 45 = .ok (.ireturn, 1) := by decide +kernel
theorem dX8_told_0 : decode cX8_told 0 = .ok (.iconst 0, 1) := by decide +kernel
theorem dX8_told_1 : decode cX8_told 1 = .ok (.istore_n 2, 1) := by decide +kernel
theorem dX8_told_2 : decode cX8_told 2 = .ok (.aload_n 0, 1) := by decide +kernel
theorem dX8_told_3 : decode cX8_told 3 = .ok (.getfield 32, 3) := by decide +kernel
theorem dX8_told_6 : decode cX8_told 6 = .ok (.istore_n 3, 1) := by decide +kernel
theorem dX8_told_7 : decode cX8_told 7 = .ok (.aload_n 0, 1) := by decide +kernel
theorem dX8_told_8 : decode cX8_told 8 = .ok (.getfield 14, 3) := by decide +kernel
theorem dX8_told_11 : decode cX8_told 11 = .ok (.astore 4, 2) := by decide +kernel
theorem dX8_told_13 : decode cX8_told 13 = .ok (.aload 4, 2) := by decide +kernel
theorem dX8_told_15 : decode cX8_told 15 = .ok (.arraylength, 1) := by decide +kernel
theorem dX8_told_16 : decode cX8_told 16 = .ok (.istore 5, 2) := by decide +kernel
theorem dX8_told_18 : decode cX8_told 18 = .ok (.iconst 0, 1) := by decide +kernel
theorem dX8_told_19 : decode cX8_told 19 = .ok (.istore 6, 2) := by decide +kernel
theorem dX8_told_21 : decode cX8_told 21 = .ok (.iload 6, 2) := by decide +kernel
theorem dX8_told_23 : decode cX8_told 23 = .ok (.iload 5, 2) := by decide +kernel
theorem dX8_told_25 : decode cX8_told 25 = .ok (.if_icmp .ge 30, 3) := by decide +kernel
theorem dX8_told_28 : decode cX8_told 28 = .ok (.aload 4, 2) := by decide +kernel
theorem dX8_told_30 : decode cX8_told 30 = .ok (.iload 6, 2) := by decide +kernel
theorem dX8_told_32 : decode cX8_told 32 = .ok (.aaload, 1) := by decide +kernel
theorem dX8_told_33 : decode cX8_told 33 = .ok (.astore 7, 2) := by decide +kernel
theorem dX8_told_35 : decode cX8_told 35 = .ok (.iload_n 2, 1) := by decide +kernel
theorem dX8_told_36 : decode cX8_told 36 = .ok (.aload 7, 2) := by decide +kernel
theorem dX8_told_38 : decode cX8_told 38 = .ok (.iconst 2, 1) := by decide +kernel
theorem dX8_told_39 : decode cX8_told 39 = .ok (.iaload, 1) := by decide +kernel
theorem dX8_told_40 : decode cX8_told 40 = .ok (.iadd, 1) := by decide +kernel
theorem dX8_told_41 : decode cX8_told 41 = .ok (.istore_n 2, 1) := by decide +kernel
theorem dX8_told_42 : decode cX8_told 42 = .ok (.iload_n 3, 1) := by decide +kernel
theorem dX8_told_43 : decode cX8_told 43 = .ok (.aload 7, 2) := by decide +kernel
theorem dX8_told_45 : decode cX8_told 45 = .ok (.iconst 0, 1) := by decide +kernel
theorem dX8_told_46 : decode cX8_told 46 = .ok (.iaload, 1) := by decide +kernel
theorem dX8_told_47 : decode cX8_told 47 = .ok (.iadd, 1) := by decide +kernel
theorem dX8_told_48 : decode cX8_told 48 = .ok (.istore_n 3, 1) := by decide +kernel
theorem dX8_told_49 : decode cX8_told 49 = .ok (.iinc 6 1, 3) := by decide +kernel
theorem dX8_told_52 : decode cX8_told 52 = .ok (.goto (-31), 3) := by decide +kernel
theorem dX8_told_55 : decode cX8_told 55 = .ok (.aload_n 0, 1) := by decide +kernel
theorem dX8_told_56 : decode cX8_told 56 = .ok (.getfield 18, 3) := by decide +kernel
theorem dX8_told_59 : decode cX8_told 59 = .ok (.astore 4, 2) := by decide +kernel
theorem dX8_told_61 : decode cX8_told 61 = .ok (.aload 4, 2) := by decide +kernel
theorem dX8_told_63 : decode cX8_told 63 = .ok (.arraylength, 1) := by decide +kernel
theorem dX8_told_64 : decode cX8_told 64 = .ok (.istore 5, 2) := by decide +kernel
theorem dX8_told_66 : decode cX8_told 66 = .ok (.iconst 0, 1) := by decide +kernel
theorem dX8_told_67 : decode cX8_told 67 = .ok (.istore 6, 2) := by decide +kernel
theorem dX8_told_69 : decode cX8_told 69 = .ok (.iload 6, 2) := by decide +kernel
theorem dX8_told_71 : decode cX8_told 71 = .ok (.iload 5, 2) := by decide +kernel
theorem dX8_told_73 : decode cX8_told 73 = .ok (.if_icmp .ge 23, 3) := by decide +kernel
theorem dX8_told_76 : decode cX8_told 76 = .ok (.aload 4, 2) := by decide +kernel
theorem dX8_told_78 : decode cX8_told 78 = .ok (.iload 6, 2) := by decide +kernel
theorem dX8_told_80 : decode cX8_told 80 = .ok (.aaload, 1) := by decide +kernel
theorem dX8_told_81 : decode cX8_told 81 = .ok (.astore 7, 2) := by decide +kernel
theorem dX8_told_83 : decode cX8_told 83 = .ok (.iload_n 3, 1) := by decide +kernel
theorem dX8_told_84 : decode cX8_told 84 = .ok (.aload 7, 2) := by decide +kernel
theorem dX8_told_86 : decode cX8_told 86 = .ok (.iconst 2, 1) := by decide +kernel
theorem dX8_told_87 : decode cX8_told 87 = .ok (.iaload, 1) := by decide +kernel
theorem dX8_told_88 : decode cX8_told 88 = .ok (.iadd, 1) := by decide +kernel
theorem dX8_told_89 : decode cX8_told 89 = .ok (.istore_n 3, 1) := by decide +kernel
theorem dX8_told_90 : decode cX8_told 90 = .ok (.iinc 6 1, 3) := by decide +kernel
theorem dX8_told_93 : decode cX8_told 93 = .ok (.goto (-24), 3) := by decide +kernel
theorem dX8_told_96 : decode cX8_told 96 = .ok (.iload_n 1, 1) := by decide +kernel
theorem dX8_told_97 : decode cX8_told 97 = .ok (.ifCond .ne 10, 3) := by decide +kernel
theorem dX8_told_100 : decode cX8_told 100 = .ok (.aload_n 0, 1) := by decide +kernel
theorem dX8_told_101 : decode cX8_told 101 = .ok (.getfield 28, 3) := by decide +kernel
theorem dX8_told_104 : decode cX8_told 104 = .ok (.goto 81, 3) := by decide +kernel
theorem dX8_told_107 : decode cX8_told 107 = .ok (.iload_n 1, 1) := by decide +kernel
theorem dX8_told_108 : decode cX8_told 108 = .ok (.iconst 1, 1) := by decide +kernel
theorem dX8_told_109 : decode cX8_told 109 = .ok (.if_icmp .ne 11, 3) := by decide +kernel
theorem dX8_told_112 : decode cX8_told 112 = .ok (.aload_n 0, 1) := by decide +kernel
theorem dX8_told_113 : decode cX8_told 113 = .ok (.getfield 14, 3) := by decide +kernel
theorem dX8_told_116 : decode cX8_told 116 = .ok (.arraylength, 1) := by decide +kernel
theorem dX8_told_117 : decode cX8_told 117 = .ok (.goto 68, 3) := by decide +kernel
theorem dX8_told_120 : decode cX8_told 120 = .ok (.iload_n 1, 1) := by decide +kernel
theorem dX8_told_121 : decode cX8_told 121 = .ok (.iconst 2, 1) := by decide +kernel
theorem dX8_told_122 : decode cX8_told 122 = .ok (.if_icmp .ne 11, 3) := by decide +kernel
theorem dX8_told_125 : decode cX8_told 125 = .ok (.aload_n 0, 1) := by decide +kernel
theorem dX8_told_126 : decode cX8_told 126 = .ok (.getfield 18, 3) := by decide +kernel
theorem dX8_told_129 : decode cX8_told 129 = .ok (.arraylength, 1) := by decide +kernel
theorem dX8_told_130 : decode cX8_told 130 = .ok (.goto 55, 3) := by decide +kernel
theorem dX8_told_133 : decode cX8_told 133 = .ok (.iload_n 1, 1) := by decide +kernel
theorem dX8_told_134 : decode cX8_told 134 = .ok (.iconst 3, 1) := by decide +kernel
theorem dX8_told_135 : decode cX8_told 135 = .ok (.if_icmp .ne 11, 3) := by decide +kernel
theorem dX8_told_138 : decode cX8_told 138 = .ok (.aload_n 0, 1) := by decide +kernel
theorem dX8_told_139 : decode cX8_told 139 = .ok (.getfield 24, 3) := by decide +kernel
theorem dX8_told_142 : decode cX8_told 142 = .ok (.arraylength, 1) := by decide +kernel
theorem dX8_told_143 : decode cX8_told 143 = .ok (.goto 42, 3) := by decide +kernel
theorem dX8_told_146 : decode cX8_told 146 = .ok (.iload_n 1, 1) := by decide +kernel
theorem dX8_told_147 : decode cX8_told 147 = .ok (.iconst 4, 1) := by decide +kernel
theorem dX8_told_148 : decode cX8_told 148 = .ok (.if_icmp .ne 10, 3) := by decide +kernel
theorem dX8_told_151 : decode cX8_told 151 = .ok (.aload_n 0, 1) := by decide +kernel
theorem dX8_told_152 : decode cX8_told 152 = .ok (.getfield 32, 3) := by decide +kernel
theorem dX8_told_155 : decode cX8_told 155 = .ok (.goto 30, 3) := by decide +kernel
theorem dX8_told_158 : decode cX8_told 158 = .ok (.iload_n 1, 1) := by decide +kernel
theorem dX8_told_159 : decode cX8_told 159 = .ok (.bipush 8, 2) := by decide +kernel
theorem dX8_told_161 : decode cX8_told 161 = .ok (.if_icmp .ge 13, 3) := by decide +kernel
theorem dX8_told_164 : decode cX8_told 164 = .ok (.aload_n 0, 1) := by decide +kernel
theorem dX8_told_165 : decode cX8_told 165 = .ok (.iload_n 1, 1) := by decide +kernel
theorem dX8_told_166 : decode cX8_told 166 = .ok (.iconst 4, 1) := by decide +kernel
theorem dX8_told_167 : decode cX8_told 167 = .ok (.isub, 1) := by decide +kernel
theorem dX8_told_168 : decode cX8_told 168 = .ok (.invokevirtual 104, 3) := by decide +kernel
theorem dX8_told_171 : decode cX8_told 171 = .ok (.goto 14, 3) := by decide +kernel
theorem dX8_told_174 : decode cX8_told 174 = .ok (.iload_n 1, 1) := by decide +kernel
theorem dX8_told_175 : decode cX8_told 175 = .ok (.bipush 8, 2) := by decide +kernel
theorem dX8_told_177 : decode cX8_told 177 = .ok (.if_icmp .ne 7, 3) := by decide +kernel
theorem dX8_told_180 : decode cX8_told 180 = .ok (.iload_n 2, 1) := by decide +kernel
theorem dX8_told_181 : decode cX8_told 181 = .ok (.goto 4, 3) := by decide +kernel
theorem dX8_told_184 : decode cX8_told 184 = .ok (.iload_n 3, 1) := by decide +kernel
theorem dX8_told_185 : decode cX8_told 185 = .ok (.ireturn, 1) := by decide +kernel
theorem dX8_ofHandler_0 : decode cX8_ofHandler 0 = .ok (.iconst 0, 1) := by decide +kernel
theorem dX8_ofHandler_1 : decode cX8_ofHandler 1 = .ok (.istore_n 3, 1) := by decide +kernel
theorem dX8_ofHandler_2 : decode cX8_ofHandler 2 = .ok (.aload_n 0, 1) := by decide +kernel
theorem dX8_ofHandler_3 : decode cX8_ofHandler 3 = .ok (.getfield 21, 3) := by decide +kernel
theorem dX8_ofHandler_6 : decode cX8_ofHandler 6 = .ok (.astore 4, 2) := by decide +kernel
theorem dX8_ofHandler_8 : decode cX8_ofHandler 8 = .ok (.aload 4, 2) := by decide +kernel
theorem dX8_ofHandler_10 : decode cX8_ofHandler 10 = .ok (.arraylength, 1) := by decide +kernel
theorem dX8_ofHandler_11 : decode cX8_ofHandler 11 = .ok (.istore 5, 2) := by decide +kernel
theorem dX8_ofHandler_13 : decode cX8_ofHandler 13 = .ok (.iconst 0, 1) := by decide +kernel
theorem dX8_ofHandler_14 : decode cX8_ofHandler 14 = .ok (.istore 6, 2) := by decide +kernel
theorem dX8_ofHandler_16 : decode cX8_ofHandler 16 = .ok (.iload 6, 2) := by decide +kernel
theorem dX8_ofHandler_18 : decode cX8_ofHandler 18 = .ok (.iload 5, 2) := by decide +kernel
theorem dX8_ofHandler_20 : decode cX8_ofHandler 20 = .ok (.if_icmp .ge 28, 3) := by decide +kernel
theorem dX8_ofHandler_23 : decode cX8_ofHandler 23 = .ok (.aload 4, 2) := by decide +kernel
theorem dX8_ofHandler_25 : decode cX8_ofHandler 25 = .ok (.iload 6, 2) := by decide +kernel
theorem dX8_ofHandler_27 : decode cX8_ofHandler 27 = .ok (.aaload, 1) := by decide +kernel
theorem dX8_ofHandler_28 : decode cX8_ofHandler 28 = .ok (.astore 7, 2) := by decide +kernel
theorem dX8_ofHandler_30 : decode cX8_ofHandler 30 = .ok (.aload 7, 2) := by decide +kernel
theorem dX8_ofHandler_32 : decode cX8_ofHandler 32 = .ok (.iload_n 1, 1) := by decide +kernel
theorem dX8_ofHandler_33 : decode cX8_ofHandler 33 = .ok (.invokestatic 62, 3) := by decide +kernel
theorem dX8_ofHandler_36 : decode cX8_ofHandler 36 = .ok (.ifCond .lt 6, 3) := by decide +kernel
theorem dX8_ofHandler_39 : decode cX8_ofHandler 39 = .ok (.iinc 3 1, 3) := by decide +kernel
theorem dX8_ofHandler_42 : decode cX8_ofHandler 42 = .ok (.iinc 6 1, 3) := by decide +kernel
theorem dX8_ofHandler_45 : decode cX8_ofHandler 45 = .ok (.goto (-29), 3) := by decide +kernel
theorem dX8_ofHandler_48 : decode cX8_ofHandler 48 = .ok (.iload_n 2, 1) := by decide +kernel
theorem dX8_ofHandler_49 : decode cX8_ofHandler 49 = .ok (.iconst 3, 1) := by decide +kernel
theorem dX8_ofHandler_50 : decode cX8_ofHandler 50 = .ok (.if_icmp .ge 14, 3) := by decide +kernel
theorem dX8_ofHandler_53 : decode cX8_ofHandler 53 = .ok (.aload_n 0, 1) := by decide +kernel
theorem dX8_ofHandler_54 : decode cX8_ofHandler 54 = .ok (.getfield 14, 3) := by decide +kernel
theorem dX8_ofHandler_57 : decode cX8_ofHandler 57 = .ok (.iload_n 1, 1) := by decide +kernel
theorem dX8_ofHandler_58 : decode cX8_ofHandler 58 = .ok (.aaload, 1) := by decide +kernel
theorem dX8_ofHandler_59 : decode cX8_ofHandler 59 = .ok (.iload_n 2, 1) := by decide +kernel
theorem dX8_ofHandler_60 : decode cX8_ofHandler 60 = .ok (.iaload, 1) := by decide +kernel
theorem dX8_ofHandler_61 : decode cX8_ofHandler 61 = .ok (.goto 35, 3) := by decide +kernel
theorem dX8_ofHandler_64 : decode cX8_ofHandler 64 = .ok (.iload_n 2, 1) := by decide +kernel
theorem dX8_ofHandler_65 : decode cX8_ofHandler 65 = .ok (.iconst 3, 1) := by decide +kernel
theorem dX8_ofHandler_66 : decode cX8_ofHandler 66 = .ok (.if_icmp .ne 11, 3) := by decide +kernel
theorem dX8_ofHandler_69 : decode cX8_ofHandler 69 = .ok (.aload_n 0, 1) := by decide +kernel
theorem dX8_ofHandler_70 : decode cX8_ofHandler 70 = .ok (.iload_n 1, 1) := by decide +kernel
theorem dX8_ofHandler_71 : decode cX8_ofHandler 71 = .ok (.invokevirtual 45, 3) := by decide +kernel
theorem dX8_ofHandler_74 : decode cX8_ofHandler 74 = .ok (.goto 22, 3) := by decide +kernel
theorem dX8_ofHandler_77 : decode cX8_ofHandler 77 = .ok (.iload_n 2, 1) := by decide +kernel
theorem dX8_ofHandler_78 : decode cX8_ofHandler 78 = .ok (.iconst 4, 1) := by decide +kernel
theorem dX8_ofHandler_79 : decode cX8_ofHandler 79 = .ok (.if_icmp .ne 7, 3) := by decide +kernel
theorem dX8_ofHandler_82 : decode cX8_ofHandler 82 = .ok (.iload_n 3, 1) := by decide +kernel
theorem dX8_ofHandler_83 : decode cX8_ofHandler 83 = .ok (.goto 13, 3) := by decide +kernel
theorem dX8_ofHandler_86 : decode cX8_ofHandler 86 = .ok (.aload_n 0, 1) := by decide +kernel
theorem dX8_ofHandler_87 : decode cX8_ofHandler 87 = .ok (.getfield 14, 3) := by decide +kernel
theorem dX8_ofHandler_90 : decode cX8_ofHandler 90 = .ok (.iload_n 1, 1) := by decide +kernel
theorem dX8_ofHandler_91 : decode cX8_ofHandler 91 = .ok (.aaload, 1) := by decide +kernel
theorem dX8_ofHandler_92 : decode cX8_ofHandler 92 = .ok (.iload_n 2, 1) := by decide +kernel
theorem dX8_ofHandler_93 : decode cX8_ofHandler 93 = .ok (.iconst 2, 1) := by decide +kernel
theorem dX8_ofHandler_94 : decode cX8_ofHandler 94 = .ok (.isub, 1) := by decide +kernel
theorem dX8_ofHandler_95 : decode cX8_ofHandler 95 = .ok (.iaload, 1) := by decide +kernel
theorem dX8_ofHandler_96 : decode cX8_ofHandler 96 = .ok (.ireturn, 1) := by decide +kernel
theorem dX8_ofLine_0 : decode cX8_ofLine 0 = .ok (.iconst 0, 1) := by decide +kernel
theorem dX8_ofLine_1 : decode cX8_ofLine 1 = .ok (.istore_n 3, 1) := by decide +kernel
theorem dX8_ofLine_2 : decode cX8_ofLine 2 = .ok (.aload_n 0, 1) := by decide +kernel
theorem dX8_ofLine_3 : decode cX8_ofLine 3 = .ok (.getfield 24, 3) := by decide +kernel
theorem dX8_ofLine_6 : decode cX8_ofLine 6 = .ok (.astore 4, 2) := by decide +kernel
theorem dX8_ofLine_8 : decode cX8_ofLine 8 = .ok (.aload 4, 2) := by decide +kernel
theorem dX8_ofLine_10 : decode cX8_ofLine 10 = .ok (.arraylength, 1) := by decide +kernel
theorem dX8_ofLine_11 : decode cX8_ofLine 11 = .ok (.istore 5, 2) := by decide +kernel
theorem dX8_ofLine_13 : decode cX8_ofLine 13 = .ok (.iconst 0, 1) := by decide +kernel
theorem dX8_ofLine_14 : decode cX8_ofLine 14 = .ok (.istore 6, 2) := by decide +kernel
theorem dX8_ofLine_16 : decode cX8_ofLine 16 = .ok (.iload 6, 2) := by decide +kernel
theorem dX8_ofLine_18 : decode cX8_ofLine 18 = .ok (.iload 5, 2) := by decide +kernel
theorem dX8_ofLine_20 : decode cX8_ofLine 20 = .ok (.if_icmp .ge 42, 3) := by decide +kernel
theorem dX8_ofLine_23 : decode cX8_ofLine 23 = .ok (.aload 4, 2) := by decide +kernel
theorem dX8_ofLine_25 : decode cX8_ofLine 25 = .ok (.iload 6, 2) := by decide +kernel
theorem dX8_ofLine_27 : decode cX8_ofLine 27 = .ok (.aaload, 1) := by decide +kernel
theorem dX8_ofLine_28 : decode cX8_ofLine 28 = .ok (.astore 7, 2) := by decide +kernel
theorem dX8_ofLine_30 : decode cX8_ofLine 30 = .ok (.aload 7, 2) := by decide +kernel
theorem dX8_ofLine_32 : decode cX8_ofLine 32 = .ok (.iconst 3, 1) := by decide +kernel
theorem dX8_ofLine_33 : decode cX8_ofLine 33 = .ok (.iaload, 1) := by decide +kernel
theorem dX8_ofLine_34 : decode cX8_ofLine 34 = .ok (.iconst 1, 1) := by decide +kernel
theorem dX8_ofLine_35 : decode cX8_ofLine 35 = .ok (.if_icmp .ne 21, 3) := by decide +kernel
theorem dX8_ofLine_38 : decode cX8_ofLine 38 = .ok (.aload 7, 2) := by decide +kernel
theorem dX8_ofLine_40 : decode cX8_ofLine 40 = .ok (.iconst 0, 1) := by decide +kernel
theorem dX8_ofLine_41 : decode cX8_ofLine 41 = .ok (.iaload, 1) := by decide +kernel
theorem dX8_ofLine_42 : decode cX8_ofLine 42 = .ok (.iload_n 1, 1) := by decide +kernel
theorem dX8_ofLine_43 : decode cX8_ofLine 43 = .ok (.if_icmp .ne 13, 3) := by decide +kernel
theorem dX8_ofLine_46 : decode cX8_ofLine 46 = .ok (.aload 7, 2) := by decide +kernel
theorem dX8_ofLine_48 : decode cX8_ofLine 48 = .ok (.iconst 4, 1) := by decide +kernel
theorem dX8_ofLine_49 : decode cX8_ofLine 49 = .ok (.iaload, 1) := by decide +kernel
theorem dX8_ofLine_50 : decode cX8_ofLine 50 = .ok (.ifCond .ge 6, 3) := by decide +kernel
theorem dX8_ofLine_53 : decode cX8_ofLine 53 = .ok (.iinc 3 1, 3) := by decide +kernel
theorem dX8_ofLine_56 : decode cX8_ofLine 56 = .ok (.iinc 6 1, 3) := by decide +kernel
theorem dX8_ofLine_59 : decode cX8_ofLine 59 = .ok (.goto (-43), 3) := by decide +kernel
theorem dX8_ofLine_62 : decode cX8_ofLine 62 = .ok (.iload_n 2, 1) := by decide +kernel
theorem dX8_ofLine_63 : decode cX8_ofLine 63 = .ok (.iconst 3, 1) := by decide +kernel
theorem dX8_ofLine_64 : decode cX8_ofLine 64 = .ok (.if_icmp .ge 14, 3) := by decide +kernel
theorem dX8_ofLine_67 : decode cX8_ofLine 67 = .ok (.aload_n 0, 1) := by decide +kernel
theorem dX8_ofLine_68 : decode cX8_ofLine 68 = .ok (.getfield 18, 3) := by decide +kernel
theorem dX8_ofLine_71 : decode cX8_ofLine 71 = .ok (.iload_n 1, 1) := by decide +kernel
theorem dX8_ofLine_72 : decode cX8_ofLine 72 = .ok (.aaload, 1) := by decide +kernel
theorem dX8_ofLine_73 : decode cX8_ofLine 73 = .ok (.iload_n 2, 1) := by decide +kernel
theorem dX8_ofLine_74 : decode cX8_ofLine 74 = .ok (.iaload, 1) := by decide +kernel
theorem dX8_ofLine_75 : decode cX8_ofLine 75 = .ok (.goto 19, 3) := by decide +kernel
theorem dX8_ofLine_78 : decode cX8_ofLine 78 = .ok (.iload_n 2, 1) := by decide +kernel
theorem dX8_ofLine_79 : decode cX8_ofLine 79 = .ok (.iconst 3, 1) := by decide +kernel
theorem dX8_ofLine_80 : decode cX8_ofLine 80 = .ok (.if_icmp .ne 13, 3) := by decide +kernel
theorem dX8_ofLine_83 : decode cX8_ofLine 83 = .ok (.aload_n 0, 1) := by decide +kernel
theorem dX8_ofLine_84 : decode cX8_ofLine 84 = .ok (.getfield 21, 3) := by decide +kernel
theorem dX8_ofLine_87 : decode cX8_ofLine 87 = .ok (.iload_n 1, 1) := by decide +kernel
theorem dX8_ofLine_88 : decode cX8_ofLine 88 = .ok (.aaload, 1) := by decide +kernel
theorem dX8_ofLine_89 : decode cX8_ofLine 89 = .ok (.arraylength, 1) := by decide +kernel
theorem dX8_ofLine_90 : decode cX8_ofLine 90 = .ok (.goto 4, 3) := by decide +kernel
theorem dX8_ofLine_93 : decode cX8_ofLine 93 = .ok (.iload_n 3, 1) := by decide +kernel
theorem dX8_ofLine_94 : decode cX8_ofLine 94 = .ok (.ireturn, 1) := by decide +kernel
theorem dX8_checksum_0 : decode cX8_checksum 0 = .ok (.lconst 0, 1) := by decide +kernel
theorem dX8_checksum_1 : decode cX8_checksum 1 = .ok (.lstore_n 1, 1) := by decide +kernel
theorem dX8_checksum_2 : decode cX8_checksum 2 = .ok (.iconst 0, 1) := by decide +kernel
theorem dX8_checksum_3 : decode cX8_checksum 3 = .ok (.istore_n 3, 1) := by decide +kernel
theorem dX8_checksum_4 : decode cX8_checksum 4 = .ok (.iload_n 3, 1) := by decide +kernel
theorem dX8_checksum_5 : decode cX8_checksum 5 = .ok (.bipush 10, 2) := by decide +kernel
theorem dX8_checksum_7 : decode cX8_checksum 7 = .ok (.if_icmp .ge 22, 3) := by decide +kernel
theorem dX8_checksum_10 : decode cX8_checksum 10 = .ok (.ldc2_w 107, 3) := by decide +kernel
theorem dX8_checksum_13 : decode cX8_checksum 13 = .ok (.lload_n 1, 1) := by decide +kernel
theorem dX8_checksum_14 : decode cX8_checksum 14 = .ok (.lmul, 1) := by decide +kernel
theorem dX8_checksum_15 : decode cX8_checksum 15 = .ok (.aload_n 0, 1) := by decide +kernel
theorem dX8_checksum_16 : decode cX8_checksum 16 = .ok (.iload_n 3, 1) := by decide +kernel
theorem dX8_checksum_17 : decode cX8_checksum 17 = .ok (.invokevirtual 109, 3) := by decide +kernel
theorem dX8_checksum_20 : decode cX8_checksum 20 = .ok (.i2l, 1) := by decide +kernel
theorem dX8_checksum_21 : decode cX8_checksum 21 = .ok (.ladd, 1) := by decide +kernel
theorem dX8_checksum_22 : decode cX8_checksum 22 = .ok (.lstore_n 1, 1) := by decide +kernel
theorem dX8_checksum_23 : decode cX8_checksum 23 = .ok (.iinc 3 1, 3) := by decide +kernel
theorem dX8_checksum_26 : decode cX8_checksum 26 = .ok (.goto (-22), 3) := by decide +kernel
theorem dX8_checksum_29 : decode cX8_checksum 29 = .ok (.iconst 0, 1) := by decide +kernel
theorem dX8_checksum_30 : decode cX8_checksum 30 = .ok (.istore_n 3, 1) := by decide +kernel
theorem dX8_checksum_31 : decode cX8_checksum 31 = .ok (.iload_n 3, 1) := by decide +kernel
theorem dX8_checksum_32 : decode cX8_checksum 32 = .ok (.aload_n 0, 1) := by decide +kernel
theorem dX8_checksum_33 : decode cX8_checksum 33 = .ok (.getfield 14, 3) := by decide +kernel
theorem dX8_checksum_36 : decode cX8_checksum 36 = .ok (.arraylength, 1) := by decide +kernel
theorem dX8_checksum_37 : decode cX8_checksum 37 = .ok (.if_icmp .ge 40, 3) := by decide +kernel
theorem dX8_checksum_40 : decode cX8_checksum 40 = .ok (.iconst 0, 1) := by decide +kernel
theorem dX8_checksum_41 : decode cX8_checksum 41 = .ok (.istore 4, 2) := by decide +kernel
theorem dX8_checksum_43 : decode cX8_checksum 43 = .ok (.iload 4, 2) := by decide +kernel
theorem dX8_checksum_45 : decode cX8_checksum 45 = .ok (.bipush 8, 2) := by decide +kernel
theorem dX8_checksum_47 : decode cX8_checksum 47 = .ok (.if_icmp .ge 24, 3) := by decide +kernel
theorem dX8_checksum_50 : decode cX8_checksum 50 = .ok (.ldc2_w 107, 3) := by decide +kernel
theorem dX8_checksum_53 : decode cX8_checksum 53 = .ok (.lload_n 1, 1) := by decide +kernel
theorem dX8_checksum_54 : decode cX8_checksum 54 = .ok (.lmul, 1) := by decide +kernel
theorem dX8_checksum_55 : decode cX8_checksum 55 = .ok (.aload_n 0, 1) := by decide +kernel
theorem dX8_checksum_56 : decode cX8_checksum 56 = .ok (.iload_n 3, 1) := by decide +kernel
theorem dX8_checksum_57 : decode cX8_checksum 57 = .ok (.iload 4, 2) := by decide +kernel
theorem dX8_checksum_59 : decode cX8_checksum 59 = .ok (.invokevirtual 112, 3) := by decide +kernel
theorem dX8_checksum_62 : decode cX8_checksum 62 = .ok (.i2l, 1) := by decide +kernel
theorem dX8_checksum_63 : decode cX8_checksum 63 = .ok (.ladd, 1) := by decide +kernel
theorem dX8_checksum_64 : decode cX8_checksum 64 = .ok (.lstore_n 1, 1) := by decide +kernel
theorem dX8_checksum_65 : decode cX8_checksum 65 = .ok (.iinc 4 1, 3) := by decide +kernel
theorem dX8_checksum_68 : decode cX8_checksum 68 = .ok (.goto (-25), 3) := by decide +kernel
theorem dX8_checksum_71 : decode cX8_checksum 71 = .ok (.iinc 3 1, 3) := by decide +kernel
theorem dX8_checksum_74 : decode cX8_checksum 74 = .ok (.goto (-43), 3) := by decide +kernel
theorem dX8_checksum_77 : decode cX8_checksum 77 = .ok (.iconst 0, 1) := by decide +kernel
theorem dX8_checksum_78 : decode cX8_checksum 78 = .ok (.istore_n 3, 1) := by decide +kernel
theorem dX8_checksum_79 : decode cX8_checksum 79 = .ok (.iload_n 3, 1) := by decide +kernel
theorem dX8_checksum_80 : decode cX8_checksum 80 = .ok (.aload_n 0, 1) := by decide +kernel
theorem dX8_checksum_81 : decode cX8_checksum 81 = .ok (.getfield 18, 3) := by decide +kernel
theorem dX8_checksum_84 : decode cX8_checksum 84 = .ok (.arraylength, 1) := by decide +kernel
theorem dX8_checksum_85 : decode cX8_checksum 85 = .ok (.if_icmp .ge 85, 3) := by decide +kernel
theorem dX8_checksum_88 : decode cX8_checksum 88 = .ok (.iconst 0, 1) := by decide +kernel
theorem dX8_checksum_89 : decode cX8_checksum 89 = .ok (.istore 4, 2) := by decide +kernel
theorem dX8_checksum_91 : decode cX8_checksum 91 = .ok (.iload 4, 2) := by decide +kernel
theorem dX8_checksum_93 : decode cX8_checksum 93 = .ok (.iconst 5, 1) := by decide +kernel
theorem dX8_checksum_94 : decode cX8_checksum 94 = .ok (.if_icmp .ge 24, 3) := by decide +kernel
theorem dX8_checksum_97 : decode cX8_checksum 97 = .ok (.ldc2_w 107, 3) := by decide +kernel
theorem dX8_checksum_100 : decode cX8_checksum 100 = .ok (.lload_n 1, 1) := by decide +kernel
theorem dX8_checksum_101 : decode cX8_checksum 101 = .ok (.lmul, 1) := by decide +kernel
theorem dX8_checksum_102 : decode cX8_checksum 102 = .ok (.aload_n 0, 1) := by decide +kernel
theorem dX8_checksum_103 : decode cX8_checksum 103 = .ok (.iload_n 3, 1) := by decide +kernel
theorem dX8_checksum_104 : decode cX8_checksum 104 = .ok (.iload 4, 2) := by decide +kernel
theorem dX8_checksum_106 : decode cX8_checksum 106 = .ok (.invokevirtual 115, 3) := by decide +kernel
theorem dX8_checksum_109 : decode cX8_checksum 109 = .ok (.i2l, 1) := by decide +kernel
theorem dX8_checksum_110 : decode cX8_checksum 110 = .ok (.ladd, 1) := by decide +kernel
theorem dX8_checksum_111 : decode cX8_checksum 111 = .ok (.lstore_n 1, 1) := by decide +kernel
theorem dX8_checksum_112 : decode cX8_checksum 112 = .ok (.iinc 4 1, 3) := by decide +kernel
theorem dX8_checksum_115 : decode cX8_checksum 115 = .ok (.goto (-24), 3) := by decide +kernel
theorem dX8_checksum_118 : decode cX8_checksum 118 = .ok (.aload_n 0, 1) := by decide +kernel
theorem dX8_checksum_119 : decode cX8_checksum 119 = .ok (.getfield 21, 3) := by decide +kernel
theorem dX8_checksum_122 : decode cX8_checksum 122 = .ok (.iload_n 3, 1) := by decide +kernel
theorem dX8_checksum_123 : decode cX8_checksum 123 = .ok (.aaload, 1) := by decide +kernel
theorem dX8_checksum_124 : decode cX8_checksum 124 = .ok (.astore 4, 2) := by decide +kernel
theorem dX8_checksum_126 : decode cX8_checksum 126 = .ok (.aload 4, 2) := by decide +kernel
theorem dX8_checksum_128 : decode cX8_checksum 128 = .ok (.arraylength, 1) := by decide +kernel
theorem dX8_checksum_129 : decode cX8_checksum 129 = .ok (.istore 5, 2) := by decide +kernel
theorem dX8_checksum_131 : decode cX8_checksum 131 = .ok (.iconst 0, 1) := by decide +kernel
theorem dX8_checksum_132 : decode cX8_checksum 132 = .ok (.istore 6, 2) := by decide +kernel
theorem dX8_checksum_134 : decode cX8_checksum 134 = .ok (.iload 6, 2) := by decide +kernel
theorem dX8_checksum_136 : decode cX8_checksum 136 = .ok (.iload 5, 2) := by decide +kernel
theorem dX8_checksum_138 : decode cX8_checksum 138 = .ok (.if_icmp .ge 26, 3) := by decide +kernel
theorem dX8_checksum_141 : decode cX8_checksum 141 = .ok (.aload 4, 2) := by decide +kernel
theorem dX8_checksum_143 : decode cX8_checksum 143 = .ok (.iload 6, 2) := by decide +kernel
theorem dX8_checksum_145 : decode cX8_checksum 145 = .ok (.iaload, 1) := by decide +kernel
theorem dX8_checksum_146 : decode cX8_checksum 146 = .ok (.istore 7, 2) := by decide +kernel
theorem dX8_checksum_148 : decode cX8_checksum 148 = .ok (.ldc2_w 107, 3) := by decide +kernel
theorem dX8_checksum_151 : decode cX8_checksum 151 = .ok (.lload_n 1, 1) := by decide +kernel
theorem dX8_checksum_152 : decode cX8_checksum 152 = .ok (.lmul, 1) := by decide +kernel
theorem dX8_checksum_153 : decode cX8_checksum 153 = .ok (.iload 7, 2) := by decide +kernel
theorem dX8_checksum_155 : decode cX8_checksum 155 = .ok (.i2l, 1) := by decide +kernel
theorem dX8_checksum_156 : decode cX8_checksum 156 = .ok (.ladd, 1) := by decide +kernel
theorem dX8_checksum_157 : decode cX8_checksum 157 = .ok (.lstore_n 1, 1) := by decide +kernel
theorem dX8_checksum_158 : decode cX8_checksum 158 = .ok (.iinc 6 1, 3) := by decide +kernel
theorem dX8_checksum_161 : decode cX8_checksum 161 = .ok (.goto (-27), 3) := by decide +kernel
theorem dX8_checksum_164 : decode cX8_checksum 164 = .ok (.iinc 3 1, 3) := by decide +kernel
theorem dX8_checksum_167 : decode cX8_checksum 167 = .ok (.goto (-88), 3) := by decide +kernel
theorem dX8_checksum_170 : decode cX8_checksum 170 = .ok (.aload_n 0, 1) := by decide +kernel
theorem dX8_checksum_171 : decode cX8_checksum 171 = .ok (.getfield 24, 3) := by decide +kernel
theorem dX8_checksum_174 : decode cX8_checksum 174 = .ok (.astore_n 3, 1) := by decide +kernel
theorem dX8_checksum_175 : decode cX8_checksum 175 = .ok (.aload_n 3, 1) := by decide +kernel
theorem dX8_checksum_176 : decode cX8_checksum 176 = .ok (.arraylength, 1) := by decide +kernel
theorem dX8_checksum_177 : decode cX8_checksum 177 = .ok (.istore 4, 2) := by decide +kernel
theorem dX8_checksum_179 : decode cX8_checksum 179 = .ok (.iconst 0, 1) := by decide +kernel
theorem dX8_checksum_180 : decode cX8_checksum 180 = .ok (.istore 5, 2) := by decide +kernel
theorem dX8_checksum_182 : decode cX8_checksum 182 = .ok (.iload 5, 2) := by decide +kernel
theorem dX8_checksum_184 : decode cX8_checksum 184 = .ok (.iload 4, 2) := by decide +kernel
theorem dX8_checksum_186 : decode cX8_checksum 186 = .ok (.if_icmp .ge 44, 3) := by decide +kernel
theorem dX8_checksum_189 : decode cX8_checksum 189 = .ok (.aload_n 3, 1) := by decide +kernel
theorem dX8_checksum_190 : decode cX8_checksum 190 = .ok (.iload 5, 2) := by decide +kernel
theorem dX8_checksum_192 : decode cX8_checksum 192 = .ok (.aaload, 1) := by decide +kernel
theorem dX8_checksum_193 : decode cX8_checksum 193 = .ok (.astore 6, 2) := by decide +kernel
theorem dX8_checksum_195 : decode cX8_checksum 195 = .ok (.iconst 0, 1) := by decide +kernel
theorem dX8_checksum_196 : decode cX8_checksum 196 = .ok (.istore 7, 2) := by decide +kernel
theorem dX8_checksum_198 : decode cX8_checksum 198 = .ok (.iload 7, 2) := by decide +kernel
theorem dX8_checksum_200 : decode cX8_checksum 200 = .ok (.bipush 7, 2) := by decide +kernel
theorem dX8_checksum_202 : decode cX8_checksum 202 = .ok (.if_icmp .ge 22, 3) := by decide +kernel
theorem dX8_checksum_205 : decode cX8_checksum 205 = .ok (.ldc2_w 107, 3) := by decide +kernel
theorem dX8_checksum_208 : decode cX8_checksum 208 = .ok (.lload_n 1, 1) := by decide +kernel
theorem dX8_checksum_209 : decode cX8_checksum 209 = .ok (.lmul, 1) := by decide +kernel
theorem dX8_checksum_210 : decode cX8_checksum 210 = .ok (.aload 6, 2) := by decide +kernel
theorem dX8_checksum_212 : decode cX8_checksum 212 = .ok (.iload 7, 2) := by decide +kernel
theorem dX8_checksum_214 : decode cX8_checksum 214 = .ok (.iaload, 1) := by decide +kernel
theorem dX8_checksum_215 : decode cX8_checksum 215 = .ok (.i2l, 1) := by decide +kernel
theorem dX8_checksum_216 : decode cX8_checksum 216 = .ok (.ladd, 1) := by decide +kernel
theorem dX8_checksum_217 : decode cX8_checksum 217 = .ok (.lstore_n 1, 1) := by decide +kernel
theorem dX8_checksum_218 : decode cX8_checksum 218 = .ok (.iinc 7 1, 3) := by decide +kernel
theorem dX8_checksum_221 : decode cX8_checksum 221 = .ok (.goto (-23), 3) := by decide +kernel
theorem dX8_checksum_224 : decode cX8_checksum 224 = .ok (.iinc 5 1, 3) := by decide +kernel
theorem dX8_checksum_227 : decode cX8_checksum 227 = .ok (.goto (-45), 3) := by decide +kernel
theorem dX8_checksum_230 : decode cX8_checksum 230 = .ok (.lload_n 1, 1) := by decide +kernel
theorem dX8_checksum_231 : decode cX8_checksum 231 = .ok (.lreturn, 1) := by decide +kernel
theorem dX9_init_0 : decode cX9_init 0 = .ok (.aload_n 0, 1) := by decide +kernel
theorem dX9_init_1 : decode cX9_init 1 = .ok (.invokespecial 1, 3) := by decide +kernel
theorem dX9_init_4 : decode cX9_init 4 = .ok (.return_, 1) := by decide +kernel
theorem dX9_random_0 : decode cX9_random 0 = .ok (.new 7, 3) := by decide +kernel
theorem dX9_random_3 : decode cX9_random 3 = .ok (.dup, 1) := by decide +kernel
theorem dX9_random_4 : decode cX9_random 4 = .ok (.invokespecial 9, 3) := by decide +kernel
theorem dX9_random_7 : decode cX9_random 7 = .ok (.astore_n 2, 1) := by decide +kernel
theorem dX9_random_8 : decode cX9_random 8 = .ok (.aload_n 2, 1) := by decide +kernel
theorem dX9_random_9 : decode cX9_random 9 = .ok (.iload_n 1, 1) := by decide +kernel
theorem dX9_random_10 : decode cX9_random 10 = .ok (.ifCond .ne 11, 3) := by decide +kernel
theorem dX9_random_13 : decode cX9_random 13 = .ok (.aload_n 0, 1) := by decide +kernel
theorem dX9_random_14 : decode cX9_random 14 = .ok (.iconst 2, 1) := by decide +kernel
theorem dX9_random_15 : decode cX9_random 15 = .ok (.invokevirtual 10, 3) := by decide +kernel
theorem dX9_random_18 : decode cX9_random 18 = .ok (.goto 9, 3) := by decide +kernel
theorem dX9_random_21 : decode cX9_random 21 = .ok (.aload_n 0, 1) := by decide +kernel
theorem dX9_random_22 : decode cX9_random 22 = .ok (.bipush 6, 2) := by decide +kernel
theorem dX9_random_24 : decode cX9_random 24 = .ok (.invokevirtual 10, 3) := by decide +kernel
theorem dX9_random_27 : decode cX9_random 27 = .ok (.putfield 16, 3) := by decide +kernel
theorem dX9_random_30 : decode cX9_random 30 = .ok (.aload_n 2, 1) := by decide +kernel
theorem dX9_random_31 : decode cX9_random 31 = .ok (.aload_n 2, 1) := by decide +kernel
theorem dX9_random_32 : decode cX9_random 32 = .ok (.getfield 16, 3) := by decide +kernel
theorem dX9_random_35 : decode cX9_random 35 = .ok (.ifCond .ne 27, 3) := by decide +kernel
theorem dX9_random_38 : decode cX9_random 38 = .ok (.aload_n 0, 1) := by decide +kernel
theorem dX9_random_39 : decode cX9_random 39 = .ok (.aload_n 0, 1) := by decide +kernel
theorem dX9_random_40 : decode cX9_random 40 = .ok (.bipush 8, 2) := by decide +kernel
theorem dX9_random_42 : decode cX9_random 42 = .ok (.invokevirtual 10, 3) := by decide +kernel
theorem dX9_random_45 : decode cX9_random 45 = .ok (.ifCond .ne 9, 3) := by decide +kernel
theorem dX9_random_48 : decode cX9_random 48 = .ok (.sipush 10000, 3) := by decide +kernel
theorem dX9_random_51 : decode cX9_random 51 = .ok (.goto 5, 3) := by decide +kernel
theorem dX9_random_54 : decode cX9_random 54 = .ok (.bipush 9, 2) := by decide +kernel
theorem dX9_random_56 : decode cX9_random 56 = .ok (.invokevirtual 10, 3) := by decide +kernel
theorem dX9_random_59 : decode cX9_random 59 = .ok (.goto 8, 3) := by decide +kernel
theorem dX9_random_62 : decode cX9_random 62 = .ok (.aload_n 0, 1) := by decide +kernel
theorem dX9_random_63 : decode cX9_random 63 = .ok (.iconst 4, 1) := by decide +kernel
theorem dX9_random_64 : decode cX9_random 64 = .ok (.invokevirtual 10, 3) := by decide +kernel
theorem dX9_random_67 : decode cX9_random 67 = .ok (.putfield 20, 3) := by decide +kernel
theorem dX9_random_70 : decode cX9_random 70 = .ok (.aload_n 2, 1) := by decide +kernel
theorem dX9_random_71 : decode cX9_random 71 = .ok (.getfield 16, 3) := by decide +kernel
theorem dX9_random_74 : decode cX9_random 74 = .ok (.iconst 1, 1) := by decide +kernel
theorem dX9_random_75 : decode cX9_random 75 = .ok (.if_icmp .le 25, 3) := by decide +kernel
theorem dX9_random_78 : decode cX9_random 78 = .ok (.aload_n 2, 1) := by decide +kernel
theorem dX9_random_79 : decode cX9_random 79 = .ok (.aload_n 0, 1) := by decide +kernel
theorem dX9_random_80 : decode cX9_random 80 = .ok (.iload_n 1, 1) := by decide +kernel
theorem dX9_random_81 : decode cX9_random 81 = .ok (.iconst 1, 1) := by decide +kernel
theorem dX9_random_82 : decode cX9_random 82 = .ok (.isub, 1) := by decide +kernel
theorem dX9_random_83 : decode cX9_random 83 = .ok (.invokestatic 23, 3) := by decide +kernel
theorem dX9_random_86 : decode cX9_random 86 = .ok (.putfield 27, 3) := by decide +kernel
theorem dX9_random_89 : decode cX9_random 89 = .ok (.aload_n 2, 1) := by decide +kernel
theorem dX9_random_90 : decode cX9_random 90 = .ok (.aload_n 0, 1) := by decide +kernel
theorem dX9_random_91 : decode cX9_random 91 = .ok (.iload_n 1, 1) := by decide +kernel
theorem dX9_random_92 : decode cX9_random 92 = .ok (.iconst 1, 1) := by decide +kernel
theorem dX9_random_93 : decode cX9_random 93 = .ok (.isub, 1) := by decide +kernel
theorem dX9_random_94 : decode cX9_random 94 = .ok (.invokestatic 23, 3) := by decide +kernel
theorem dX9_random_97 : decode cX9_random 97 = .ok (.putfield 31, 3) := by decide +kernel
theorem dX9_random_100 : decode cX9_random 100 = .ok (.aload_n 2, 1) := by decide +kernel
theorem dX9_random_101 : decode cX9_random 101 = .ok (.areturn, 1) := by decide +kernel
theorem dX9_text_0 : decode cX9_text 0 = .ok (.aload_n 0, 1) := by decide +kernel
theorem dX9_text_1 : decode cX9_text 1 = .ok (.getfield 16, 3) := by decide +kernel
theorem dX9_text_4 : decode cX9_text 4 = .ok (.ifCond .ne 26, 3) := by decide +kernel
theorem dX9_text_7 : decode cX9_text 7 = .ok (.new 34, 3) := by decide +kernel
theorem dX9_text_10 : decode cX9_text 10 = .ok (.dup, 1) := by decide +kernel
theorem dX9_text_11 : decode cX9_text 11 = .ok (.invokespecial 36, 3) := by decide +kernel
theorem dX9_text_14 : decode cX9_text 14 = .ok (.ldc 37, 2) := by decide +kernel
theorem dX9_text_16 : decode cX9_text 16 = .ok (.invokevirtual 39, 3) := by decide +kernel
theorem dX9_text_19 : decode cX9_text 19 = .ok (.aload_n 0, 1) := by decide +kernel
theorem dX9_text_20 : decode cX9_text 20 = .ok (.getfield 20, 3) := by decide +kernel
theorem dX9_text_23 : decode cX9_text 23 = .ok (.invokevirtual 43, 3) := by decide +kernel
theorem dX9_text_26 : decode cX9_text 26 = .ok (.invokevirtual 46, 3) := by decide +kernel
theorem dX9_text_29 : decode cX9_text 29 = .ok (.areturn, 1) := by decide +kernel
theorem dX9_text_30 : decode cX9_text 30 = .ok (.aload_n 0, 1) := by decide +kernel
theorem dX9_text_31 : decode cX9_text 31 = .ok (.getfield 16, 3) := by decide +kernel
theorem dX9_text_34 : decode cX9_text 34 = .ok (.iconst 1, 1) := by decide +kernel
theorem dX9_text_35 : decode cX9_text 35 = .ok (.if_icmp .ne 12, 3) := by decide +kernel
theorem dX9_text_38 : decode cX9_text 38 = .ok (.getstatic 50, 3) := by decide +kernel
theorem dX9_text_41 : decode cX9_text 41 = .ok (.aload_n 0, 1) := by decide +kernel
theorem dX9_text_42 : decode cX9_text 42 = .ok (.getfield 20, 3) := by decide +kernel
theorem dX9_text_45 : decode cX9_text 45 = .ok (.aaload, 1) := by decide +kernel
theorem dX9_text_46 : decode cX9_text 46 = .ok (.areturn, 1) := by decide +kernel
theorem dX9_text_47 : decode cX9_text 47 = .ok (.aload_n 0, 1) := by decide +kernel
theorem dX9_text_48 : decode cX9_text 48 = .ok (.getfield 16, 3) := by decide +kernel
theorem dX9_text_51 : decode cX9_text 51 = .ok (.iconst 4, 1) := by decide +kernel
theorem dX9_text_52 : decode cX9_text 52 = .ok (.if_icmp .ge 7, 3) := by decide +kernel
theorem dX9_text_55 : decode cX9_text 55 = .ok (.iconst 1, 1) := by decide +kernel
theorem dX9_text_56 : decode cX9_text 56 = .ok (.goto 4, 3) := by decide +kernel
theorem dX9_text_59 : decode cX9_text 59 = .ok (.iconst 2, 1) := by decide +kernel
theorem dX9_text_60 : decode cX9_text 60 = .ok (.istore_n 2, 1) := by decide +kernel
theorem dX9_text_61 : decode cX9_text 61 = .ok (.new 34, 3) := by decide +kernel
theorem dX9_text_64 : decode cX9_text 64 = .ok (.dup, 1) := by decide +kernel
theorem dX9_text_65 : decode cX9_text 65 = .ok (.invokespecial 36, 3) := by decide +kernel
theorem dX9_text_68 : decode cX9_text 68 = .ok (.aload_n 0, 1) := by decide +kernel
theorem dX9_text_69 : decode cX9_text 69 = .ok (.getfield 27, 3) := by decide +kernel
theorem dX9_text_72 : decode cX9_text 72 = .ok (.iload_n 2, 1) := by decide +kernel
theorem dX9_text_73 : decode cX9_text 73 = .ok (.invokevirtual 56, 3) := by decide +kernel
theorem dX9_text_76 : decode cX9_text 76 = .ok (.invokevirtual 39, 3) := by decide +kernel
theorem dX9_text_79 : decode cX9_text 79 = .ok (.aload_n 0, 1) := by decide +kernel
theorem dX9_text_80 : decode cX9_text 80 = .ok (.getfield 16, 3) := by decide +kernel
theorem dX9_text_83 : decode cX9_text 83 = .ok (.iconst 2, 1) := by decide +kernel
theorem dX9_text_84 : decode cX9_text 84 = .ok (.if_icmp .ne 8, 3) := by decide +kernel
theorem dX9_text_87 : decode cX9_text 87 = .ok (.ldc 60, 2) := by decide +kernel
theorem dX9_text_89 : decode cX9_text 89 = .ok (.goto 31, 3) := by decide +kernel
theorem dX9_text_92 : decode cX9_text 92 = .ok (.aload_n 0, 1) := by decide +kernel
theorem dX9_text_93 : decode cX9_text 93 = .ok (.getfield 16, 3) := by decide +kernel
theorem dX9_text_96 : decode cX9_text 96 = .ok (.iconst 3, 1) := by decide +kernel
theorem dX9_text_97 : decode cX9_text 97 = .ok (.if_icmp .ne 8, 3) := by decide +kernel
theorem dX9_text_100 : decode cX9_text 100 = .ok (.ldc 62, 2) := by decide +kernel
theorem dX9_text_102 : decode cX9_text 102 = .ok (.goto 18, 3) := by decide +kernel
theorem dX9_text_105 : decode cX9_text 105 = .ok (.aload_n 0, 1) := by decide +kernel
theorem dX9_text_106 : decode cX9_text 106 = .ok (.getfield 16, 3) := by decide +kernel
theorem dX9_text_109 : decode cX9_text 109 = .ok (.iconst 4, 1) := by decide +kernel
theorem dX9_text_110 : decode cX9_text 110 = .ok (.if_icmp .ne 8, 3) := by decide +kernel
theorem dX9_text_113 : decode cX9_text 113 = .ok (.ldc 64, 2) := by decide +kernel
theorem dX9_text_115 : decode cX9_text 115 = .ok (.goto 5, 3) := by decide +kernel
theorem dX9_text_118 : decode cX9_text 118 = .ok (.ldc 66, 2) := by decide +kernel
theorem dX9_text_120 : decode cX9_text 120 = .ok (.invokevirtual 39, 3) := by decide +kernel
theorem dX9_text_123 : decode cX9_text 123 = .ok (.aload_n 0, 1) := by decide +kernel
theorem dX9_text_124 : decode cX9_text 124 = .ok (.getfield 31, 3) := by decide +kernel
theorem dX9_text_127 : decode cX9_text 127 = .ok (.iload_n 2, 1) := by decide +kernel
theorem dX9_text_128 : decode cX9_text 128 = .ok (.iconst 1, 1) := by decide +kernel
theorem dX9_text_129 : decode cX9_text 129 = .ok (.iadd, 1) := by decide +kernel
theorem dX9_text_130 : decode cX9_text 130 = .ok (.invokevirtual 56, 3) := by decide +kernel
theorem dX9_text_133 : decode cX9_text 133 = .ok (.invokevirtual 39, 3) := by decide +kernel
theorem dX9_text_136 : decode cX9_text 136 = .ok (.invokevirtual 46, 3) := by decide +kernel
theorem dX9_text_139 : decode cX9_text 139 = .ok (.astore_n 3, 1) := by decide +kernel
theorem dX9_text_140 : decode cX9_text 140 = .ok (.iload_n 2, 1) := by decide +kernel
theorem dX9_text_141 : decode cX9_text 141 = .ok (.iload_n 1, 1) := by decide +kernel
theorem dX9_text_142 : decode cX9_text 142 = .ok (.if_icmp .ge 30, 3) := by decide +kernel
theorem dX9_text_145 : decode cX9_text 145 = .ok (.new 34, 3) := by decide +kernel
theorem dX9_text_148 : decode cX9_text 148 = .ok (.dup, 1) := by decide +kernel
theorem dX9_text_149 : decode cX9_text 149 = .ok (.invokespecial 36, 3) := by decide +kernel
theorem dX9_text_152 : decode cX9_text 152 = .ok (.ldc 68, 2) := by decide +kernel
theorem dX9_text_154 : decode cX9_text 154 = .ok (.invokevirtual 39, 3) := by decide +kernel
theorem dX9_text_157 : decode cX9_text 157 = .ok (.aload_n 3, 1) := by decide +kernel
theorem dX9_text_158 : decode cX9_text 158 = .ok (.invokevirtual 39, 3) := by decide +kernel
theorem dX9_text_161 : decode cX9_text 161 = .ok (.ldc 70, 2) := by decide +kernel
theorem dX9_text_163 : decode cX9_text 163 = .ok (.invokevirtual 39, 3) := by decide +kernel
theorem dX9_text_166 : decode cX9_text 166 = .ok (.invokevirtual 46, 3) := by decide +kernel
theorem dX9_text_169 : decode cX9_text 169 = .ok (.goto 4, 3) := by decide +kernel
theorem dX9_text_172 : decode cX9_text 172 = .ok (.aload_n 3, 1) := by decide +kernel
theorem dX9_text_173 : decode cX9_text 173 = .ok (.areturn, 1) := by decide +kernel
theorem dX9_value_0 : decode cX9_value 0 = .ok (.aload_n 0, 1) := by decide +kernel
theorem dX9_value_1 : decode cX9_value 1 = .ok (.getfield 16, 3) := by decide +kernel
theorem dX9_value_4 : decode cX9_value 4 = .ok (.iconst 2, 1) := by decide +kernel
theorem dX9_value_5 : decode cX9_value 5 = .ok (.if_icmp .ge 25, 3) := by decide +kernel
theorem dX9_value_8 : decode cX9_value 8 = .ok (.aload_n 0, 1) := by decide +kernel
theorem dX9_value_9 : decode cX9_value 9 = .ok (.getfield 16, 3) := by decide +kernel
theorem dX9_value_12 : decode cX9_value 12 = .ok (.ifCond .ne 11, 3) := by decide +kernel
theorem dX9_value_15 : decode cX9_value 15 = .ok (.aload_n 0, 1) := by decide +kernel
theorem dX9_value_16 : decode cX9_value 16 = .ok (.getfield 20, 3) := by decide +kernel
theorem dX9_value_19 : decode cX9_value 19 = .ok (.i2l, 1) := by decide +kernel
theorem dX9_value_20 : decode cX9_value 20 = .ok (.goto 9, 3) := by decide +kernel
theorem dX9_value_23 : decode cX9_value 23 = .ok (.aload_n 1, 1) := by decide +kernel
theorem dX9_value_24 : decode cX9_value 24 = .ok (.aload_n 0, 1) := by decide +kernel
theorem dX9_value_25 : decode cX9_value 25 = .ok (.getfield 20, 3) := by decide +kernel
theorem dX9_value_28 : decode cX9_value 28 = .ok (.laload, 1) := by decide +kernel
theorem dX9_value_29 : decode cX9_value 29 = .ok (.lreturn, 1) := by decide +kernel
theorem dX9_value_30 : decode cX9_value 30 = .ok (.aload_n 0, 1) := by decide +kernel
theorem dX9_value_31 : decode cX9_value 31 = .ok (.getfield 27, 3) := by decide +kernel
theorem dX9_value_34 : decode cX9_value 34 = .ok (.aload_n 1, 1) := by decide +kernel
theorem dX9_value_35 : decode cX9_value 35 = .ok (.invokevirtual 72, 3) := by decide +kernel
theorem dX9_value_38 : decode cX9_value 38 = .ok (.lstore_n 2, 1) := by decide +kernel
theorem dX9_value_39 : decode cX9_value 39 = .ok (.aload_n 0, 1) := by decide +kernel
theorem dX9_value_40 : decode cX9_value 40 = .ok (.getfield 31, 3) := by decide +kernel
theorem dX9_value_43 : decode cX9_value 43 = .ok (.aload_n 1, 1) := by decide +kernel
theorem dX9_value_44 : decode cX9_value 44 = .ok (.invokevirtual 72, 3) := by decide +kernel
theorem dX9_value_47 : decode cX9_value 47 = .ok (.lstore 4, 2) := by decide +kernel
theorem dX9_value_49 : decode cX9_value 49 = .ok (.aload_n 0, 1) := by decide +kernel
theorem dX9_value_50 : decode cX9_value 50 = .ok (.getfield 16, 3) := by decide +kernel
theorem dX9_value_53 : decode cX9_value 53 = .ok (.iconst 2, 1) := by decide +kernel
theorem dX9_value_54 : decode cX9_value 54 = .ok (.if_icmp .ne 10, 3) := by decide +kernel
theorem dX9_value_57 : decode cX9_value 57 = .ok (.lload_n 2, 1) := by decide +kernel
theorem dX9_value_58 : decode cX9_value 58 = .ok (.lload 4, 2) := by decide +kernel
theorem dX9_value_60 : decode cX9_value 60 = .ok (.ladd, 1) := by decide +kernel
theorem dX9_value_61 : decode cX9_value 61 = .ok (.goto 48, 3) := by decide +kernel
theorem dX9_value_64 : decode cX9_value 64 = .ok (.aload_n 0, 1) := by decide +kernel
theorem dX9_value_65 : decode cX9_value 65 = .ok (.getfield 16, 3) := by decide +kernel
theorem dX9_value_68 : decode cX9_value 68 = .ok (.iconst 3, 1) := by decide +kernel
theorem dX9_value_69 : decode cX9_value 69 = .ok (.if_icmp .ne 10, 3) := by decide +kernel
theorem dX9_value_72 : decode cX9_value 72 = .ok (.lload_n 2, 1) := by decide +kernel
theorem dX9_value_73 : decode cX9_value 73 = .ok (.lload 4, 2) := by decide +kernel
theorem dX9_value_75 : decode cX9_value 75 = .ok (.lsub, 1) := by decide +kernel
theorem dX9_value_76 : decode cX9_value 76 = .ok (.goto 33, 3) := by decide +kernel
theorem dX9_value_79 : decode cX9_value 79 = .ok (.aload_n 0, 1) := by decide +kernel
theorem dX9_value_80 : decode cX9_value 80 = .ok (.getfield 16, 3) := by decide +kernel
theorem dX9_value_83 : decode cX9_value 83 = .ok (.iconst 4, 1) := by decide +kernel
theorem dX9_value_84 : decode cX9_value 84 = .ok (.if_icmp .ne 10, 3) := by decide +kernel
theorem dX9_value_87 : decode cX9_value 87 = .ok (.lload_n 2, 1) := by decide +kernel
theorem dX9_value_88 : decode cX9_value 88 = .ok (.lload 4, 2) := by decide +kernel
theorem dX9_value_90 : decode cX9_value 90 = .ok (.lmul, 1) := by decide +kernel
theorem dX9_value_91 : decode cX9_value 91 = .ok (.goto 18, 3) := by decide +kernel
theorem dX9_value_94 : decode cX9_value 94 = .ok (.lload 4, 2) := by decide +kernel
theorem dX9_value_96 : decode cX9_value 96 = .ok (.lconst 0, 1) := by decide +kernel
theorem dX9_value_97 : decode cX9_value 97 = .ok (.lcmp, 1) := by decide +kernel
theorem dX9_value_98 : decode cX9_value 98 = .ok (.ifCond .ne 7, 3) := by decide +kernel
theorem dX9_value_101 : decode cX9_value 101 = .ok (.lconst 0, 1) := by decide +kernel
theorem dX9_value_102 : decode cX9_value 102 = .ok (.goto 7, 3) := by decide +kernel
theorem dX9_value_105 : decode cX9_value 105 = .ok (.lload_n 2, 1) := by decide +kernel
theorem dX9_value_106 : decode cX9_value 106 = .ok (.lload 4, 2) := by decide +kernel
theorem dX9_value_108 : decode cX9_value 108 = .ok (.ldiv, 1) := by decide +kernel
theorem dX9_value_109 : decode cX9_value 109 = .ok (.lstore 6, 2) := by decide +kernel
theorem dX9_value_111 : decode cX9_value 111 = .ok (.ldc2_w 76, 3) := by decide +kernel
theorem dX9_value_114 : decode cX9_value 114 = .ok (.ldc2_w 78, 3) := by decide +kernel
theorem dX9_value_117 : decode cX9_value 117 = .ok (.lload 6, 2) := by decide +kernel
theorem dX9_value_119 : decode cX9_value 119 = .ok (.invokestatic 80, 3) := by decide +kernel
theorem dX9_value_122 : decode cX9_value 122 = .ok (.invokestatic 86, 3) := by decide +kernel
theorem dX9_value_125 : decode cX9_value 125 = .ok (.lreturn, 1) := by decide +kernel
theorem dX10_init_0 : decode cX10_init 0 = .ok (.aload_n 0, 1) := by decide +kernel
theorem dX10_init_1 : decode cX10_init 1 = .ok (.invokespecial 1, 3) := by decide +kernel
theorem dX10_init_4 : decode cX10_init 4 = .ok (.aload_n 0, 1) := by decide +kernel
theorem dX10_init_5 : decode cX10_init 5 = .ok (.iload_n 1, 1) := by decide +kernel
theorem dX10_init_6 : decode cX10_init 6 = .ok (.putfield 7, 3) := by decide +kernel
theorem dX10_init_9 : decode cX10_init 9 = .ok (.return_, 1) := by decide +kernel
theorem dX10_below_0 : decode cX10_below 0 = .ok (.aload_n 0, 1) := by decide +kernel
theorem dX10_below_1 : decode cX10_below 1 = .ok (.ldc 13, 2) := by decide +kernel
theorem dX10_below_3 : decode cX10_below 3 = .ok (.aload_n 0, 1) := by decide +kernel
theorem dX10_below_4 : decode cX10_below 4 = .ok (.getfield 7, 3) := by decide +kernel
theorem dX10_below_7 : decode cX10_below 7 = .ok (.imul, 1) := by decide +kernel
theorem dX10_below_8 : decode cX10_below 8 = .ok (.sipush 12345, 3) := by decide +kernel
theorem dX10_below_11 : decode cX10_below 11 = .ok (.iadd, 1) := by decide +kernel
theorem dX10_below_12 : decode cX10_below 12 = .ok (.putfield 7, 3) := by decide +kernel
theorem dX10_below_15 : decode cX10_below 15 = .ok (.aload_n 0, 1) := by decide +kernel
theorem dX10_below_16 : decode cX10_below 16 = .ok (.getfield 7, 3) := by decide +kernel
theorem dX10_below_19 : decode cX10_below 19 = .ok (.bipush 16, 2) := by decide +kernel
theorem dX10_below_21 : decode cX10_below 21 = .ok (.iushr, 1) := by decide +kernel
theorem dX10_below_22 : decode cX10_below 22 = .ok (.iload_n 1, 1) := by decide +kernel
theorem dX10_below_23 : decode cX10_below 23 = .ok (.irem, 1) := by decide +kernel
theorem dX10_below_24 : decode cX10_below 24 = .ok (.ireturn, 1) := by decide +kernel
theorem dJ5_init_d00df_0 : decode cJ5_init_d00df 0 = .ok (.aload_n 0, 1) := by decide +kernel
theorem dJ5_init_d00df_1 : decode cJ5_init_d00df 1 = .ok (.invokespecial 3, 3) := by decide +kernel
theorem dJ5_init_d00df_4 : decode cJ5_init_d00df 4 = .ok (.getstatic 18, 3) := by decide +kernel
theorem dJ5_init_d00df_7 : decode cJ5_init_d00df 7 = .ok (.ifCond .eq 18, 3) := by decide +kernel
theorem dJ5_init_d00df_10 : decode cJ5_init_d00df 10 = .ok (.aload_n 0, 1) := by decide +kernel
theorem dJ5_init_d00df_11 : decode cJ5_init_d00df 11 = .ok (.iload_n 1, 1) := by decide +kernel
theorem dJ5_init_d00df_12 : decode cJ5_init_d00df 12 = .ok (.newarray .byte, 2) := by decide +kernel
theorem dJ5_init_d00df_14 : decode cJ5_init_d00df 14 = .ok (.putfield 15, 3) := by decide +kernel
theorem dJ5_init_d00df_17 : decode cJ5_init_d00df 17 = .ok (.aload_n 0, 1) := by decide +kernel
theorem dJ5_init_d00df_18 : decode cJ5_init_d00df 18 = .ok (.iconst 0, 1) := by decide +kernel
theorem dJ5_init_d00df_19 : decode cJ5_init_d00df 19 = .ok (.putfield 22, 3) := by decide +kernel
theorem dJ5_init_d00df_22 : decode cJ5_init_d00df 22 = .ok (.goto 16, 3) := by decide +kernel
theorem dJ5_init_d00df_25 : decode cJ5_init_d00df 25 = .ok (.aload_n 0, 1) := by decide +kernel
theorem dJ5_init_d00df_26 : decode cJ5_init_d00df 26 = .ok (.iload_n 1, 1) := by decide +kernel
theorem dJ5_init_d00df_27 : decode cJ5_init_d00df 27 = .ok (.invokestatic 26, 3) := by decide +kernel
theorem dJ5_init_d00df_30 : decode cJ5_init_d00df 30 = .ok (.putfield 15, 3) := by decide +kernel
theorem dJ5_init_d00df_33 : decode cJ5_init_d00df 33 = .ok (.aload_n 0, 1) := by decide +kernel
theorem dJ5_init_d00df_34 : decode cJ5_init_d00df 34 = .ok (.iconst 1, 1) := by decide +kernel
theorem dJ5_init_d00df_35 : decode cJ5_init_d00df 35 = .ok (.putfield 22, 3) := by decide +kernel
theorem dJ5_init_d00df_38 : decode cJ5_init_d00df 38 = .ok (.return_, 1) := by decide +kernel
theorem dJ5_length_8abf5_0 : decode cJ5_length_8abf5 0 = .ok (.aload_n 0, 1) := by decide +kernel
theorem dJ5_length_8abf5_1 : decode cJ5_length_8abf5 1 = .ok (.getfield 79, 3) := by decide +kernel
theorem dJ5_length_8abf5_4 : decode cJ5_length_8abf5 4 = .ok (.ireturn, 1) := by decide +kernel
theorem dJ5_ensureCapacityInternal_d00df_0 : decode cJ5_ensureCapacityInternal_d00df 0 = .ok (.aload_n 0, 1) := by decide +kernel
theorem dJ5_ensureCapacityInternal_d00df_1 : decode cJ5_ensureCapacityInternal_d00df 1 = .ok (.getfield 15, 3) := by decide +kernel
theorem dJ5_ensureCapacityInternal_d00df_4 : decode cJ5_ensureCapacityInternal_d00df 4 = .ok (.arraylength, 1) := by decide +kernel
theorem dJ5_ensureCapacityInternal_d00df_5 : decode cJ5_ensureCapacityInternal_d00df 5 = .ok (.aload_n 0, 1) := by decide +kernel
theorem dJ5_ensureCapacityInternal_d00df_6 : decode cJ5_ensureCapacityInternal_d00df 6 = .ok (.getfield 22, 3) := by decide +kernel
theorem dJ5_ensureCapacityInternal_d00df_9 : decode cJ5_ensureCapacityInternal_d00df 9 = .ok (.ishr, 1) := by decide +kernel
theorem dJ5_ensureCapacityInternal_d00df_10 : decode cJ5_ensureCapacityInternal_d00df 10 = .ok (.istore_n 2, 1) := by decide +kernel
theorem dJ5_ensureCapacityInternal_d00df_11 : decode cJ5_ensureCapacityInternal_d00df 11 = .ok (.iload_n 1, 1) := by decide +kernel
theorem dJ5_ensureCapacityInternal_d00df_12 : decode cJ5_ensureCapacityInternal_d00df 12 = .ok (.iload_n 2, 1) := by decide +kernel
theorem dJ5_ensureCapacityInternal_d00df_13 : decode cJ5_ensureCapacityInternal_d00df 13 = .ok (.isub, 1) := by decide +kernel
theorem dJ5_ensureCapacityInternal_d00df_14 : decode cJ5_ensureCapacityInternal_d00df 14 = .ok (.ifCond .le 24, 3) := by decide +kernel
theorem dJ5_ensureCapacityInternal_d00df_17 : decode cJ5_ensureCapacityInternal_d00df 17 = .ok (.aload_n 0, 1) := by decide +kernel
theorem dJ5_ensureCapacityInternal_d00df_18 : decode cJ5_ensureCapacityInternal_d00df 18 = .ok (.aload_n 0, 1) := by decide +kernel
theorem dJ5_ensureCapacityInternal_d00df_19 : decode cJ5_ensureCapacityInternal_d00df 19 = .ok (.getfield 15, 3) := by decide +kernel
theorem dJ5_ensureCapacityInternal_d00df_22 : decode cJ5_ensureCapacityInternal_d00df 22 = .ok (.aload_n 0, 1) := by decide +kernel
theorem dJ5_ensureCapacityInternal_d00df_23 : decode cJ5_ensureCapacityInternal_d00df 23 = .ok (.iload_n 1, 1) := by decide +kernel
theorem dJ5_ensureCapacityInternal_d00df_24 : decode cJ5_ensureCapacityInternal_d00df 24 = .ok (.invokevirtual 104, 3) := by decide +kernel
theorem dJ5_ensureCapacityInternal_d00df_27 : decode cJ5_ensureCapacityInternal_d00df 27 = .ok (.aload_n 0, 1) := by decide +kernel
theorem dJ5_ensureCapacityInternal_d00df_28 : decode cJ5_ensureCapacityInternal_d00df 28 = .ok (.getfield 22, 3) := by decide +kernel
theorem dJ5_ensureCapacityInternal_d00df_31 : decode cJ5_ensureCapacityInternal_d00df 31 = .ok (.ishl, 1) := by decide +kernel
theorem dJ5_ensureCapacityInternal_d00df_32 : decode cJ5_ensureCapacityInternal_d00df 32 = .ok (.invokestatic 108, 3) := by decide +kernel
theorem dJ5_ensureCapacityInternal_d00df_35 : decode cJ5_ensureCapacityInternal_d00df 35 = .ok (.putfield 15, 3) := by decide +kernel
theorem dJ5_ensureCapacityInternal_d00df_38 : decode cJ5_ensureCapacityInternal_d00df 38 = .ok (.return_, 1) := by decide +kernel
theorem dJ5_newCapacity_0f7a4_0 : decode cJ5_newCapacity_0f7a4 0 = .ok (.aload_n 0, 1) := by decide +kernel
theorem dJ5_newCapacity_0f7a4_1 : decode cJ5_newCapacity_0f7a4 1 = .ok (.getfield 15, 3) := by decide +kernel
theorem dJ5_newCapacity_0f7a4_4 : decode cJ5_newCapacity_0f7a4 4 = .ok (.arraylength, 1) := by decide +kernel
theorem dJ5_newCapacity_0f7a4_5 : decode cJ5_newCapacity_0f7a4 5 = .ok (.istore_n 2, 1) := by decide +kernel
theorem dJ5_newCapacity_0f7a4_6 : decode cJ5_newCapacity_0f7a4 6 = .ok (.iload_n 1, 1) := by decide +kernel
theorem dJ5_newCapacity_0f7a4_7 : decode cJ5_newCapacity_0f7a4 7 = .ok (.aload_n 0, 1) := by decide +kernel
theorem dJ5_newCapacity_0f7a4_8 : decode cJ5_newCapacity_0f7a4 8 = .ok (.getfield 22, 3) := by decide +kernel
theorem dJ5_newCapacity_0f7a4_11 : decode cJ5_newCapacity_0f7a4 11 = .ok (.ishl, 1) := by decide +kernel
theorem dJ5_newCapacity_0f7a4_12 : decode cJ5_newCapacity_0f7a4 12 = .ok (.istore_n 3, 1) := by decide +kernel
theorem dJ5_newCapacity_0f7a4_13 : decode cJ5_newCapacity_0f7a4 13 = .ok (.iload_n 3, 1) := by decide +kernel
theorem dJ5_newCapacity_0f7a4_14 : decode cJ5_newCapacity_0f7a4 14 = .ok (.iload_n 2, 1) := by decide +kernel
theorem dJ5_newCapacity_0f7a4_15 : decode cJ5_newCapacity_0f7a4 15 = .ok (.isub, 1) := by decide +kernel
theorem dJ5_newCapacity_0f7a4_16 : decode cJ5_newCapacity_0f7a4 16 = .ok (.istore 4, 2) := by decide +kernel
theorem dJ5_newCapacity_0f7a4_18 : decode cJ5_newCapacity_0f7a4 18 = .ok (.iload_n 2, 1) := by decide +kernel
theorem dJ5_newCapacity_0f7a4_19 : decode cJ5_newCapacity_0f7a4 19 = .ok (.iload 4, 2) := by decide +kernel
theorem dJ5_newCapacity_0f7a4_21 : decode cJ5_newCapacity_0f7a4 21 = .ok (.iload_n 2, 1) := by decide +kernel
theorem dJ5_newCapacity_0f7a4_22 : decode cJ5_newCapacity_0f7a4 22 = .ok (.iconst 2, 1) := by decide +kernel
theorem dJ5_newCapacity_0f7a4_23 : decode cJ5_newCapacity_0f7a4 23 = .ok (.aload_n 0, 1) := by decide +kernel
theorem dJ5_newCapacity_0f7a4_24 : decode cJ5_newCapacity_0f7a4 24 = .ok (.getfield 22, 3) := by decide +kernel
theorem dJ5_newCapacity_0f7a4_27 : decode cJ5_newCapacity_0f7a4 27 = .ok (.ishl, 1) := by decide +kernel
theorem dJ5_newCapacity_0f7a4_28 : decode cJ5_newCapacity_0f7a4 28 = .ok (.iadd, 1) := by decide +kernel
theorem dJ5_newCapacity_0f7a4_29 : decode cJ5_newCapacity_0f7a4 29 = .ok (.invokestatic 114, 3) := by decide +kernel
theorem dJ5_newCapacity_0f7a4_32 : decode cJ5_newCapacity_0f7a4 32 = .ok (.istore 5, 2) := by decide +kernel
theorem dJ5_newCapacity_0f7a4_34 : decode cJ5_newCapacity_0f7a4 34 = .ok (.iload 5, 2) := by decide +kernel
theorem dJ5_newCapacity_0f7a4_36 : decode cJ5_newCapacity_0f7a4 36 = .ok (.ldc 39, 2) := by decide +kernel
theorem dJ5_newCapacity_0f7a4_38 : decode cJ5_newCapacity_0f7a4 38 = .ok (.if_icmp .ne 13, 3) := by decide +kernel
theorem dJ5_newCapacity_0f7a4_41 : decode cJ5_newCapacity_0f7a4 41 = .ok (.new 120, 3) := by decide +kernel
theorem dJ5_newCapacity_0f7a4_44 : decode cJ5_newCapacity_0f7a4 44 = .ok (.dup, 1) := by decide +kernel
theorem dJ5_newCapacity_0f7a4_45 : decode cJ5_newCapacity_0f7a4 45 = .ok (.ldc 122, 2) := by decide +kernel
theorem dJ5_newCapacity_0f7a4_47 : decode cJ5_newCapacity_0f7a4 47 = .ok (.invokespecial 124, 3) := by decide +kernel
theorem dJ5_newCapacity_0f7a4_50 : decode cJ5_newCapacity_0f7a4 50 = .ok (.athrow, 1) := by decide +kernel
theorem dJ5_newCapacity_0f7a4_51 : decode cJ5_newCapacity_0f7a4 51 = .ok (.iload 5, 2) := by decide +kernel
theorem dJ5_newCapacity_0f7a4_53 : decode cJ5_newCapacity_0f7a4 53 = .ok (.aload_n 0, 1) := by decide +kernel
theorem dJ5_newCapacity_0f7a4_54 : decode cJ5_newCapacity_0f7a4 54 = .ok (.getfield 22, 3) := by decide +kernel
theorem dJ5_newCapacity_0f7a4_57 : decode cJ5_newCapacity_0f7a4 57 = .ok (.ishr, 1) := by decide +kernel
theorem dJ5_newCapacity_0f7a4_58 : decode cJ5_newCapacity_0f7a4 58 = .ok (.ireturn, 1) := by decide +kernel
theorem dJ5_inflate_da8c8_0 : decode cJ5_inflate_da8c8 0 = .ok (.aload_n 0, 1) := by decide +kernel
theorem dJ5_inflate_da8c8_1 : decode cJ5_inflate_da8c8 1 = .ok (.invokevirtual 83, 3) := by decide +kernel
theorem dJ5_inflate_da8c8_4 : decode cJ5_inflate_da8c8 4 = .ok (.ifCond .ne 4, 3) := by decide +kernel
theorem dJ5_inflate_da8c8_7 : decode cJ5_inflate_da8c8 7 = .ok (.return_, 1) := by decide +kernel
theorem dJ5_inflate_da8c8_8 : decode cJ5_inflate_da8c8 8 = .ok (.aload_n 0, 1) := by decide +kernel
theorem dJ5_inflate_da8c8_9 : decode cJ5_inflate_da8c8 9 = .ok (.getfield 15, 3) := by decide +kernel
theorem dJ5_inflate_da8c8_12 : decode cJ5_inflate_da8c8 12 = .ok (.arraylength, 1) := by decide +kernel
theorem dJ5_inflate_da8c8_13 : decode cJ5_inflate_da8c8 13 = .ok (.invokestatic 26, 3) := by decide +kernel
theorem dJ5_inflate_da8c8_16 : decode cJ5_inflate_da8c8 16 = .ok (.astore_n 1, 1) := by decide +kernel
theorem dJ5_inflate_da8c8_17 : decode cJ5_inflate_da8c8 17 = .ok (.aload_n 0, 1) := by decide +kernel
theorem dJ5_inflate_da8c8_18 : decode cJ5_inflate_da8c8 18 = .ok (.getfield 15, 3) := by decide +kernel
theorem dJ5_inflate_da8c8_21 : decode cJ5_inflate_da8c8 21 = .ok (.iconst 0, 1) := by decide +kernel
theorem dJ5_inflate_da8c8_22 : decode cJ5_inflate_da8c8 22 = .ok (.aload_n 1, 1) := by decide +kernel
theorem dJ5_inflate_da8c8_23 : decode cJ5_inflate_da8c8 23 = .ok (.iconst 0, 1) := by decide +kernel
theorem dJ5_inflate_da8c8_24 : decode cJ5_inflate_da8c8 24 = .ok (.aload_n 0, 1) := by decide +kernel
theorem dJ5_inflate_da8c8_25 : decode cJ5_inflate_da8c8 25 = .ok (.getfield 79, 3) := by decide +kernel
theorem dJ5_inflate_da8c8_28 : decode cJ5_inflate_da8c8 28 = .ok (.invokestatic 125, 3) := by decide +kernel
theorem dJ5_inflate_da8c8_31 : decode cJ5_inflate_da8c8 31 = .ok (.aload_n 0, 1) := by decide +kernel
theorem dJ5_inflate_da8c8_32 : decode cJ5_inflate_da8c8 32 = .ok (.aload_n 1, 1) := by decide +kernel
theorem dJ5_inflate_da8c8_33 : decode cJ5_inflate_da8c8 33 = .ok (.putfield 15, 3) := by decide +kernel
theorem dJ5_inflate_da8c8_36 : decode cJ5_inflate_da8c8 36 = .ok (.aload_n 0, 1) := by decide +kernel
theorem dJ5_inflate_da8c8_37 : decode cJ5_inflate_da8c8 37 = .ok (.iconst 1, 1) := by decide +kernel
theorem dJ5_inflate_da8c8_38 : decode cJ5_inflate_da8c8 38 = .ok (.putfield 22, 3) := by decide +kernel
theorem dJ5_inflate_da8c8_41 : decode cJ5_inflate_da8c8 41 = .ok (.return_, 1) := by decide +kernel
theorem dJ5_append_cf1ce_0 : decode cJ5_append_cf1ce 0 = .ok (.aload_n 1, 1) := by decide +kernel
theorem dJ5_append_cf1ce_1 : decode cJ5_append_cf1ce 1 = .ok (.ifnonnull 8, 3) := by decide +kernel
theorem dJ5_append_cf1ce_4 : decode cJ5_append_cf1ce 4 = .ok (.aload_n 0, 1) := by decide +kernel
theorem dJ5_append_cf1ce_5 : decode cJ5_append_cf1ce 5 = .ok (.invokevirtual 204, 3) := by decide +kernel
theorem dJ5_append_cf1ce_8 : decode cJ5_append_cf1ce 8 = .ok (.areturn, 1) := by decide +kernel
theorem dJ5_append_cf1ce_9 : decode cJ5_append_cf1ce 9 = .ok (.aload_n 1, 1) := by decide +kernel
theorem dJ5_append_cf1ce_10 : decode cJ5_append_cf1ce 10 = .ok (.invokevirtual 32, 3) := by decide +kernel
theorem dJ5_append_cf1ce_13 : decode cJ5_append_cf1ce 13 = .ok (.istore_n 2, 1) := by decide +kernel
theorem dJ5_append_cf1ce_14 : decode cJ5_append_cf1ce 14 = .ok (.aload_n 0, 1) := by decide +kernel
theorem dJ5_append_cf1ce_15 : decode cJ5_append_cf1ce 15 = .ok (.aload_n 0, 1) := by decide +kernel
theorem dJ5_append_cf1ce_16 : decode cJ5_append_cf1ce 16 = .ok (.getfield 79, 3) := by decide +kernel
theorem dJ5_append_cf1ce_19 : decode cJ5_append_cf1ce 19 = .ok (.iload_n 2, 1) := by decide +kernel
theorem dJ5_append_cf1ce_20 : decode cJ5_append_cf1ce 20 = .ok (.iadd, 1) := by decide +kernel
theorem dJ5_append_cf1ce_21 : decode cJ5_append_cf1ce 21 = .ok (.invokevirtual 100, 3) := by decide +kernel
theorem dJ5_append_cf1ce_24 : decode cJ5_append_cf1ce 24 = .ok (.aload_n 0, 1) := by decide +kernel
theorem dJ5_append_cf1ce_25 : decode cJ5_append_cf1ce 25 = .ok (.aload_n 0, 1) := by decide +kernel
theorem dJ5_append_cf1ce_26 : decode cJ5_append_cf1ce 26 = .ok (.getfield 79, 3) := by decide +kernel
theorem dJ5_append_cf1ce_29 : decode cJ5_append_cf1ce 29 = .ok (.aload_n 1, 1) := by decide +kernel
theorem dJ5_append_cf1ce_30 : decode cJ5_append_cf1ce 30 = .ok (.invokevirtual 208, 3) := by decide +kernel
theorem dJ5_append_cf1ce_33 : decode cJ5_append_cf1ce 33 = .ok (.aload_n 0, 1) := by decide +kernel
theorem dJ5_append_cf1ce_34 : decode cJ5_append_cf1ce 34 = .ok (.dup, 1) := by decide +kernel
theorem dJ5_append_cf1ce_35 : decode cJ5_append_cf1ce 35 = .ok (.getfield 79, 3) := by decide +kernel
theorem dJ5_append_cf1ce_38 : decode cJ5_append_cf1ce 38 = .ok (.iload_n 2, 1) := by decide +kernel
theorem dJ5_append_cf1ce_39 : decode cJ5_append_cf1ce 39 = .ok (.iadd, 1) := by decide +kernel
theorem dJ5_append_cf1ce_40 : decode cJ5_append_cf1ce 40 = .ok (.putfield 79, 3) := by decide +kernel
theorem dJ5_append_cf1ce_43 : decode cJ5_append_cf1ce 43 = .ok (.aload_n 0, 1) := by decide +kernel
theorem dJ5_append_cf1ce_44 : decode cJ5_append_cf1ce 44 = .ok (.areturn, 1) := by decide +kernel
theorem dJ5_appendNull_278bc_0 : decode cJ5_appendNull_278bc 0 = .ok (.aload_n 0, 1) := by decide +kernel
theorem dJ5_appendNull_278bc_1 : decode cJ5_appendNull_278bc 1 = .ok (.aload_n 0, 1) := by decide +kernel
theorem dJ5_appendNull_278bc_2 : decode cJ5_appendNull_278bc 2 = .ok (.getfield 79, 3) := by decide +kernel
theorem dJ5_appendNull_278bc_5 : decode cJ5_appendNull_278bc 5 = .ok (.iconst 4, 1) := by decide +kernel
theorem dJ5_appendNull_278bc_6 : decode cJ5_appendNull_278bc 6 = .ok (.iadd, 1) := by decide +kernel
theorem dJ5_appendNull_278bc_7 : decode cJ5_appendNull_278bc 7 = .ok (.invokevirtual 100, 3) := by decide +kernel
theorem dJ5_appendNull_278bc_10 : decode cJ5_appendNull_278bc 10 = .ok (.aload_n 0, 1) := by decide +kernel
theorem dJ5_appendNull_278bc_11 : decode cJ5_appendNull_278bc 11 = .ok (.getfield 79, 3) := by decide +kernel
theorem dJ5_appendNull_278bc_14 : decode cJ5_appendNull_278bc 14 = .ok (.istore_n 1, 1) := by decide +kernel
theorem dJ5_appendNull_278bc_15 : decode cJ5_appendNull_278bc 15 = .ok (.aload_n 0, 1) := by decide +kernel
theorem dJ5_appendNull_278bc_16 : decode cJ5_appendNull_278bc 16 = .ok (.getfield 15, 3) := by decide +kernel
theorem dJ5_appendNull_278bc_19 : decode cJ5_appendNull_278bc 19 = .ok (.astore_n 2, 1) := by decide +kernel
theorem dJ5_appendNull_278bc_20 : decode cJ5_appendNull_278bc 20 = .ok (.aload_n 0, 1) := by decide +kernel
theorem dJ5_appendNull_278bc_21 : decode cJ5_appendNull_278bc 21 = .ok (.invokevirtual 83, 3) := by decide +kernel
theorem dJ5_appendNull_278bc_24 : decode cJ5_appendNull_278bc 24 = .ok (.ifCond .eq 38, 3) := by decide +kernel
theorem dJ5_appendNull_278bc_27 : decode cJ5_appendNull_278bc 27 = .ok (.aload_n 2, 1) := by decide +kernel
theorem dJ5_appendNull_278bc_28 : decode cJ5_appendNull_278bc 28 = .ok (.iload_n 1, 1) := by decide +kernel
theorem dJ5_appendNull_278bc_29 : decode cJ5_appendNull_278bc 29 = .ok (.iinc 1 1, 3) := by decide +kernel
theorem dJ5_appendNull_278bc_32 : decode cJ5_appendNull_278bc 32 = .ok (.bipush 110, 2) := by decide +kernel
theorem dJ5_appendNull_278bc_34 : decode cJ5_appendNull_278bc 34 = .ok (.bastore, 1) := by decide +kernel
theorem dJ5_appendNull_278bc_35 : decode cJ5_appendNull_278bc 35 = .ok (.aload_n 2, 1) := by decide +kernel
theorem dJ5_appendNull_278bc_36 : decode cJ5_appendNull_278bc 36 = .ok (.iload_n 1, 1) := by decide +kernel
theorem dJ5_appendNull_278bc_37 : decode cJ5_appendNull_278bc 37 = .ok (.iinc 1 1, 3) := by decide +kernel
theorem dJ5_appendNull_278bc_40 : decode cJ5_appendNull_278bc 40 = .ok (.bipush 117, 2) := by decide +kernel
theorem dJ5_appendNull_278bc_42 : decode cJ5_appendNull_278bc 42 = .ok (.bastore, 1) := by decide +kernel
theorem dJ5_appendNull_278bc_43 : decode cJ5_appendNull_278bc 43 = .ok (.aload_n 2, 1) := by decide +kernel
theorem dJ5_appendNull_278bc_44 : decode cJ5_appendNull_278bc 44 = .ok (.iload_n 1, 1) := by decide +kernel
theorem dJ5_appendNull_278bc_45 : decode cJ5_appendNull_278bc 45 = .ok (.iinc 1 1, 3) := by decide +kernel
theorem dJ5_appendNull_278bc_48 : decode cJ5_appendNull_278bc 48 = .ok (.bipush 108, 2) := by decide +kernel
theorem dJ5_appendNull_278bc_50 : decode cJ5_appendNull_278bc 50 = .ok (.bastore, 1) := by decide +kernel
theorem dJ5_appendNull_278bc_51 : decode cJ5_appendNull_278bc 51 = .ok (.aload_n 2, 1) := by decide +kernel
theorem dJ5_appendNull_278bc_52 : decode cJ5_appendNull_278bc 52 = .ok (.iload_n 1, 1) := by decide +kernel
theorem dJ5_appendNull_278bc_53 : decode cJ5_appendNull_278bc 53 = .ok (.iinc 1 1, 3) := by decide +kernel
theorem dJ5_appendNull_278bc_56 : decode cJ5_appendNull_278bc 56 = .ok (.bipush 108, 2) := by decide +kernel
theorem dJ5_appendNull_278bc_58 : decode cJ5_appendNull_278bc 58 = .ok (.bastore, 1) := by decide +kernel
theorem dJ5_appendNull_278bc_59 : decode cJ5_appendNull_278bc 59 = .ok (.goto 17, 3) := by decide +kernel
theorem dJ5_appendNull_278bc_62 : decode cJ5_appendNull_278bc 62 = .ok (.aload_n 2, 1) := by decide +kernel
theorem dJ5_appendNull_278bc_63 : decode cJ5_appendNull_278bc 63 = .ok (.iload_n 1, 1) := by decide +kernel
theorem dJ5_appendNull_278bc_64 : decode cJ5_appendNull_278bc 64 = .ok (.bipush 110, 2) := by decide +kernel
theorem dJ5_appendNull_278bc_66 : decode cJ5_appendNull_278bc 66 = .ok (.bipush 117, 2) := by decide +kernel
theorem dJ5_appendNull_278bc_68 : decode cJ5_appendNull_278bc 68 = .ok (.bipush 108, 2) := by decide +kernel
theorem dJ5_appendNull_278bc_70 : decode cJ5_appendNull_278bc 70 = .ok (.bipush 108, 2) := by decide +kernel
theorem dJ5_appendNull_278bc_72 : decode cJ5_appendNull_278bc 72 = .ok (.invokestatic 226, 3) := by decide +kernel
theorem dJ5_appendNull_278bc_75 : decode cJ5_appendNull_278bc 75 = .ok (.istore_n 1, 1) := by decide +kernel
theorem dJ5_appendNull_278bc_76 : decode cJ5_appendNull_278bc 76 = .ok (.aload_n 0, 1) := by decide +kernel
theorem dJ5_appendNull_278bc_77 : decode cJ5_appendNull_278bc 77 = .ok (.iload_n 1, 1) := by decide +kernel
theorem dJ5_appendNull_278bc_78 : decode cJ5_appendNull_278bc 78 = .ok (.putfield 79, 3) := by decide +kernel
theorem dJ5_appendNull_278bc_81 : decode cJ5_appendNull_278bc 81 = .ok (.aload_n 0, 1) := by decide +kernel
theorem dJ5_appendNull_278bc_82 : decode cJ5_appendNull_278bc 82 = .ok (.areturn, 1) := by decide +kernel
theorem dJ5_append_c97b9_0 : decode cJ5_append_c97b9 0 = .ok (.aload_n 0, 1) := by decide +kernel
theorem dJ5_append_c97b9_1 : decode cJ5_append_c97b9 1 = .ok (.getfield 79, 3) := by decide +kernel
theorem dJ5_append_c97b9_4 : decode cJ5_append_c97b9 4 = .ok (.istore_n 2, 1) := by decide +kernel
theorem dJ5_append_c97b9_5 : decode cJ5_append_c97b9 5 = .ok (.iload_n 2, 1) := by decide +kernel
theorem dJ5_append_c97b9_6 : decode cJ5_append_c97b9 6 = .ok (.iload_n 1, 1) := by decide +kernel
theorem dJ5_append_c97b9_7 : decode cJ5_append_c97b9 7 = .ok (.invokestatic 245, 3) := by decide +kernel
theorem dJ5_append_c97b9_10 : decode cJ5_append_c97b9 10 = .ok (.iadd, 1) := by decide +kernel
theorem dJ5_append_c97b9_11 : decode cJ5_append_c97b9 11 = .ok (.istore_n 3, 1) := by decide +kernel
theorem dJ5_append_c97b9_12 : decode cJ5_append_c97b9 12 = .ok (.aload_n 0, 1) := by decide +kernel
theorem dJ5_append_c97b9_13 : decode cJ5_append_c97b9 13 = .ok (.iload_n 3, 1) := by decide +kernel
theorem dJ5_append_c97b9_14 : decode cJ5_append_c97b9 14 = .ok (.invokevirtual 100, 3) := by decide +kernel
theorem dJ5_append_c97b9_17 : decode cJ5_append_c97b9 17 = .ok (.aload_n 0, 1) := by decide +kernel
theorem dJ5_append_c97b9_18 : decode cJ5_append_c97b9 18 = .ok (.invokevirtual 83, 3) := by decide +kernel
theorem dJ5_append_c97b9_21 : decode cJ5_append_c97b9 21 = .ok (.ifCond .eq 16, 3) := by decide +kernel
theorem dJ5_append_c97b9_24 : decode cJ5_append_c97b9 24 = .ok (.iload_n 1, 1) := by decide +kernel
theorem dJ5_append_c97b9_25 : decode cJ5_append_c97b9 25 = .ok (.iload_n 3, 1) := by decide +kernel
theorem dJ5_append_c97b9_26 : decode cJ5_append_c97b9 26 = .ok (.aload_n 0, 1) := by decide +kernel
theorem dJ5_append_c97b9_27 : decode cJ5_append_c97b9 27 = .ok (.getfield 15, 3) := by decide +kernel
theorem dJ5_append_c97b9_30 : decode cJ5_append_c97b9 30 = .ok (.invokestatic 248, 3) := by decide +kernel
theorem dJ5_append_c97b9_33 : decode cJ5_append_c97b9 33 = .ok (.pop, 1) := by decide +kernel
theorem dJ5_append_c97b9_34 : decode cJ5_append_c97b9 34 = .ok (.goto 14, 3) := by decide +kernel
theorem dJ5_append_c97b9_37 : decode cJ5_append_c97b9 37 = .ok (.iload_n 1, 1) := by decide +kernel
theorem dJ5_append_c97b9_38 : decode cJ5_append_c97b9 38 = .ok (.iload_n 2, 1) := by decide +kernel
theorem dJ5_append_c97b9_39 : decode cJ5_append_c97b9 39 = .ok (.iload_n 3, 1) := by decide +kernel
theorem dJ5_append_c97b9_40 : decode cJ5_append_c97b9 40 = .ok (.aload_n 0, 1) := by decide +kernel
theorem dJ5_append_c97b9_41 : decode cJ5_append_c97b9 41 = .ok (.getfield 15, 3) := by decide +kernel
theorem dJ5_append_c97b9_44 : decode cJ5_append_c97b9 44 = .ok (.invokestatic 251, 3) := by decide +kernel
theorem dJ5_append_c97b9_47 : decode cJ5_append_c97b9 47 = .ok (.pop, 1) := by decide +kernel
theorem dJ5_append_c97b9_48 : decode cJ5_append_c97b9 48 = .ok (.aload_n 0, 1) := by decide +kernel
theorem dJ5_append_c97b9_49 : decode cJ5_append_c97b9 49 = .ok (.iload_n 3, 1) := by decide +kernel
theorem dJ5_append_c97b9_50 : decode cJ5_append_c97b9 50 = .ok (.putfield 79, 3) := by decide +kernel
theorem dJ5_append_c97b9_53 : decode cJ5_append_c97b9 53 = .ok (.aload_n 0, 1) := by decide +kernel
theorem dJ5_append_c97b9_54 : decode cJ5_append_c97b9 54 = .ok (.areturn, 1) := by decide +kernel
theorem dJ5_getValue_6d5f1_0 : decode cJ5_getValue_6d5f1 0 = .ok (.aload_n 0, 1) := by decide +kernel
theorem dJ5_getValue_6d5f1_1 : decode cJ5_getValue_6d5f1 1 = .ok (.getfield 15, 3) := by decide +kernel
theorem dJ5_getValue_6d5f1_4 : decode cJ5_getValue_6d5f1 4 = .ok (.areturn, 1) := by decide +kernel
theorem dJ5_isLatin1_aae02_0 : decode cJ5_isLatin1_aae02 0 = .ok (.getstatic 18, 3) := by decide +kernel
theorem dJ5_isLatin1_aae02_3 : decode cJ5_isLatin1_aae02 3 = .ok (.ifCond .eq 14, 3) := by decide +kernel
theorem dJ5_isLatin1_aae02_6 : decode cJ5_isLatin1_aae02 6 = .ok (.aload_n 0, 1) := by decide +kernel
theorem dJ5_isLatin1_aae02_7 : decode cJ5_isLatin1_aae02 7 = .ok (.getfield 22, 3) := by decide +kernel
theorem dJ5_isLatin1_aae02_10 : decode cJ5_isLatin1_aae02 10 = .ok (.ifCond .ne 7, 3) := by decide +kernel
theorem dJ5_isLatin1_aae02_13 : decode cJ5_isLatin1_aae02 13 = .ok (.iconst 1, 1) := by decide +kernel
theorem dJ5_isLatin1_aae02_14 : decode cJ5_isLatin1_aae02 14 = .ok (.goto 4, 3) := by decide +kernel
theorem dJ5_isLatin1_aae02_17 : decode cJ5_isLatin1_aae02 17 = .ok (.iconst 0, 1) := by decide +kernel
theorem dJ5_isLatin1_aae02_18 : decode cJ5_isLatin1_aae02 18 = .ok (.ireturn, 1) := by decide +kernel
theorem dJ5_inflateIfNeededFor_a7421_0 : decode cJ5_inflateIfNeededFor_a7421 0 = .ok (.getstatic 18, 3) := by decide +kernel
theorem dJ5_inflateIfNeededFor_a7421_3 : decode cJ5_inflateIfNeededFor_a7421 3 = .ok (.ifCond .eq 18, 3) := by decide +kernel
theorem dJ5_inflateIfNeededFor_a7421_6 : decode cJ5_inflateIfNeededFor_a7421 6 = .ok (.aload_n 0, 1) := by decide +kernel
theorem dJ5_inflateIfNeededFor_a7421_7 : decode cJ5_inflateIfNeededFor_a7421 7 = .ok (.getfield 22, 3) := by decide +kernel
theorem dJ5_inflateIfNeededFor_a7421_10 : decode cJ5_inflateIfNeededFor_a7421 10 = .ok (.aload_n 1, 1) := by decide +kernel
theorem dJ5_inflateIfNeededFor_a7421_11 : decode cJ5_inflateIfNeededFor_a7421 11 = .ok (.invokevirtual 40, 3) := by decide +kernel
theorem dJ5_inflateIfNeededFor_a7421_14 : decode cJ5_inflateIfNeededFor_a7421 14 = .ok (.if_icmp .eq 7, 3) := by decide +kernel
theorem dJ5_inflateIfNeededFor_a7421_17 : decode cJ5_inflateIfNeededFor_a7421 17 = .ok (.aload_n 0, 1) := by decide +kernel
theorem dJ5_inflateIfNeededFor_a7421_18 : decode cJ5_inflateIfNeededFor_a7421 18 = .ok (.invokevirtual 195, 3) := by decide +kernel
theorem dJ5_inflateIfNeededFor_a7421_21 : decode cJ5_inflateIfNeededFor_a7421 21 = .ok (.return_, 1) := by decide +kernel
theorem dJ5_putStringAt_47b60_0 : decode cJ5_putStringAt_47b60 0 = .ok (.aload_n 0, 1) := by decide +kernel
theorem dJ5_putStringAt_47b60_1 : decode cJ5_putStringAt_47b60 1 = .ok (.aload_n 2, 1) := by decide +kernel
theorem dJ5_putStringAt_47b60_2 : decode cJ5_putStringAt_47b60 2 = .ok (.invokevirtual 397, 3) := by decide +kernel
theorem dJ5_putStringAt_47b60_5 : decode cJ5_putStringAt_47b60 5 = .ok (.aload_n 2, 1) := by decide +kernel
theorem dJ5_putStringAt_47b60_6 : decode cJ5_putStringAt_47b60 6 = .ok (.aload_n 0, 1) := by decide +kernel
theorem dJ5_putStringAt_47b60_7 : decode cJ5_putStringAt_47b60 7 = .ok (.getfield 15, 3) := by decide +kernel
theorem dJ5_putStringAt_47b60_10 : decode cJ5_putStringAt_47b60 10 = .ok (.iload_n 1, 1) := by decide +kernel
theorem dJ5_putStringAt_47b60_11 : decode cJ5_putStringAt_47b60 11 = .ok (.aload_n 0, 1) := by decide +kernel
theorem dJ5_putStringAt_47b60_12 : decode cJ5_putStringAt_47b60 12 = .ok (.getfield 22, 3) := by decide +kernel
theorem dJ5_putStringAt_47b60_15 : decode cJ5_putStringAt_47b60 15 = .ok (.invokevirtual 399, 3) := by decide +kernel
theorem dJ5_putStringAt_47b60_18 : decode cJ5_putStringAt_47b60 18 = .ok (.return_, 1) := by decide +kernel
theorem dJ6_getChars_ba4f3_0 : decode cJ6_getChars_ba4f3 0 = .ok (.iload_n 1, 1) := by decide +kernel
theorem dJ6_getChars_ba4f3_1 : decode cJ6_getChars_ba4f3 1 = .ok (.istore 5, 2) := by decide +kernel
theorem dJ6_getChars_ba4f3_3 : decode cJ6_getChars_ba4f3 3 = .ok (.iload_n 0, 1) := by decide +kernel
theorem dJ6_getChars_ba4f3_4 : decode cJ6_getChars_ba4f3 4 = .ok (.ifCond .ge 7, 3) := by decide +kernel
theorem dJ6_getChars_ba4f3_7 : decode cJ6_getChars_ba4f3 7 = .ok (.iconst 1, 1) := by decide +kernel
theorem dJ6_getChars_ba4f3_8 : decode cJ6_getChars_ba4f3 8 = .ok (.goto 4, 3) := by decide +kernel
theorem dJ6_getChars_ba4f3_11 : decode cJ6_getChars_ba4f3 11 = .ok (.iconst 0, 1) := by decide +kernel
theorem dJ6_getChars_ba4f3_12 : decode cJ6_getChars_ba4f3 12 = .ok (.istore 6, 2) := by decide +kernel
theorem dJ6_getChars_ba4f3_14 : decode cJ6_getChars_ba4f3 14 = .ok (.iload 6, 2) := by decide +kernel
theorem dJ6_getChars_ba4f3_16 : decode cJ6_getChars_ba4f3 16 = .ok (.ifCond .ne 6, 3) := by decide +kernel
theorem dJ6_getChars_ba4f3_19 : decode cJ6_getChars_ba4f3 19 = .ok (.iload_n 0, 1) := by decide +kernel
theorem dJ6_getChars_ba4f3_20 : decode cJ6_getChars_ba4f3 20 = .ok (.ineg, 1) := by decide +kernel
theorem dJ6_getChars_ba4f3_21 : decode cJ6_getChars_ba4f3 21 = .ok (.istore_n 0, 1) := by decide +kernel
theorem dJ6_getChars_ba4f3_22 : decode cJ6_getChars_ba4f3 22 = .ok (.iload_n 0, 1) := by decide +kernel
theorem dJ6_getChars_ba4f3_23 : decode cJ6_getChars_ba4f3 23 = .ok (.bipush (-100), 2) := by decide +kernel
theorem dJ6_getChars_ba4f3_25 : decode cJ6_getChars_ba4f3 25 = .ok (.if_icmp .gt 47, 3) := by decide +kernel
theorem dJ6_getChars_ba4f3_28 : decode cJ6_getChars_ba4f3 28 = .ok (.iload_n 0, 1) := by decide +kernel
theorem dJ6_getChars_ba4f3_29 : decode cJ6_getChars_ba4f3 29 = .ok (.bipush 100, 2) := by decide +kernel
theorem dJ6_getChars_ba4f3_31 : decode cJ6_getChars_ba4f3 31 = .ok (.idiv, 1) := by decide +kernel
theorem dJ6_getChars_ba4f3_32 : decode cJ6_getChars_ba4f3 32 = .ok (.istore_n 3, 1) := by decide +kernel
theorem dJ6_getChars_ba4f3_33 : decode cJ6_getChars_ba4f3 33 = .ok (.iload_n 3, 1) := by decide +kernel
theorem dJ6_getChars_ba4f3_34 : decode cJ6_getChars_ba4f3 34 = .ok (.bipush 100, 2) := by decide +kernel
theorem dJ6_getChars_ba4f3_36 : decode cJ6_getChars_ba4f3 36 = .ok (.imul, 1) := by decide +kernel
theorem dJ6_getChars_ba4f3_37 : decode cJ6_getChars_ba4f3 37 = .ok (.iload_n 0, 1) := by decide +kernel
theorem dJ6_getChars_ba4f3_38 : decode cJ6_getChars_ba4f3 38 = .ok (.isub, 1) := by decide +kernel
theorem dJ6_getChars_ba4f3_39 : decode cJ6_getChars_ba4f3 39 = .ok (.istore 4, 2) := by decide +kernel
theorem dJ6_getChars_ba4f3_41 : decode cJ6_getChars_ba4f3 41 = .ok (.iload_n 3, 1) := by decide +kernel
theorem dJ6_getChars_ba4f3_42 : decode cJ6_getChars_ba4f3 42 = .ok (.istore_n 0, 1) := by decide +kernel
theorem dJ6_getChars_ba4f3_43 : decode cJ6_getChars_ba4f3 43 = .ok (.aload_n 2, 1) := by decide +kernel
theorem dJ6_getChars_ba4f3_44 : decode cJ6_getChars_ba4f3 44 = .ok (.iinc 5 (-1), 3) := by decide +kernel
theorem dJ6_getChars_ba4f3_47 : decode cJ6_getChars_ba4f3 47 = .ok (.iload 5, 2) := by decide +kernel
theorem dJ6_getChars_ba4f3_49 : decode cJ6_getChars_ba4f3 49 = .ok (.getstatic 83, 3) := by decide +kernel
theorem dJ6_getChars_ba4f3_52 : decode cJ6_getChars_ba4f3 52 = .ok (.iload 4, 2) := by decide +kernel
theorem dJ6_getChars_ba4f3_54 : decode cJ6_getChars_ba4f3 54 = .ok (.baload, 1) := by decide +kernel
theorem dJ6_getChars_ba4f3_55 : decode cJ6_getChars_ba4f3 55 = .ok (.bastore, 1) := by decide +kernel
theorem dJ6_getChars_ba4f3_56 : decode cJ6_getChars_ba4f3 56 = .ok (.aload_n 2, 1) := by decide +kernel
theorem dJ6_getChars_ba4f3_57 : decode cJ6_getChars_ba4f3 57 = .ok (.iinc 5 (-1), 3) := by decide +kernel
theorem dJ6_getChars_ba4f3_60 : decode cJ6_getChars_ba4f3 60 = .ok (.iload 5, 2) := by decide +kernel
theorem dJ6_getChars_ba4f3_62 : decode cJ6_getChars_ba4f3 62 = .ok (.getstatic 87, 3) := by decide +kernel
theorem dJ6_getChars_ba4f3_65 : decode cJ6_getChars_ba4f3 65 = .ok (.iload 4, 2) := by decide +kernel
theorem dJ6_getChars_ba4f3_67 : decode cJ6_getChars_ba4f3 67 = .ok (.baload, 1) := by decide +kernel
theorem dJ6_getChars_ba4f3_68 : decode cJ6_getChars_ba4f3 68 = .ok (.bastore, 1) := by decide +kernel
theorem dJ6_getChars_ba4f3_69 : decode cJ6_getChars_ba4f3 69 = .ok (.goto (-47), 3) := by decide +kernel
theorem dJ6_getChars_ba4f3_72 : decode cJ6_getChars_ba4f3 72 = .ok (.aload_n 2, 1) := by decide +kernel
theorem dJ6_getChars_ba4f3_73 : decode cJ6_getChars_ba4f3 73 = .ok (.iinc 5 (-1), 3) := by decide +kernel
theorem dJ6_getChars_ba4f3_76 : decode cJ6_getChars_ba4f3 76 = .ok (.iload 5, 2) := by decide +kernel
theorem dJ6_getChars_ba4f3_78 : decode cJ6_getChars_ba4f3 78 = .ok (.getstatic 83, 3) := by decide +kernel
theorem dJ6_getChars_ba4f3_81 : decode cJ6_getChars_ba4f3 81 = .ok (.iload_n 0, 1) := by decide +kernel
theorem dJ6_getChars_ba4f3_82 : decode cJ6_getChars_ba4f3 82 = .ok (.ineg, 1) := by decide +kernel
theorem dJ6_getChars_ba4f3_83 : decode cJ6_getChars_ba4f3 83 = .ok (.baload, 1) := by decide +kernel
theorem dJ6_getChars_ba4f3_84 : decode cJ6_getChars_ba4f3 84 = .ok (.bastore, 1) := by decide +kernel
theorem dJ6_getChars_ba4f3_85 : decode cJ6_getChars_ba4f3 85 = .ok (.iload_n 0, 1) := by decide +kernel
theorem dJ6_getChars_ba4f3_86 : decode cJ6_getChars_ba4f3 86 = .ok (.bipush (-9), 2) := by decide +kernel
theorem dJ6_getChars_ba4f3_88 : decode cJ6_getChars_ba4f3 88 = .ok (.if_icmp .ge 16, 3) := by decide +kernel
theorem dJ6_getChars_ba4f3_91 : decode cJ6_getChars_ba4f3 91 = .ok (.aload_n 2, 1) := by decide +kernel
theorem dJ6_getChars_ba4f3_92 : decode cJ6_getChars_ba4f3 92 = .ok (.iinc 5 (-1), 3) := by decide +kernel
theorem dJ6_getChars_ba4f3_95 : decode cJ6_getChars_ba4f3 95 = .ok (.iload 5, 2) := by decide +kernel
theorem dJ6_getChars_ba4f3_97 : decode cJ6_getChars_ba4f3 97 = .ok (.getstatic 87, 3) := by decide +kernel
theorem dJ6_getChars_ba4f3_100 : decode cJ6_getChars_ba4f3 100 = .ok (.iload_n 0, 1) := by decide +kernel
theorem dJ6_getChars_ba4f3_101 : decode cJ6_getChars_ba4f3 101 = .ok (.ineg, 1) := by decide +kernel
theorem dJ6_getChars_ba4f3_102 : decode cJ6_getChars_ba4f3 102 = .ok (.baload, 1) := by decide +kernel
theorem dJ6_getChars_ba4f3_103 : decode cJ6_getChars_ba4f3 103 = .ok (.bastore, 1) := by decide +kernel
theorem dJ6_getChars_ba4f3_104 : decode cJ6_getChars_ba4f3 104 = .ok (.iload 6, 2) := by decide +kernel
theorem dJ6_getChars_ba4f3_106 : decode cJ6_getChars_ba4f3 106 = .ok (.ifCond .eq 12, 3) := by decide +kernel
theorem dJ6_getChars_ba4f3_109 : decode cJ6_getChars_ba4f3 109 = .ok (.aload_n 2, 1) := by decide +kernel
theorem dJ6_getChars_ba4f3_110 : decode cJ6_getChars_ba4f3 110 = .ok (.iinc 5 (-1), 3) := by decide +kernel
theorem dJ6_getChars_ba4f3_113 : decode cJ6_getChars_ba4f3 113 = .ok (.iload 5, 2) := by decide +kernel
theorem dJ6_getChars_ba4f3_115 : decode cJ6_getChars_ba4f3 115 = .ok (.bipush 45, 2) := by decide +kernel
theorem dJ6_getChars_ba4f3_117 : decode cJ6_getChars_ba4f3 117 = .ok (.bastore, 1) := by decide +kernel
theorem dJ6_getChars_ba4f3_118 : decode cJ6_getChars_ba4f3 118 = .ok (.iload 5, 2) := by decide +kernel
theorem dJ6_getChars_ba4f3_120 : decode cJ6_getChars_ba4f3 120 = .ok (.ireturn, 1) := by decide +kernel
theorem dJ6_stringSize_0f7a4_0 : decode cJ6_stringSize_0f7a4 0 = .ok (.iconst 1, 1) := by decide +kernel
theorem dJ6_stringSize_0f7a4_1 : decode cJ6_stringSize_0f7a4 1 = .ok (.istore_n 1, 1) := by decide +kernel
theorem dJ6_stringSize_0f7a4_2 : decode cJ6_stringSize_0f7a4 2 = .ok (.iload_n 0, 1) := by decide +kernel
theorem dJ6_stringSize_0f7a4_3 : decode cJ6_stringSize_0f7a4 3 = .ok (.ifCond .lt 8, 3) := by decide +kernel
theorem dJ6_stringSize_0f7a4_6 : decode cJ6_stringSize_0f7a4 6 = .ok (.iconst 0, 1) := by decide +kernel
theorem dJ6_stringSize_0f7a4_7 : decode cJ6_stringSize_0f7a4 7 = .ok (.istore_n 1, 1) := by decide +kernel
theorem dJ6_stringSize_0f7a4_8 : decode cJ6_stringSize_0f7a4 8 = .ok (.iload_n 0, 1) := by decide +kernel
theorem dJ6_stringSize_0f7a4_9 : decode cJ6_stringSize_0f7a4 9 = .ok (.ineg, 1) := by decide +kernel
theorem dJ6_stringSize_0f7a4_10 : decode cJ6_stringSize_0f7a4 10 = .ok (.istore_n 0, 1) := by decide +kernel
theorem dJ6_stringSize_0f7a4_11 : decode cJ6_stringSize_0f7a4 11 = .ok (.bipush (-10), 2) := by decide +kernel
theorem dJ6_stringSize_0f7a4_13 : decode cJ6_stringSize_0f7a4 13 = .ok (.istore_n 2, 1) := by decide +kernel
theorem dJ6_stringSize_0f7a4_14 : decode cJ6_stringSize_0f7a4 14 = .ok (.iconst 1, 1) := by decide +kernel
theorem dJ6_stringSize_0f7a4_15 : decode cJ6_stringSize_0f7a4 15 = .ok (.istore_n 3, 1) := by decide +kernel
theorem dJ6_stringSize_0f7a4_16 : decode cJ6_stringSize_0f7a4 16 = .ok (.iload_n 3, 1) := by decide +kernel
theorem dJ6_stringSize_0f7a4_17 : decode cJ6_stringSize_0f7a4 17 = .ok (.bipush 10, 2) := by decide +kernel
theorem dJ6_stringSize_0f7a4_19 : decode cJ6_stringSize_0f7a4 19 = .ok (.if_icmp .ge 23, 3) := by decide +kernel
theorem dJ6_stringSize_0f7a4_22 : decode cJ6_stringSize_0f7a4 22 = .ok (.iload_n 0, 1) := by decide +kernel
theorem dJ6_stringSize_0f7a4_23 : decode cJ6_stringSize_0f7a4 23 = .ok (.iload_n 2, 1) := by decide +kernel
theorem dJ6_stringSize_0f7a4_24 : decode cJ6_stringSize_0f7a4 24 = .ok (.if_icmp .le 7, 3) := by decide +kernel
theorem dJ6_stringSize_0f7a4_27 : decode cJ6_stringSize_0f7a4 27 = .ok (.iload_n 3, 1) := by decide +kernel
theorem dJ6_stringSize_0f7a4_28 : decode cJ6_stringSize_0f7a4 28 = .ok (.iload_n 1, 1) := by decide +kernel
theorem dJ6_stringSize_0f7a4_29 : decode cJ6_stringSize_0f7a4 29 = .ok (.iadd, 1) := by decide +kernel
theorem dJ6_stringSize_0f7a4_30 : decode cJ6_stringSize_0f7a4 30 = .ok (.ireturn, 1) := by decide +kernel
theorem dJ6_stringSize_0f7a4_31 : decode cJ6_stringSize_0f7a4 31 = .ok (.bipush 10, 2) := by decide +kernel
theorem dJ6_stringSize_0f7a4_33 : decode cJ6_stringSize_0f7a4 33 = .ok (.iload_n 2, 1) := by decide +kernel
theorem dJ6_stringSize_0f7a4_34 : decode cJ6_stringSize_0f7a4 34 = .ok (.imul, 1) := by decide +kernel
theorem dJ6_stringSize_0f7a4_35 : decode cJ6_stringSize_0f7a4 35 = .ok (.istore_n 2, 1) := by decide +kernel
theorem dJ6_stringSize_0f7a4_36 : decode cJ6_stringSize_0f7a4 36 = .ok (.iinc 3 1, 3) := by decide +kernel
theorem dJ6_stringSize_0f7a4_39 : decode cJ6_stringSize_0f7a4 39 = .ok (.goto (-23), 3) := by decide +kernel
theorem dJ6_stringSize_0f7a4_42 : decode cJ6_stringSize_0f7a4 42 = .ok (.bipush 10, 2) := by decide +kernel
theorem dJ6_stringSize_0f7a4_44 : decode cJ6_stringSize_0f7a4 44 = .ok (.iload_n 1, 1) := by decide +kernel
theorem dJ6_stringSize_0f7a4_45 : decode cJ6_stringSize_0f7a4 45 = .ok (.iadd, 1) := by decide +kernel
theorem dJ6_stringSize_0f7a4_46 : decode cJ6_stringSize_0f7a4 46 = .ok (.ireturn, 1) := by decide +kernel
theorem dJ9_max_7cf53_0 : decode cJ9_max_7cf53 0 = .ok (.iload_n 0, 1) := by decide +kernel
theorem dJ9_max_7cf53_1 : decode cJ9_max_7cf53 1 = .ok (.iload_n 1, 1) := by decide +kernel
theorem dJ9_max_7cf53_2 : decode cJ9_max_7cf53 2 = .ok (.if_icmp .lt 7, 3) := by decide +kernel
theorem dJ9_max_7cf53_5 : decode cJ9_max_7cf53 5 = .ok (.iload_n 0, 1) := by decide +kernel
theorem dJ9_max_7cf53_6 : decode cJ9_max_7cf53 6 = .ok (.goto 4, 3) := by decide +kernel
theorem dJ9_max_7cf53_9 : decode cJ9_max_7cf53 9 = .ok (.iload_n 1, 1) := by decide +kernel
theorem dJ9_max_7cf53_10 : decode cJ9_max_7cf53 10 = .ok (.ireturn, 1) := by decide +kernel
theorem dJ9_max_f86c9_0 : decode cJ9_max_f86c9 0 = .ok (.lload_n 0, 1) := by decide +kernel
theorem dJ9_max_f86c9_1 : decode cJ9_max_f86c9 1 = .ok (.lload_n 2, 1) := by decide +kernel
theorem dJ9_max_f86c9_2 : decode cJ9_max_f86c9 2 = .ok (.lcmp, 1) := by decide +kernel
theorem dJ9_max_f86c9_3 : decode cJ9_max_f86c9 3 = .ok (.ifCond .lt 7, 3) := by decide +kernel
theorem dJ9_max_f86c9_6 : decode cJ9_max_f86c9 6 = .ok (.lload_n 0, 1) := by decide +kernel
theorem dJ9_max_f86c9_7 : decode cJ9_max_f86c9 7 = .ok (.goto 4, 3) := by decide +kernel
theorem dJ9_max_f86c9_10 : decode cJ9_max_f86c9 10 = .ok (.lload_n 2, 1) := by decide +kernel
theorem dJ9_max_f86c9_11 : decode cJ9_max_f86c9 11 = .ok (.lreturn, 1) := by decide +kernel
theorem dJ9_min_7cf53_0 : decode cJ9_min_7cf53 0 = .ok (.iload_n 0, 1) := by decide +kernel
theorem dJ9_min_7cf53_1 : decode cJ9_min_7cf53 1 = .ok (.iload_n 1, 1) := by decide +kernel
theorem dJ9_min_7cf53_2 : decode cJ9_min_7cf53 2 = .ok (.if_icmp .gt 7, 3) := by decide +kernel
theorem dJ9_min_7cf53_5 : decode cJ9_min_7cf53 5 = .ok (.iload_n 0, 1) := by decide +kernel
theorem dJ9_min_7cf53_6 : decode cJ9_min_7cf53 6 = .ok (.goto 4, 3) := by decide +kernel
theorem dJ9_min_7cf53_9 : decode cJ9_min_7cf53 9 = .ok (.iload_n 1, 1) := by decide +kernel
theorem dJ9_min_7cf53_10 : decode cJ9_min_7cf53 10 = .ok (.ireturn, 1) := by decide +kernel
theorem dJ9_min_f86c9_0 : decode cJ9_min_f86c9 0 = .ok (.lload_n 0, 1) := by decide +kernel
theorem dJ9_min_f86c9_1 : decode cJ9_min_f86c9 1 = .ok (.lload_n 2, 1) := by decide +kernel
theorem dJ9_min_f86c9_2 : decode cJ9_min_f86c9 2 = .ok (.lcmp, 1) := by decide +kernel
theorem dJ9_min_f86c9_3 : decode cJ9_min_f86c9 3 = .ok (.ifCond .gt 7, 3) := by decide +kernel
theorem dJ9_min_f86c9_6 : decode cJ9_min_f86c9 6 = .ok (.lload_n 0, 1) := by decide +kernel
theorem dJ9_min_f86c9_7 : decode cJ9_min_f86c9 7 = .ok (.goto 4, 3) := by decide +kernel
theorem dJ9_min_f86c9_10 : decode cJ9_min_f86c9 10 = .ok (.lload_n 2, 1) := by decide +kernel
theorem dJ9_min_f86c9_11 : decode cJ9_min_f86c9 11 = .ok (.lreturn, 1) := by decide +kernel
theorem dJ0_init_81219_0 : decode cJ0_init_81219 0 = .ok (.aload_n 0, 1) := by decide +kernel
theorem dJ0_init_81219_1 : decode cJ0_init_81219 1 = .ok (.aload_n 1, 1) := by decide +kernel
theorem dJ0_init_81219_2 : decode cJ0_init_81219 2 = .ok (.aconst_null, 1) := by decide +kernel
theorem dJ0_init_81219_3 : decode cJ0_init_81219 3 = .ok (.invokespecial 489, 3) := by decide +kernel
theorem dJ0_init_81219_6 : decode cJ0_init_81219 6 = .ok (.return_, 1) := by decide +kernel
theorem dJ0_length_8abf5_0 : decode cJ0_length_8abf5 0 = .ok (.aload_n 0, 1) := by decide +kernel
theorem dJ0_length_8abf5_1 : decode cJ0_length_8abf5 1 = .ok (.getfield 9, 3) := by decide +kernel
theorem dJ0_length_8abf5_4 : decode cJ0_length_8abf5 4 = .ok (.arraylength, 1) := by decide +kernel
theorem dJ0_length_8abf5_5 : decode cJ0_length_8abf5 5 = .ok (.aload_n 0, 1) := by decide +kernel
theorem dJ0_length_8abf5_6 : decode cJ0_length_8abf5 6 = .ok (.invokevirtual 335, 3) := by decide +kernel
theorem dJ0_length_8abf5_9 : decode cJ0_length_8abf5 9 = .ok (.ishr, 1) := by decide +kernel
theorem dJ0_length_8abf5_10 : decode cJ0_length_8abf5 10 = .ok (.ireturn, 1) := by decide +kernel
theorem dJ0_charAt_5068e_0 : decode cJ0_charAt_5068e 0 = .ok (.aload_n 0, 1) := by decide +kernel
theorem dJ0_charAt_5068e_1 : decode cJ0_charAt_5068e 1 = .ok (.invokevirtual 492, 3) := by decide +kernel
theorem dJ0_charAt_5068e_4 : decode cJ0_charAt_5068e 4 = .ok (.ifCond .eq 12, 3) := by decide +kernel
theorem dJ0_charAt_5068e_7 : decode cJ0_charAt_5068e 7 = .ok (.aload_n 0, 1) := by decide +kernel
theorem dJ0_charAt_5068e_8 : decode cJ0_charAt_5068e 8 = .ok (.getfield 9, 3) := by decide +kernel
theorem dJ0_charAt_5068e_11 : decode cJ0_charAt_5068e 11 = .ok (.iload_n 1, 1) := by decide +kernel
theorem dJ0_charAt_5068e_12 : decode cJ0_charAt_5068e 12 = .ok (.invokestatic 495, 3) := by decide +kernel
theorem dJ0_charAt_5068e_15 : decode cJ0_charAt_5068e 15 = .ok (.ireturn, 1) := by decide +kernel
theorem dJ0_charAt_5068e_16 : decode cJ0_charAt_5068e 16 = .ok (.aload_n 0, 1) := by decide +kernel
theorem dJ0_charAt_5068e_17 : decode cJ0_charAt_5068e 17 = .ok (.getfield 9, 3) := by decide +kernel
theorem dJ0_charAt_5068e_20 : decode cJ0_charAt_5068e 20 = .ok (.iload_n 1, 1) := by decide +kernel
theorem dJ0_charAt_5068e_21 : decode cJ0_charAt_5068e 21 = .ok (.invokestatic 498, 3) := by decide +kernel
theorem dJ0_charAt_5068e_24 : decode cJ0_charAt_5068e 24 = .ok (.ireturn, 1) := by decide +kernel
theorem dJ0_getBytes_840e7_0 : decode cJ0_getBytes_840e7 0 = .ok (.aload_n 0, 1) := by decide +kernel
theorem dJ0_getBytes_840e7_1 : decode cJ0_getBytes_840e7 1 = .ok (.invokevirtual 335, 3) := by decide +kernel
theorem dJ0_getBytes_840e7_4 : decode cJ0_getBytes_840e7 4 = .ok (.iload_n 3, 1) := by decide +kernel
theorem dJ0_getBytes_840e7_5 : decode cJ0_getBytes_840e7 5 = .ok (.if_icmp .ne 23, 3) := by decide +kernel
theorem dJ0_getBytes_840e7_8 : decode cJ0_getBytes_840e7 8 = .ok (.aload_n 0, 1) := by decide +kernel
theorem dJ0_getBytes_840e7_9 : decode cJ0_getBytes_840e7 9 = .ok (.getfield 9, 3) := by decide +kernel
theorem dJ0_getBytes_840e7_12 : decode cJ0_getBytes_840e7 12 = .ok (.iconst 0, 1) := by decide +kernel
theorem dJ0_getBytes_840e7_13 : decode cJ0_getBytes_840e7 13 = .ok (.aload_n 1, 1) := by decide +kernel
theorem dJ0_getBytes_840e7_14 : decode cJ0_getBytes_840e7 14 = .ok (.iload_n 2, 1) := by decide +kernel
theorem dJ0_getBytes_840e7_15 : decode cJ0_getBytes_840e7 15 = .ok (.iload_n 3, 1) := by decide +kernel
theorem dJ0_getBytes_840e7_16 : decode cJ0_getBytes_840e7 16 = .ok (.ishl, 1) := by decide +kernel
theorem dJ0_getBytes_840e7_17 : decode cJ0_getBytes_840e7 17 = .ok (.aload_n 0, 1) := by decide +kernel
theorem dJ0_getBytes_840e7_18 : decode cJ0_getBytes_840e7 18 = .ok (.getfield 9, 3) := by decide +kernel
theorem dJ0_getBytes_840e7_21 : decode cJ0_getBytes_840e7 21 = .ok (.arraylength, 1) := by decide +kernel
theorem dJ0_getBytes_840e7_22 : decode cJ0_getBytes_840e7 22 = .ok (.invokestatic 212, 3) := by decide +kernel
theorem dJ0_getBytes_840e7_25 : decode cJ0_getBytes_840e7 25 = .ok (.goto 18, 3) := by decide +kernel
theorem dJ0_getBytes_840e7_28 : decode cJ0_getBytes_840e7 28 = .ok (.aload_n 0, 1) := by decide +kernel
theorem dJ0_getBytes_840e7_29 : decode cJ0_getBytes_840e7 29 = .ok (.getfield 9, 3) := by decide +kernel
theorem dJ0_getBytes_840e7_32 : decode cJ0_getBytes_840e7 32 = .ok (.iconst 0, 1) := by decide +kernel
theorem dJ0_getBytes_840e7_33 : decode cJ0_getBytes_840e7 33 = .ok (.aload_n 1, 1) := by decide +kernel
theorem dJ0_getBytes_840e7_34 : decode cJ0_getBytes_840e7 34 = .ok (.iload_n 2, 1) := by decide +kernel
theorem dJ0_getBytes_840e7_35 : decode cJ0_getBytes_840e7 35 = .ok (.aload_n 0, 1) := by decide +kernel
theorem dJ0_getBytes_840e7_36 : decode cJ0_getBytes_840e7 36 = .ok (.getfield 9, 3) := by decide +kernel
theorem dJ0_getBytes_840e7_39 : decode cJ0_getBytes_840e7 39 = .ok (.arraylength, 1) := by decide +kernel
theorem dJ0_getBytes_840e7_40 : decode cJ0_getBytes_840e7 40 = .ok (.invokestatic 106, 3) := by decide +kernel
theorem dJ0_getBytes_840e7_43 : decode cJ0_getBytes_840e7 43 = .ok (.return_, 1) := by decide +kernel
theorem dJ0_init_db425_0 : decode cJ0_init_db425 0 = .ok (.aload_n 0, 1) := by decide +kernel
theorem dJ0_init_db425_1 : decode cJ0_init_db425 1 = .ok (.invokespecial 1, 3) := by decide +kernel
theorem dJ0_init_db425_4 : decode cJ0_init_db425 4 = .ok (.aload_n 1, 1) := by decide +kernel
theorem dJ0_init_db425_5 : decode cJ0_init_db425 5 = .ok (.invokevirtual 552, 3) := by decide +kernel
theorem dJ0_init_db425_8 : decode cJ0_init_db425 8 = .ok (.astore_n 3, 1) := by decide +kernel
theorem dJ0_init_db425_9 : decode cJ0_init_db425 9 = .ok (.aload_n 1, 1) := by decide +kernel
theorem dJ0_init_db425_10 : decode cJ0_init_db425 10 = .ok (.invokevirtual 549, 3) := by decide +kernel
theorem dJ0_init_db425_13 : decode cJ0_init_db425 13 = .ok (.istore 4, 2) := by decide +kernel
theorem dJ0_init_db425_15 : decode cJ0_init_db425 15 = .ok (.aload_n 1, 1) := by decide +kernel
theorem dJ0_init_db425_16 : decode cJ0_init_db425 16 = .ok (.invokevirtual 1047, 3) := by decide +kernel
theorem dJ0_init_db425_19 : decode cJ0_init_db425 19 = .ok (.ifCond .eq 22, 3) := by decide +kernel
theorem dJ0_init_db425_22 : decode cJ0_init_db425 22 = .ok (.aload_n 0, 1) := by decide +kernel
theorem dJ0_init_db425_23 : decode cJ0_init_db425 23 = .ok (.iconst 0, 1) := by decide +kernel
theorem dJ0_init_db425_24 : decode cJ0_init_db425 24 = .ok (.putfield 15, 3) := by decide +kernel
theorem dJ0_init_db425_27 : decode cJ0_init_db425 27 = .ok (.aload_n 0, 1) := by decide +kernel
theorem dJ0_init_db425_28 : decode cJ0_init_db425 28 = .ok (.aload_n 3, 1) := by decide +kernel
theorem dJ0_init_db425_29 : decode cJ0_init_db425 29 = .ok (.iconst 0, 1) := by decide +kernel
theorem dJ0_init_db425_30 : decode cJ0_init_db425 30 = .ok (.iload 4, 2) := by decide +kernel
theorem dJ0_init_db425_32 : decode cJ0_init_db425 32 = .ok (.invokestatic 54, 3) := by decide +kernel
theorem dJ0_init_db425_35 : decode cJ0_init_db425 35 = .ok (.putfield 9, 3) := by decide +kernel
theorem dJ0_init_db425_38 : decode cJ0_init_db425 38 = .ok (.goto 59, 3) := by decide +kernel
theorem dJ0_init_db425_41 : decode cJ0_init_db425 41 = .ok (.getstatic 38, 3) := by decide +kernel
theorem dJ0_init_db425_44 : decode cJ0_init_db425 44 = .ok (.ifCond .eq 35, 3) := by decide +kernel
theorem dJ0_init_db425_47 : decode cJ0_init_db425 47 = .ok (.aload_n 1, 1) := by decide +kernel
theorem dJ0_init_db425_48 : decode cJ0_init_db425 48 = .ok (.getfield 1048, 3) := by decide +kernel
theorem dJ0_init_db425_51 : decode cJ0_init_db425 51 = .ok (.ifCond .eq 28, 3) := by decide +kernel
theorem dJ0_init_db425_54 : decode cJ0_init_db425 54 = .ok (.aload_n 0, 1) := by decide +kernel
theorem dJ0_init_db425_55 : decode cJ0_init_db425 55 = .ok (.aload_n 3, 1) := by decide +kernel
theorem dJ0_init_db425_56 : decode cJ0_init_db425 56 = .ok (.iconst 0, 1) := by decide +kernel
theorem dJ0_init_db425_57 : decode cJ0_init_db425 57 = .ok (.iload 4, 2) := by decide +kernel
theorem dJ0_init_db425_59 : decode cJ0_init_db425 59 = .ok (.invokestatic 1051, 3) := by decide +kernel
theorem dJ0_init_db425_62 : decode cJ0_init_db425 62 = .ok (.putfield 9, 3) := by decide +kernel
theorem dJ0_init_db425_65 : decode cJ0_init_db425 65 = .ok (.aload_n 0, 1) := by decide +kernel
theorem dJ0_init_db425_66 : decode cJ0_init_db425 66 = .ok (.aload_n 0, 1) := by decide +kernel
theorem dJ0_init_db425_67 : decode cJ0_init_db425 67 = .ok (.getfield 9, 3) := by decide +kernel
theorem dJ0_init_db425_70 : decode cJ0_init_db425 70 = .ok (.iload 4, 2) := by decide +kernel
theorem dJ0_init_db425_72 : decode cJ0_init_db425 72 = .ok (.invokestatic 47, 3) := by decide +kernel
theorem dJ0_init_db425_75 : decode cJ0_init_db425 75 = .ok (.putfield 15, 3) := by decide +kernel
theorem dJ0_init_db425_78 : decode cJ0_init_db425 78 = .ok (.return_, 1) := by decide +kernel
theorem dJ0_init_db425_79 : decode cJ0_init_db425 79 = .ok (.aload_n 0, 1) := by decide +kernel
theorem dJ0_init_db425_80 : decode cJ0_init_db425 80 = .ok (.iconst 1, 1) := by decide +kernel
theorem dJ0_init_db425_81 : decode cJ0_init_db425 81 = .ok (.putfield 15, 3) := by decide +kernel
theorem dJ0_init_db425_84 : decode cJ0_init_db425 84 = .ok (.aload_n 0, 1) := by decide +kernel
theorem dJ0_init_db425_85 : decode cJ0_init_db425 85 = .ok (.aload_n 3, 1) := by decide +kernel
theorem dJ0_init_db425_86 : decode cJ0_init_db425 86 = .ok (.iconst 0, 1) := by decide +kernel
theorem dJ0_init_db425_87 : decode cJ0_init_db425 87 = .ok (.iload 4, 2) := by decide +kernel
theorem dJ0_init_db425_89 : decode cJ0_init_db425 89 = .ok (.iconst 1, 1) := by decide +kernel
theorem dJ0_init_db425_90 : decode cJ0_init_db425 90 = .ok (.ishl, 1) := by decide +kernel
theorem dJ0_init_db425_91 : decode cJ0_init_db425 91 = .ok (.invokestatic 54, 3) := by decide +kernel
theorem dJ0_init_db425_94 : decode cJ0_init_db425 94 = .ok (.putfield 9, 3) := by decide +kernel
theorem dJ0_init_db425_97 : decode cJ0_init_db425 97 = .ok (.return_, 1) := by decide +kernel
theorem dJ0_coder_7d493_0 : decode cJ0_coder_7d493 0 = .ok (.getstatic 38, 3) := by decide +kernel
theorem dJ0_coder_7d493_3 : decode cJ0_coder_7d493 3 = .ok (.ifCond .eq 10, 3) := by decide +kernel
theorem dJ0_coder_7d493_6 : decode cJ0_coder_7d493 6 = .ok (.aload_n 0, 1) := by decide +kernel
theorem dJ0_coder_7d493_7 : decode cJ0_coder_7d493 7 = .ok (.getfield 15, 3) := by decide +kernel
theorem dJ0_coder_7d493_10 : decode cJ0_coder_7d493 10 = .ok (.goto 4, 3) := by decide +kernel
theorem dJ0_coder_7d493_13 : decode cJ0_coder_7d493 13 = .ok (.iconst 1, 1) := by decide +kernel
theorem dJ0_coder_7d493_14 : decode cJ0_coder_7d493 14 = .ok (.ireturn, 1) := by decide +kernel
theorem dJ0_isLatin1_aae02_0 : decode cJ0_isLatin1_aae02 0 = .ok (.getstatic 38, 3) := by decide +kernel
theorem dJ0_isLatin1_aae02_3 : decode cJ0_isLatin1_aae02 3 = .ok (.ifCond .eq 14, 3) := by decide +kernel
theorem dJ0_isLatin1_aae02_6 : decode cJ0_isLatin1_aae02 6 = .ok (.aload_n 0, 1) := by decide +kernel
theorem dJ0_isLatin1_aae02_7 : decode cJ0_isLatin1_aae02 7 = .ok (.getfield 15, 3) := by decide +kernel
theorem dJ0_isLatin1_aae02_10 : decode cJ0_isLatin1_aae02 10 = .ok (.ifCond .ne 7, 3) := by decide +kernel
theorem dJ0_isLatin1_aae02_13 : decode cJ0_isLatin1_aae02 13 = .ok (.iconst 1, 1) := by decide +kernel
theorem dJ0_isLatin1_aae02_14 : decode cJ0_isLatin1_aae02 14 = .ok (.goto 4, 3) := by decide +kernel
theorem dJ0_isLatin1_aae02_17 : decode cJ0_isLatin1_aae02 17 = .ok (.iconst 0, 1) := by decide +kernel
theorem dJ0_isLatin1_aae02_18 : decode cJ0_isLatin1_aae02 18 = .ok (.ireturn, 1) := by decide +kernel
theorem dJ0_checkIndex_df160_0 : decode cJ0_checkIndex_df160 0 = .ok (.iload_n 0, 1) := by decide +kernel
theorem dJ0_checkIndex_df160_1 : decode cJ0_checkIndex_df160 1 = .ok (.iload_n 1, 1) := by decide +kernel
theorem dJ0_checkIndex_df160_2 : decode cJ0_checkIndex_df160 2 = .ok (.getstatic 1053, 3) := by decide +kernel
theorem dJ0_checkIndex_df160_5 : decode cJ0_checkIndex_df160 5 = .ok (.invokestatic 1059, 3) := by decide +kernel
theorem dJ0_checkIndex_df160_8 : decode cJ0_checkIndex_df160 8 = .ok (.pop, 1) := by decide +kernel
theorem dJ0_checkIndex_df160_9 : decode cJ0_checkIndex_df160 9 = .ok (.return_, 1) := by decide +kernel
theorem dJ0_checkBoundsOffCount_cabcc_0 : decode cJ0_checkBoundsOffCount_cabcc 0 = .ok (.iload_n 0, 1) := by decide +kernel
theorem dJ0_checkBoundsOffCount_cabcc_1 : decode cJ0_checkBoundsOffCount_cabcc 1 = .ok (.iload_n 1, 1) := by decide +kernel
theorem dJ0_checkBoundsOffCount_cabcc_2 : decode cJ0_checkBoundsOffCount_cabcc 2 = .ok (.iload_n 2, 1) := by decide +kernel
theorem dJ0_checkBoundsOffCount_cabcc_3 : decode cJ0_checkBoundsOffCount_cabcc 3 = .ok (.getstatic 1053, 3) := by decide +kernel
theorem dJ0_checkBoundsOffCount_cabcc_6 : decode cJ0_checkBoundsOffCount_cabcc 6 = .ok (.invokestatic 1065, 3) := by decide +kernel
theorem dJ0_checkBoundsOffCount_cabcc_9 : decode cJ0_checkBoundsOffCount_cabcc 9 = .ok (.ireturn, 1) := by decide +kernel
theorem dJ0_checkBoundsBeginEnd_23922_0 : decode cJ0_checkBoundsBeginEnd_23922 0 = .ok (.iload_n 0, 1) := by decide +kernel
theorem dJ0_checkBoundsBeginEnd_23922_1 : decode cJ0_checkBoundsBeginEnd_23922 1 = .ok (.iload_n 1, 1) := by decide +kernel
theorem dJ0_checkBoundsBeginEnd_23922_2 : decode cJ0_checkBoundsBeginEnd_23922 2 = .ok (.iload_n 2, 1) := by decide +kernel
theorem dJ0_checkBoundsBeginEnd_23922_3 : decode cJ0_checkBoundsBeginEnd_23922 3 = .ok (.getstatic 1053, 3) := by decide +kernel
theorem dJ0_checkBoundsBeginEnd_23922_6 : decode cJ0_checkBoundsBeginEnd_23922 6 = .ok (.invokestatic 1062, 3) := by decide +kernel
theorem dJ0_checkBoundsBeginEnd_23922_9 : decode cJ0_checkBoundsBeginEnd_23922 9 = .ok (.pop, 1) := by decide +kernel
theorem dJ0_checkBoundsBeginEnd_23922_10 : decode cJ0_checkBoundsBeginEnd_23922 10 = .ok (.return_, 1) := by decide +kernel
theorem dJ4_init_da8c8_0 : decode cJ4_init_da8c8 0 = .ok (.aload_n 0, 1) := by decide +kernel
theorem dJ4_init_da8c8_1 : decode cJ4_init_da8c8 1 = .ok (.bipush 16, 2) := by decide +kernel
theorem dJ4_init_da8c8_3 : decode cJ4_init_da8c8 3 = .ok (.invokespecial 1, 3) := by decide +kernel
theorem dJ4_init_da8c8_6 : decode cJ4_init_da8c8 6 = .ok (.return_, 1) := by decide +kernel
theorem dJ4_append_15ec4_0 : decode cJ4_append_15ec4 0 = .ok (.aload_n 0, 1) := by decide +kernel
theorem dJ4_append_15ec4_1 : decode cJ4_append_15ec4 1 = .ok (.aload_n 1, 1) := by decide +kernel
theorem dJ4_append_15ec4_2 : decode cJ4_append_15ec4 2 = .ok (.invokespecial 29, 3) := by decide +kernel
theorem dJ4_append_15ec4_5 : decode cJ4_append_15ec4 5 = .ok (.pop, 1) := by decide +kernel
theorem dJ4_append_15ec4_6 : decode cJ4_append_15ec4 6 = .ok (.aload_n 0, 1) := by decide +kernel
theorem dJ4_append_15ec4_7 : decode cJ4_append_15ec4 7 = .ok (.areturn, 1) := by decide +kernel
theorem dJ4_append_bf812_0 : decode cJ4_append_bf812 0 = .ok (.aload_n 0, 1) := by decide +kernel
theorem dJ4_append_bf812_1 : decode cJ4_append_bf812 1 = .ok (.iload_n 1, 1) := by decide +kernel
theorem dJ4_append_bf812_2 : decode cJ4_append_bf812 2 = .ok (.invokespecial 53, 3) := by decide +kernel
theorem dJ4_append_bf812_5 : decode cJ4_append_bf812 5 = .ok (.pop, 1) := by decide +kernel
theorem dJ4_append_bf812_6 : decode cJ4_append_bf812 6 = .ok (.aload_n 0, 1) := by decide +kernel
theorem dJ4_append_bf812_7 : decode cJ4_append_bf812 7 = .ok (.areturn, 1) := by decide +kernel
theorem dJ4_toString_0e30d_0 : decode cJ4_toString_0e30d 0 = .ok (.new 18, 3) := by decide +kernel
theorem dJ4_toString_0e30d_3 : decode cJ4_toString_0e30d 3 = .ok (.dup, 1) := by decide +kernel
theorem dJ4_toString_0e30d_4 : decode cJ4_toString_0e30d 4 = .ok (.aload_n 0, 1) := by decide +kernel
theorem dJ4_toString_0e30d_5 : decode cJ4_toString_0e30d 5 = .ok (.invokespecial 137, 3) := by decide +kernel
theorem dJ4_toString_0e30d_8 : decode cJ4_toString_0e30d 8 = .ok (.areturn, 1) := by decide +kernel
theorem dJ4_length_8abf5_0 : decode cJ4_length_8abf5 0 = .ok (.aload_n 0, 1) := by decide +kernel
theorem dJ4_length_8abf5_1 : decode cJ4_length_8abf5 1 = .ok (.invokespecial 343, 3) := by decide +kernel
theorem dJ4_length_8abf5_4 : decode cJ4_length_8abf5 4 = .ok (.ireturn, 1) := by decide +kernel
theorem dJ1_charAt_3b067_0 : decode cJ1_charAt_3b067 0 = .ok (.iload_n 1, 1) := by decide +kernel
theorem dJ1_charAt_3b067_1 : decode cJ1_charAt_3b067 1 = .ok (.aload_n 0, 1) := by decide +kernel
theorem dJ1_charAt_3b067_2 : decode cJ1_charAt_3b067 2 = .ok (.arraylength, 1) := by decide +kernel
theorem dJ1_charAt_3b067_3 : decode cJ1_charAt_3b067 3 = .ok (.invokestatic 9, 3) := by decide +kernel
theorem dJ1_charAt_3b067_6 : decode cJ1_charAt_3b067 6 = .ok (.aload_n 0, 1) := by decide +kernel
theorem dJ1_charAt_3b067_7 : decode cJ1_charAt_3b067 7 = .ok (.iload_n 1, 1) := by decide +kernel
theorem dJ1_charAt_3b067_8 : decode cJ1_charAt_3b067 8 = .ok (.baload, 1) := by decide +kernel
theorem dJ1_charAt_3b067_9 : decode cJ1_charAt_3b067 9 = .ok (.sipush 255, 3) := by decide +kernel
theorem dJ1_charAt_3b067_12 : decode cJ1_charAt_3b067 12 = .ok (.iand, 1) := by decide +kernel
theorem dJ1_charAt_3b067_13 : decode cJ1_charAt_3b067 13 = .ok (.i2c, 1) := by decide +kernel
theorem dJ1_charAt_3b067_14 : decode cJ1_charAt_3b067 14 = .ok (.ireturn, 1) := by decide +kernel
theorem dJ1_inflate_0e8fd_0 : decode cJ1_inflate_0e8fd 0 = .ok (.aload_n 0, 1) := by decide +kernel
theorem dJ1_inflate_0e8fd_1 : decode cJ1_inflate_0e8fd 1 = .ok (.iload_n 1, 1) := by decide +kernel
theorem dJ1_inflate_0e8fd_2 : decode cJ1_inflate_0e8fd 2 = .ok (.aload_n 2, 1) := by decide +kernel
theorem dJ1_inflate_0e8fd_3 : decode cJ1_inflate_0e8fd 3 = .ok (.iload_n 3, 1) := by decide +kernel
theorem dJ1_inflate_0e8fd_4 : decode cJ1_inflate_0e8fd 4 = .ok (.iload 4, 2) := by decide +kernel
theorem dJ1_inflate_0e8fd_6 : decode cJ1_inflate_0e8fd 6 = .ok (.invokestatic 240, 3) := by decide +kernel
theorem dJ1_inflate_0e8fd_9 : decode cJ1_inflate_0e8fd 9 = .ok (.return_, 1) := by decide +kernel
theorem dJ7_copyOf_9075b_0 : decode cJ7_copyOf_9075b 0 = .ok (.iload_n 1, 1) := by decide +kernel
theorem dJ7_copyOf_9075b_1 : decode cJ7_copyOf_9075b 1 = .ok (.aload_n 0, 1) := by decide +kernel
theorem dJ7_copyOf_9075b_2 : decode cJ7_copyOf_9075b 2 = .ok (.arraylength, 1) := by decide +kernel
theorem dJ7_copyOf_9075b_3 : decode cJ7_copyOf_9075b 3 = .ok (.if_icmp .ne 11, 3) := by decide +kernel
theorem dJ7_copyOf_9075b_6 : decode cJ7_copyOf_9075b 6 = .ok (.aload_n 0, 1) := by decide +kernel
theorem dJ7_copyOf_9075b_7 : decode cJ7_copyOf_9075b 7 = .ok (.invokevirtual 310, 3) := by decide +kernel
theorem dJ7_copyOf_9075b_10 : decode cJ7_copyOf_9075b 10 = .ok (.checkcast 311, 3) := by decide +kernel
theorem dJ7_copyOf_9075b_13 : decode cJ7_copyOf_9075b 13 = .ok (.areturn, 1) := by decide +kernel
theorem dJ7_copyOf_9075b_14 : decode cJ7_copyOf_9075b 14 = .ok (.iload_n 1, 1) := by decide +kernel
theorem dJ7_copyOf_9075b_15 : decode cJ7_copyOf_9075b 15 = .ok (.newarray .byte, 2) := by decide +kernel
theorem dJ7_copyOf_9075b_17 : decode cJ7_copyOf_9075b 17 = .ok (.astore_n 2, 1) := by decide +kernel
theorem dJ7_copyOf_9075b_18 : decode cJ7_copyOf_9075b 18 = .ok (.aload_n 0, 1) := by decide +kernel
theorem dJ7_copyOf_9075b_19 : decode cJ7_copyOf_9075b 19 = .ok (.iconst 0, 1) := by decide +kernel
theorem dJ7_copyOf_9075b_20 : decode cJ7_copyOf_9075b 20 = .ok (.aload_n 2, 1) := by decide +kernel
theorem dJ7_copyOf_9075b_21 : decode cJ7_copyOf_9075b 21 = .ok (.iconst 0, 1) := by decide +kernel
theorem dJ7_copyOf_9075b_22 : decode cJ7_copyOf_9075b 22 = .ok (.aload_n 0, 1) := by decide +kernel
theorem dJ7_copyOf_9075b_23 : decode cJ7_copyOf_9075b 23 = .ok (.arraylength, 1) := by decide +kernel
theorem dJ7_copyOf_9075b_24 : decode cJ7_copyOf_9075b 24 = .ok (.iload_n 1, 1) := by decide +kernel
theorem dJ7_copyOf_9075b_25 : decode cJ7_copyOf_9075b 25 = .ok (.invokestatic 304, 3) := by decide +kernel
theorem dJ7_copyOf_9075b_28 : decode cJ7_copyOf_9075b 28 = .ok (.invokestatic 150, 3) := by decide +kernel
theorem dJ7_copyOf_9075b_31 : decode cJ7_copyOf_9075b 31 = .ok (.aload_n 2, 1) := by decide +kernel
theorem dJ7_copyOf_9075b_32 : decode cJ7_copyOf_9075b 32 = .ok (.areturn, 1) := by decide +kernel
theorem dJ7_checkLength_df160_0 : decode cJ7_checkLength_df160 0 = .ok (.iload_n 1, 1) := by decide +kernel
theorem dJ7_checkLength_df160_1 : decode cJ7_checkLength_df160 1 = .ok (.iload_n 0, 1) := by decide +kernel
theorem dJ7_checkLength_df160_2 : decode cJ7_checkLength_df160 2 = .ok (.if_icmp .ge 35, 3) := by decide +kernel
theorem dJ7_checkLength_df160_5 : decode cJ7_checkLength_df160 5 = .ok (.new 43, 3) := by decide +kernel
theorem dJ7_checkLength_df160_8 : decode cJ7_checkLength_df160 8 = .ok (.dup, 1) := by decide +kernel
theorem dJ7_checkLength_df160_9 : decode cJ7_checkLength_df160 9 = .ok (.new 45, 3) := by decide +kernel
theorem dJ7_checkLength_df160_12 : decode cJ7_checkLength_df160 12 = .ok (.dup, 1) := by decide +kernel
theorem dJ7_checkLength_df160_13 : decode cJ7_checkLength_df160 13 = .ok (.invokespecial 47, 3) := by decide +kernel
theorem dJ7_checkLength_df160_16 : decode cJ7_checkLength_df160 16 = .ok (.iload_n 0, 1) := by decide +kernel
theorem dJ7_checkLength_df160_17 : decode cJ7_checkLength_df160 17 = .ok (.invokevirtual 54, 3) := by decide +kernel
theorem dJ7_checkLength_df160_20 : decode cJ7_checkLength_df160 20 = .ok (.ldc_w 337, 3) := by decide +kernel
theorem dJ7_checkLength_df160_23 : decode cJ7_checkLength_df160 23 = .ok (.invokevirtual 50, 3) := by decide +kernel
theorem dJ7_checkLength_df160_26 : decode cJ7_checkLength_df160 26 = .ok (.iload_n 1, 1) := by decide +kernel
theorem dJ7_checkLength_df160_27 : decode cJ7_checkLength_df160 27 = .ok (.invokevirtual 54, 3) := by decide +kernel
theorem dJ7_checkLength_df160_30 : decode cJ7_checkLength_df160 30 = .ok (.invokevirtual 61, 3) := by decide +kernel
theorem dJ7_checkLength_df160_33 : decode cJ7_checkLength_df160 33 = .ok (.invokespecial 65, 3) := by decide +kernel
theorem dJ7_checkLength_df160_36 : decode cJ7_checkLength_df160 36 = .ok (.athrow, 1) := by decide +kernel
theorem dJ7_checkLength_df160_37 : decode cJ7_checkLength_df160 37 = .ok (.return_, 1) := by decide +kernel
theorem dJ7_copyOfRange_39247_0 : decode cJ7_copyOfRange_39247 0 = .ok (.iload_n 1, 1) := by decide +kernel
theorem dJ7_copyOfRange_39247_1 : decode cJ7_copyOfRange_39247 1 = .ok (.ifCond .ne 9, 3) := by decide +kernel
theorem dJ7_copyOfRange_39247_4 : decode cJ7_copyOfRange_39247 4 = .ok (.iload_n 2, 1) := by decide +kernel
theorem dJ7_copyOfRange_39247_5 : decode cJ7_copyOfRange_39247 5 = .ok (.aload_n 0, 1) := by decide +kernel
theorem dJ7_copyOfRange_39247_6 : decode cJ7_copyOfRange_39247 6 = .ok (.arraylength, 1) := by decide +kernel
theorem dJ7_copyOfRange_39247_7 : decode cJ7_copyOfRange_39247 7 = .ok (.if_icmp .eq 10, 3) := by decide +kernel
theorem dJ7_copyOfRange_39247_10 : decode cJ7_copyOfRange_39247 10 = .ok (.aload_n 0, 1) := by decide +kernel
theorem dJ7_copyOfRange_39247_11 : decode cJ7_copyOfRange_39247 11 = .ok (.iload_n 1, 1) := by decide +kernel
theorem dJ7_copyOfRange_39247_12 : decode cJ7_copyOfRange_39247 12 = .ok (.iload_n 2, 1) := by decide +kernel
theorem dJ7_copyOfRange_39247_13 : decode cJ7_copyOfRange_39247 13 = .ok (.invokestatic 339, 3) := by decide +kernel
theorem dJ7_copyOfRange_39247_16 : decode cJ7_copyOfRange_39247 16 = .ok (.areturn, 1) := by decide +kernel
theorem dJ7_copyOfRange_39247_17 : decode cJ7_copyOfRange_39247 17 = .ok (.aload_n 0, 1) := by decide +kernel
theorem dJ7_copyOfRange_39247_18 : decode cJ7_copyOfRange_39247 18 = .ok (.invokevirtual 310, 3) := by decide +kernel
theorem dJ7_copyOfRange_39247_21 : decode cJ7_copyOfRange_39247 21 = .ok (.checkcast 311, 3) := by decide +kernel
theorem dJ7_copyOfRange_39247_24 : decode cJ7_copyOfRange_39247 24 = .ok (.areturn, 1) := by decide +kernel
theorem dJ7_copyOfRangeByte_39247_0 : decode cJ7_copyOfRangeByte_39247 0 = .ok (.iload_n 1, 1) := by decide +kernel
theorem dJ7_copyOfRangeByte_39247_1 : decode cJ7_copyOfRangeByte_39247 1 = .ok (.iload_n 2, 1) := by decide +kernel
theorem dJ7_copyOfRangeByte_39247_2 : decode cJ7_copyOfRangeByte_39247 2 = .ok (.invokestatic 343, 3) := by decide +kernel
theorem dJ7_copyOfRangeByte_39247_5 : decode cJ7_copyOfRangeByte_39247 5 = .ok (.iload_n 2, 1) := by decide +kernel
theorem dJ7_copyOfRangeByte_39247_6 : decode cJ7_copyOfRangeByte_39247 6 = .ok (.iload_n 1, 1) := by decide +kernel
theorem dJ7_copyOfRangeByte_39247_7 : decode cJ7_copyOfRangeByte_39247 7 = .ok (.isub, 1) := by decide +kernel
theorem dJ7_copyOfRangeByte_39247_8 : decode cJ7_copyOfRangeByte_39247 8 = .ok (.istore_n 3, 1) := by decide +kernel
theorem dJ7_copyOfRangeByte_39247_9 : decode cJ7_copyOfRangeByte_39247 9 = .ok (.iload_n 3, 1) := by decide +kernel
theorem dJ7_copyOfRangeByte_39247_10 : decode cJ7_copyOfRangeByte_39247 10 = .ok (.newarray .byte, 2) := by decide +kernel
theorem dJ7_copyOfRangeByte_39247_12 : decode cJ7_copyOfRangeByte_39247 12 = .ok (.astore 4, 2) := by decide +kernel
theorem dJ7_copyOfRangeByte_39247_14 : decode cJ7_copyOfRangeByte_39247 14 = .ok (.aload_n 0, 1) := by decide +kernel
theorem dJ7_copyOfRangeByte_39247_15 : decode cJ7_copyOfRangeByte_39247 15 = .ok (.iload_n 1, 1) := by decide +kernel
theorem dJ7_copyOfRangeByte_39247_16 : decode cJ7_copyOfRangeByte_39247 16 = .ok (.aload 4, 2) := by decide +kernel
theorem dJ7_copyOfRangeByte_39247_18 : decode cJ7_copyOfRangeByte_39247 18 = .ok (.iconst 0, 1) := by decide +kernel
theorem dJ7_copyOfRangeByte_39247_19 : decode cJ7_copyOfRangeByte_39247 19 = .ok (.aload_n 0, 1) := by decide +kernel
theorem dJ7_copyOfRangeByte_39247_20 : decode cJ7_copyOfRangeByte_39247 20 = .ok (.arraylength, 1) := by decide +kernel
theorem dJ7_copyOfRangeByte_39247_21 : decode cJ7_copyOfRangeByte_39247 21 = .ok (.iload_n 1, 1) := by decide +kernel
theorem dJ7_copyOfRangeByte_39247_22 : decode cJ7_copyOfRangeByte_39247 22 = .ok (.isub, 1) := by decide +kernel
theorem dJ7_copyOfRangeByte_39247_23 : decode cJ7_copyOfRangeByte_39247 23 = .ok (.iload_n 3, 1) := by decide +kernel
theorem dJ7_copyOfRangeByte_39247_24 : decode cJ7_copyOfRangeByte_39247 24 = .ok (.invokestatic 304, 3) := by decide +kernel
theorem dJ7_copyOfRangeByte_39247_27 : decode cJ7_copyOfRangeByte_39247 27 = .ok (.invokestatic 150, 3) := by decide +kernel
theorem dJ7_copyOfRangeByte_39247_30 : decode cJ7_copyOfRangeByte_39247 30 = .ok (.aload 4, 2) := by decide +kernel
theorem dJ7_copyOfRangeByte_39247_32 : decode cJ7_copyOfRangeByte_39247 32 = .ok (.areturn, 1) := by decide +kernel
theorem dJ8_newLength_cabcc_0 : decode cJ8_newLength_cabcc 0 = .ok (.iload_n 0, 1) := by decide +kernel
theorem dJ8_newLength_cabcc_1 : decode cJ8_newLength_cabcc 1 = .ok (.iload_n 1, 1) := by decide +kernel
theorem dJ8_newLength_cabcc_2 : decode cJ8_newLength_cabcc 2 = .ok (.iload_n 2, 1) := by decide +kernel
theorem dJ8_newLength_cabcc_3 : decode cJ8_newLength_cabcc 3 = .ok (.invokestatic 194, 3) := by decide +kernel
theorem dJ8_newLength_cabcc_6 : decode cJ8_newLength_cabcc 6 = .ok (.iadd, 1) := by decide +kernel
theorem dJ8_newLength_cabcc_7 : decode cJ8_newLength_cabcc 7 = .ok (.istore_n 3, 1) := by decide +kernel
theorem dJ8_newLength_cabcc_8 : decode cJ8_newLength_cabcc 8 = .ok (.iconst 0, 1) := by decide +kernel
theorem dJ8_newLength_cabcc_9 : decode cJ8_newLength_cabcc 9 = .ok (.iload_n 3, 1) := by decide +kernel
theorem dJ8_newLength_cabcc_10 : decode cJ8_newLength_cabcc 10 = .ok (.if_icmp .ge 11, 3) := by decide +kernel
theorem dJ8_newLength_cabcc_13 : decode cJ8_newLength_cabcc 13 = .ok (.iload_n 3, 1) := by decide +kernel
theorem dJ8_newLength_cabcc_14 : decode cJ8_newLength_cabcc 14 = .ok (.ldc 200, 2) := by decide +kernel
theorem dJ8_newLength_cabcc_16 : decode cJ8_newLength_cabcc 16 = .ok (.if_icmp .gt 5, 3) := by decide +kernel
theorem dJ8_newLength_cabcc_19 : decode cJ8_newLength_cabcc 19 = .ok (.iload_n 3, 1) := by decide +kernel
theorem dJ8_newLength_cabcc_20 : decode cJ8_newLength_cabcc 20 = .ok (.ireturn, 1) := by decide +kernel
theorem dJ8_newLength_cabcc_21 : decode cJ8_newLength_cabcc 21 = .ok (.iload_n 0, 1) := by decide +kernel
theorem dJ8_newLength_cabcc_22 : decode cJ8_newLength_cabcc 22 = .ok (.iload_n 1, 1) := by decide +kernel
theorem dJ8_newLength_cabcc_23 : decode cJ8_newLength_cabcc 23 = .ok (.invokestatic 201, 3) := by decide +kernel
theorem dJ8_newLength_cabcc_26 : decode cJ8_newLength_cabcc 26 = .ok (.ireturn, 1) := by decide +kernel
theorem dJ8_hugeLength_7cf53_0 : decode cJ8_hugeLength_7cf53 0 = .ok (.iload_n 0, 1) := by decide +kernel
theorem dJ8_hugeLength_7cf53_1 : decode cJ8_hugeLength_7cf53 1 = .ok (.iload_n 1, 1) := by decide +kernel
theorem dJ8_hugeLength_7cf53_2 : decode cJ8_hugeLength_7cf53 2 = .ok (.iadd, 1) := by decide +kernel
theorem dJ8_hugeLength_7cf53_3 : decode cJ8_hugeLength_7cf53 3 = .ok (.istore_n 2, 1) := by decide +kernel
theorem dJ8_hugeLength_7cf53_4 : decode cJ8_hugeLength_7cf53 4 = .ok (.iload_n 2, 1) := by decide +kernel
theorem dJ8_hugeLength_7cf53_5 : decode cJ8_hugeLength_7cf53 5 = .ok (.ifCond .ge 44, 3) := by decide +kernel
theorem dJ8_hugeLength_7cf53_8 : decode cJ8_hugeLength_7cf53 8 = .ok (.new 204, 3) := by decide +kernel
theorem dJ8_hugeLength_7cf53_11 : decode cJ8_hugeLength_7cf53 11 = .ok (.dup, 1) := by decide +kernel
theorem dJ8_hugeLength_7cf53_12 : decode cJ8_hugeLength_7cf53 12 = .ok (.new 89, 3) := by decide +kernel
theorem dJ8_hugeLength_7cf53_15 : decode cJ8_hugeLength_7cf53 15 = .ok (.dup, 1) := by decide +kernel
theorem dJ8_hugeLength_7cf53_16 : decode cJ8_hugeLength_7cf53 16 = .ok (.invokespecial 91, 3) := by decide +kernel
theorem dJ8_hugeLength_7cf53_19 : decode cJ8_hugeLength_7cf53 19 = .ok (.ldc 206, 2) := by decide +kernel
theorem dJ8_hugeLength_7cf53_21 : decode cJ8_hugeLength_7cf53 21 = .ok (.invokevirtual 94, 3) := by decide +kernel
theorem dJ8_hugeLength_7cf53_24 : decode cJ8_hugeLength_7cf53 24 = .ok (.iload_n 0, 1) := by decide +kernel
theorem dJ8_hugeLength_7cf53_25 : decode cJ8_hugeLength_7cf53 25 = .ok (.invokevirtual 98, 3) := by decide +kernel
theorem dJ8_hugeLength_7cf53_28 : decode cJ8_hugeLength_7cf53 28 = .ok (.ldc 208, 2) := by decide +kernel
theorem dJ8_hugeLength_7cf53_30 : decode cJ8_hugeLength_7cf53 30 = .ok (.invokevirtual 94, 3) := by decide +kernel
theorem dJ8_hugeLength_7cf53_33 : decode cJ8_hugeLength_7cf53 33 = .ok (.iload_n 1, 1) := by decide +kernel
theorem dJ8_hugeLength_7cf53_34 : decode cJ8_hugeLength_7cf53 34 = .ok (.invokevirtual 98, 3) := by decide +kernel
theorem dJ8_hugeLength_7cf53_37 : decode cJ8_hugeLength_7cf53 37 = .ok (.ldc 210, 2) := by decide +kernel
theorem dJ8_hugeLength_7cf53_39 : decode cJ8_hugeLength_7cf53 39 = .ok (.invokevirtual 94, 3) := by decide +kernel
theorem dJ8_hugeLength_7cf53_42 : decode cJ8_hugeLength_7cf53 42 = .ok (.invokevirtual 101, 3) := by decide +kernel
theorem dJ8_hugeLength_7cf53_45 : decode cJ8_hugeLength_7cf53 45 = .ok (.invokespecial 212, 3) := by decide +kernel
theorem dJ8_hugeLength_7cf53_48 : decode cJ8_hugeLength_7cf53 48 = .ok (.athrow, 1) := by decide +kernel
theorem dJ8_hugeLength_7cf53_49 : decode cJ8_hugeLength_7cf53 49 = .ok (.iload_n 2, 1) := by decide +kernel
theorem dJ8_hugeLength_7cf53_50 : decode cJ8_hugeLength_7cf53 50 = .ok (.ldc 200, 2) := by decide +kernel
theorem dJ8_hugeLength_7cf53_52 : decode cJ8_hugeLength_7cf53 52 = .ok (.if_icmp .gt 6, 3) := by decide +kernel
theorem dJ8_hugeLength_7cf53_55 : decode cJ8_hugeLength_7cf53 55 = .ok (.ldc 200, 2) := by decide +kernel
theorem dJ8_hugeLength_7cf53_57 : decode cJ8_hugeLength_7cf53 57 = .ok (.ireturn, 1) := by decide +kernel
theorem dJ8_hugeLength_7cf53_58 : decode cJ8_hugeLength_7cf53 58 = .ok (.iload_n 2, 1) := by decide +kernel
theorem dJ8_hugeLength_7cf53_59 : decode cJ8_hugeLength_7cf53 59 = .ok (.ireturn, 1) := by decide +kernel
theorem dJ3_checkIndex_8e157_0 : decode cJ3_checkIndex_8e157 0 = .ok (.iload_n 0, 1) := by decide +kernel
theorem dJ3_checkIndex_8e157_1 : decode cJ3_checkIndex_8e157 1 = .ok (.ifCond .lt 8, 3) := by decide +kernel
theorem dJ3_checkIndex_8e157_4 : decode cJ3_checkIndex_8e157 4 = .ok (.iload_n 0, 1) := by decide +kernel
theorem dJ3_checkIndex_8e157_5 : decode cJ3_checkIndex_8e157 5 = .ok (.iload_n 1, 1) := by decide +kernel
theorem dJ3_checkIndex_8e157_6 : decode cJ3_checkIndex_8e157 6 = .ok (.if_icmp .lt 10, 3) := by decide +kernel
theorem dJ3_checkIndex_8e157_9 : decode cJ3_checkIndex_8e157 9 = .ok (.aload_n 2, 1) := by decide +kernel
theorem dJ3_checkIndex_8e157_10 : decode cJ3_checkIndex_8e157 10 = .ok (.iload_n 0, 1) := by decide +kernel
theorem dJ3_checkIndex_8e157_11 : decode cJ3_checkIndex_8e157 11 = .ok (.iload_n 1, 1) := by decide +kernel
theorem dJ3_checkIndex_8e157_12 : decode cJ3_checkIndex_8e157 12 = .ok (.invokestatic 95, 3) := by decide +kernel
theorem dJ3_checkIndex_8e157_15 : decode cJ3_checkIndex_8e157 15 = .ok (.athrow, 1) := by decide +kernel
theorem dJ3_checkIndex_8e157_16 : decode cJ3_checkIndex_8e157 16 = .ok (.iload_n 0, 1) := by decide +kernel
theorem dJ3_checkIndex_8e157_17 : decode cJ3_checkIndex_8e157 17 = .ok (.ireturn, 1) := by decide +kernel
theorem dJ3_checkFromToIndex_8c36e_0 : decode cJ3_checkFromToIndex_8c36e 0 = .ok (.iload_n 0, 1) := by decide +kernel
theorem dJ3_checkFromToIndex_8c36e_1 : decode cJ3_checkFromToIndex_8c36e 1 = .ok (.ifCond .lt 13, 3) := by decide +kernel
theorem dJ3_checkFromToIndex_8c36e_4 : decode cJ3_checkFromToIndex_8c36e 4 = .ok (.iload_n 0, 1) := by decide +kernel
theorem dJ3_checkFromToIndex_8c36e_5 : decode cJ3_checkFromToIndex_8c36e 5 = .ok (.iload_n 1, 1) := by decide +kernel
theorem dJ3_checkFromToIndex_8c36e_6 : decode cJ3_checkFromToIndex_8c36e 6 = .ok (.if_icmp .gt 8, 3) := by decide +kernel
theorem dJ3_checkFromToIndex_8c36e_9 : decode cJ3_checkFromToIndex_8c36e 9 = .ok (.iload_n 1, 1) := by decide +kernel
theorem dJ3_checkFromToIndex_8c36e_10 : decode cJ3_checkFromToIndex_8c36e 10 = .ok (.iload_n 2, 1) := by decide +kernel
theorem dJ3_checkFromToIndex_8c36e_11 : decode cJ3_checkFromToIndex_8c36e 11 = .ok (.if_icmp .le 11, 3) := by decide +kernel
theorem dJ3_checkFromToIndex_8c36e_14 : decode cJ3_checkFromToIndex_8c36e 14 = .ok (.aload_n 3, 1) := by decide +kernel
theorem dJ3_checkFromToIndex_8c36e_15 : decode cJ3_checkFromToIndex_8c36e 15 = .ok (.iload_n 0, 1) := by decide +kernel
theorem dJ3_checkFromToIndex_8c36e_16 : decode cJ3_checkFromToIndex_8c36e 16 = .ok (.iload_n 1, 1) := by decide +kernel
theorem dJ3_checkFromToIndex_8c36e_17 : decode cJ3_checkFromToIndex_8c36e 17 = .ok (.iload_n 2, 1) := by decide +kernel
theorem dJ3_checkFromToIndex_8c36e_18 : decode cJ3_checkFromToIndex_8c36e 18 = .ok (.invokestatic 99, 3) := by decide +kernel
theorem dJ3_checkFromToIndex_8c36e_21 : decode cJ3_checkFromToIndex_8c36e 21 = .ok (.athrow, 1) := by decide +kernel
theorem dJ3_checkFromToIndex_8c36e_22 : decode cJ3_checkFromToIndex_8c36e 22 = .ok (.iload_n 0, 1) := by decide +kernel
theorem dJ3_checkFromToIndex_8c36e_23 : decode cJ3_checkFromToIndex_8c36e 23 = .ok (.ireturn, 1) := by decide +kernel
theorem dJ3_checkFromIndexSize_8c36e_0 : decode cJ3_checkFromIndexSize_8c36e 0 = .ok (.iload_n 2, 1) := by decide +kernel
theorem dJ3_checkFromIndexSize_8c36e_1 : decode cJ3_checkFromIndexSize_8c36e 1 = .ok (.iload_n 0, 1) := by decide +kernel
theorem dJ3_checkFromIndexSize_8c36e_2 : decode cJ3_checkFromIndexSize_8c36e 2 = .ok (.ior, 1) := by decide +kernel
theorem dJ3_checkFromIndexSize_8c36e_3 : decode cJ3_checkFromIndexSize_8c36e 3 = .ok (.iload_n 1, 1) := by decide +kernel
theorem dJ3_checkFromIndexSize_8c36e_4 : decode cJ3_checkFromIndexSize_8c36e 4 = .ok (.ior, 1) := by decide +kernel
theorem dJ3_checkFromIndexSize_8c36e_5 : decode cJ3_checkFromIndexSize_8c36e 5 = .ok (.ifCond .lt 10, 3) := by decide +kernel
theorem dJ3_checkFromIndexSize_8c36e_8 : decode cJ3_checkFromIndexSize_8c36e 8 = .ok (.iload_n 1, 1) := by decide +kernel
theorem dJ3_checkFromIndexSize_8c36e_9 : decode cJ3_checkFromIndexSize_8c36e 9 = .ok (.iload_n 2, 1) := by decide +kernel
theorem dJ3_checkFromIndexSize_8c36e_10 : decode cJ3_checkFromIndexSize_8c36e 10 = .ok (.iload_n 0, 1) := by decide +kernel
theorem dJ3_checkFromIndexSize_8c36e_11 : decode cJ3_checkFromIndexSize_8c36e 11 = .ok (.isub, 1) := by decide +kernel
theorem dJ3_checkFromIndexSize_8c36e_12 : decode cJ3_checkFromIndexSize_8c36e 12 = .ok (.if_icmp .le 11, 3) := by decide +kernel
theorem dJ3_checkFromIndexSize_8c36e_15 : decode cJ3_checkFromIndexSize_8c36e 15 = .ok (.aload_n 3, 1) := by decide +kernel
theorem dJ3_checkFromIndexSize_8c36e_16 : decode cJ3_checkFromIndexSize_8c36e 16 = .ok (.iload_n 0, 1) := by decide +kernel
theorem dJ3_checkFromIndexSize_8c36e_17 : decode cJ3_checkFromIndexSize_8c36e 17 = .ok (.iload_n 1, 1) := by decide +kernel
theorem dJ3_checkFromIndexSize_8c36e_18 : decode cJ3_checkFromIndexSize_8c36e 18 = .ok (.iload_n 2, 1) := by decide +kernel
theorem dJ3_checkFromIndexSize_8c36e_19 : decode cJ3_checkFromIndexSize_8c36e 19 = .ok (.invokestatic 103, 3) := by decide +kernel
theorem dJ3_checkFromIndexSize_8c36e_22 : decode cJ3_checkFromIndexSize_8c36e 22 = .ok (.athrow, 1) := by decide +kernel
theorem dJ3_checkFromIndexSize_8c36e_23 : decode cJ3_checkFromIndexSize_8c36e 23 = .ok (.iload_n 0, 1) := by decide +kernel
theorem dJ3_checkFromIndexSize_8c36e_24 : decode cJ3_checkFromIndexSize_8c36e 24 = .ok (.ireturn, 1) := by decide +kernel
theorem dL_put_0 : decode cL_put 0 = .ok (.aload_n 1, 1) := by decide +kernel
theorem dL_put_1 : decode cL_put 1 = .ok (.iconst 1, 1) := by decide +kernel
theorem dL_put_2 : decode cL_put 2 = .ok (.aload_n 1, 1) := by decide +kernel
theorem dL_put_3 : decode cL_put 3 = .ok (.iconst 0, 1) := by decide +kernel
theorem dL_put_4 : decode cL_put 4 = .ok (.iaload, 1) := by decide +kernel
theorem dL_put_5 : decode cL_put 5 = .ok (.bipush 20, 2) := by decide +kernel
theorem dL_put_7 : decode cL_put 7 = .ok (.irem, 1) := by decide +kernel
theorem dL_put_8 : decode cL_put 8 = .ok (.iconst 4, 1) := by decide +kernel
theorem dL_put_9 : decode cL_put 9 = .ok (.idiv, 1) := by decide +kernel
theorem dL_put_10 : decode cL_put 10 = .ok (.iadd, 1) := by decide +kernel
theorem dL_put_11 : decode cL_put 11 = .ok (.dup2, 1) := by decide +kernel
theorem dL_put_12 : decode cL_put 12 = .ok (.iaload, 1) := by decide +kernel
theorem dL_put_13 : decode cL_put 13 = .ok (.iload_n 2, 1) := by decide +kernel
theorem dL_put_14 : decode cL_put 14 = .ok (.bipush 24, 2) := by decide +kernel
theorem dL_put_16 : decode cL_put 16 = .ok (.bipush 8, 2) := by decide +kernel
theorem dL_put_18 : decode cL_put 18 = .ok (.aload_n 1, 1) := by decide +kernel
theorem dL_put_19 : decode cL_put 19 = .ok (.iconst 0, 1) := by decide +kernel
theorem dL_put_20 : decode cL_put 20 = .ok (.iaload, 1) := by decide +kernel
theorem dL_put_21 : decode cL_put 21 = .ok (.iconst 4, 1) := by decide +kernel
theorem dL_put_22 : decode cL_put 22 = .ok (.irem, 1) := by decide +kernel
theorem dL_put_23 : decode cL_put 23 = .ok (.imul, 1) := by decide +kernel
theorem dL_put_24 : decode cL_put 24 = .ok (.isub, 1) := by decide +kernel
theorem dL_put_25 : decode cL_put 25 = .ok (.ishl, 1) := by decide +kernel
theorem dL_put_26 : decode cL_put 26 = .ok (.ior, 1) := by decide +kernel
theorem dL_put_27 : decode cL_put 27 = .ok (.iastore, 1) := by decide +kernel
theorem dL_put_28 : decode cL_put 28 = .ok (.aload_n 1, 1) := by decide +kernel
theorem dL_put_29 : decode cL_put 29 = .ok (.iconst 0, 1) := by decide +kernel
theorem dL_put_30 : decode cL_put 30 = .ok (.dup2, 1) := by decide +kernel
theorem dL_put_31 : decode cL_put 31 = .ok (.iaload, 1) := by decide +kernel
theorem dL_put_32 : decode cL_put 32 = .ok (.iconst 1, 1) := by decide +kernel
theorem dL_put_33 : decode cL_put 33 = .ok (.iadd, 1) := by decide +kernel
theorem dL_put_34 : decode cL_put 34 = .ok (.iastore, 1) := by decide +kernel
theorem dL_put_35 : decode cL_put 35 = .ok (.aload_n 1, 1) := by decide +kernel
theorem dL_put_36 : decode cL_put 36 = .ok (.iconst 0, 1) := by decide +kernel
theorem dL_put_37 : decode cL_put 37 = .ok (.iaload, 1) := by decide +kernel
theorem dL_put_38 : decode cL_put 38 = .ok (.bipush 20, 2) := by decide +kernel
theorem dL_put_40 : decode cL_put 40 = .ok (.irem, 1) := by decide +kernel
theorem dL_put_41 : decode cL_put 41 = .ok (.ifCond .ne 8, 3) := by decide +kernel
theorem dL_put_44 : decode cL_put 44 = .ok (.aload_n 0, 1) := by decide +kernel
theorem dL_put_45 : decode cL_put 45 = .ok (.aload_n 1, 1) := by decide +kernel
theorem dL_put_46 : decode cL_put 46 = .ok (.invokestatic 7, 3) := by decide +kernel
theorem dL_put_49 : decode cL_put 49 = .ok (.return_, 1) := by decide +kernel
theorem dL_flush_0 : decode cL_flush 0 = .ok (.aload_n 0, 1) := by decide +kernel
theorem dL_flush_1 : decode cL_flush 1 = .ok (.aload_n 1, 1) := by decide +kernel
theorem dL_flush_2 : decode cL_flush 2 = .ok (.iconst 1, 1) := by decide +kernel
theorem dL_flush_3 : decode cL_flush 3 = .ok (.iaload, 1) := by decide +kernel
theorem dL_flush_4 : decode cL_flush 4 = .ok (.aload_n 1, 1) := by decide +kernel
theorem dL_flush_5 : decode cL_flush 5 = .ok (.iconst 2, 1) := by decide +kernel
theorem dL_flush_6 : decode cL_flush 6 = .ok (.iaload, 1) := by decide +kernel
theorem dL_flush_7 : decode cL_flush 7 = .ok (.aload_n 1, 1) := by decide +kernel
theorem dL_flush_8 : decode cL_flush 8 = .ok (.iconst 3, 1) := by decide +kernel
theorem dL_flush_9 : decode cL_flush 9 = .ok (.iaload, 1) := by decide +kernel
theorem dL_flush_10 : decode cL_flush 10 = .ok (.aload_n 1, 1) := by decide +kernel
theorem dL_flush_11 : decode cL_flush 11 = .ok (.iconst 4, 1) := by decide +kernel
theorem dL_flush_12 : decode cL_flush 12 = .ok (.iaload, 1) := by decide +kernel
theorem dL_flush_13 : decode cL_flush 13 = .ok (.aload_n 1, 1) := by decide +kernel
theorem dL_flush_14 : decode cL_flush 14 = .ok (.iconst 5, 1) := by decide +kernel
theorem dL_flush_15 : decode cL_flush 15 = .ok (.iaload, 1) := by decide +kernel
theorem dL_flush_16 : decode cL_flush 16 = .ok (.invokevirtual 13, 3) := by decide +kernel
theorem dL_flush_19 : decode cL_flush 19 = .ok (.pop, 1) := by decide +kernel
theorem dL_flush_20 : decode cL_flush 20 = .ok (.iconst 1, 1) := by decide +kernel
theorem dL_flush_21 : decode cL_flush 21 = .ok (.istore_n 2, 1) := by decide +kernel
theorem dL_flush_22 : decode cL_flush 22 = .ok (.iload_n 2, 1) := by decide +kernel
theorem dL_flush_23 : decode cL_flush 23 = .ok (.bipush 6, 2) := by decide +kernel
theorem dL_flush_25 : decode cL_flush 25 = .ok (.if_icmp .ge 13, 3) := by decide +kernel
theorem dL_flush_28 : decode cL_flush 28 = .ok (.aload_n 1, 1) := by decide +kernel
theorem dL_flush_29 : decode cL_flush 29 = .ok (.iload_n 2, 1) := by decide +kernel
theorem dL_flush_30 : decode cL_flush 30 = .ok (.iconst 0, 1) := by decide +kernel
theorem dL_flush_31 : decode cL_flush 31 = .ok (.iastore, 1) := by decide +kernel
theorem dL_flush_32 : decode cL_flush 32 = .ok (.iinc 2 1, 3) := by decide +kernel
theorem dL_flush_35 : decode cL_flush 35 = .ok (.goto (-13), 3) := by decide +kernel
theorem dL_flush_38 : decode cL_flush 38 = .ok (.return_, 1) := by decide +kernel
theorem dL_loadText_0 : decode cL_loadText 0 = .ok (.aload_n 1, 1) := by decide +kernel
theorem dL_loadText_1 : decode cL_loadText 1 = .ok (.iconst 0, 1) := by decide +kernel
theorem dL_loadText_2 : decode cL_loadText 2 = .ok (.iaload, 1) := by decide +kernel
theorem dL_loadText_3 : decode cL_loadText 3 = .ok (.istore_n 2, 1) := by decide +kernel
theorem dL_loadText_4 : decode cL_loadText 4 = .ok (.iload_n 2, 1) := by decide +kernel
theorem dL_loadText_5 : decode cL_loadText 5 = .ok (.bipush 20, 2) := by decide +kernel
theorem dL_loadText_7 : decode cL_loadText 7 = .ok (.irem, 1) := by decide +kernel
theorem dL_loadText_8 : decode cL_loadText 8 = .ok (.ifCond .le 8, 3) := by decide +kernel
theorem dL_loadText_11 : decode cL_loadText 11 = .ok (.aload_n 0, 1) := by decide +kernel
theorem dL_loadText_12 : decode cL_loadText 12 = .ok (.aload_n 1, 1) := by decide +kernel
theorem dL_loadText_13 : decode cL_loadText 13 = .ok (.invokestatic 7, 3) := by decide +kernel
theorem dL_loadText_16 : decode cL_loadText 16 = .ok (.aload_n 1, 1) := by decide +kernel
theorem dL_loadText_17 : decode cL_loadText 17 = .ok (.iconst 0, 1) := by decide +kernel
theorem dL_loadText_18 : decode cL_loadText 18 = .ok (.iconst 0, 1) := by decide +kernel
theorem dL_loadText_19 : decode cL_loadText 19 = .ok (.iastore, 1) := by decide +kernel
theorem dL_loadText_20 : decode cL_loadText 20 = .ok (.aload_n 0, 1) := by decide +kernel
theorem dL_loadText_21 : decode cL_loadText 21 = .ok (.iload_n 2, 1) := by decide +kernel
theorem dL_loadText_22 : decode cL_loadText 22 = .ok (.invokestatic 19, 3) := by decide +kernel
theorem dL_loadText_25 : decode cL_loadText 25 = .ok (.ireturn, 1) := by decide +kernel
theorem dL_write_0 : decode cL_write 0 = .ok (.iconst 0, 1) := by decide +kernel
theorem dL_write_1 : decode cL_write 1 = .ok (.istore_n 3, 1) := by decide +kernel
theorem dL_write_2 : decode cL_write 2 = .ok (.iload_n 3, 1) := by decide +kernel
theorem dL_write_3 : decode cL_write 3 = .ok (.aload_n 2, 1) := by decide +kernel
theorem dL_write_4 : decode cL_write 4 = .ok (.invokevirtual 23, 3) := by decide +kernel
theorem dL_write_7 : decode cL_write 7 = .ok (.if_icmp .ge 19, 3) := by decide +kernel
theorem dL_write_10 : decode cL_write 10 = .ok (.aload_n 0, 1) := by decide +kernel
theorem dL_write_11 : decode cL_write 11 = .ok (.aload_n 1, 1) := by decide +kernel
theorem dL_write_12 : decode cL_write 12 = .ok (.aload_n 2, 1) := by decide +kernel
theorem dL_write_13 : decode cL_write 13 = .ok (.iload_n 3, 1) := by decide +kernel
theorem dL_write_14 : decode cL_write 14 = .ok (.invokevirtual 29, 3) := by decide +kernel
theorem dL_write_17 : decode cL_write 17 = .ok (.invokestatic 33, 3) := by decide +kernel
theorem dL_write_20 : decode cL_write 20 = .ok (.iinc 3 1, 3) := by decide +kernel
theorem dL_write_23 : decode cL_write 23 = .ok (.goto (-21), 3) := by decide +kernel
theorem dL_write_26 : decode cL_write 26 = .ok (.return_, 1) := by decide +kernel
theorem dL_writeNumber_0 : decode cL_writeNumber 0 = .ok (.iconst 1, 1) := by decide +kernel
theorem dL_writeNumber_1 : decode cL_writeNumber 1 = .ok (.istore_n 3, 1) := by decide +kernel
theorem dL_writeNumber_2 : decode cL_writeNumber 2 = .ok (.iload_n 3, 1) := by decide +kernel
theorem dL_writeNumber_3 : decode cL_writeNumber 3 = .ok (.iload_n 2, 1) := by decide +kernel
theorem dL_writeNumber_4 : decode cL_writeNumber 4 = .ok (.bipush 10, 2) := by decide +kernel
theorem dL_writeNumber_6 : decode cL_writeNumber 6 = .ok (.idiv, 1) := by decide +kernel
theorem dL_writeNumber_7 : decode cL_writeNumber 7 = .ok (.if_icmp .gt 11, 3) := by decide +kernel
theorem dL_writeNumber_10 : decode cL_writeNumber 10 = .ok (.iload_n 3, 1) := by decide +kernel
theorem dL_writeNumber_11 : decode cL_writeNumber 11 = .ok (.bipush 10, 2) := by decide +kernel
theorem dL_writeNumber_13 : decode cL_writeNumber 13 = .ok (.imul, 1) := by decide +kernel
theorem dL_writeNumber_14 : decode cL_writeNumber 14 = .ok (.istore_n 3, 1) := by decide +kernel
theorem dL_writeNumber_15 : decode cL_writeNumber 15 = .ok (.goto (-13), 3) := by decide +kernel
theorem dL_writeNumber_18 : decode cL_writeNumber 18 = .ok (.iload_n 3, 1) := by decide +kernel
theorem dL_writeNumber_19 : decode cL_writeNumber 19 = .ok (.ifCond .le 25, 3) := by decide +kernel
theorem dL_writeNumber_22 : decode cL_writeNumber 22 = .ok (.aload_n 0, 1) := by decide +kernel
theorem dL_writeNumber_23 : decode cL_writeNumber 23 = .ok (.aload_n 1, 1) := by decide +kernel
theorem dL_writeNumber_24 : decode cL_writeNumber 24 = .ok (.bipush 48, 2) := by decide +kernel
theorem dL_writeNumber_26 : decode cL_writeNumber 26 = .ok (.iload_n 2, 1) := by decide +kernel
theorem dL_writeNumber_27 : decode cL_writeNumber 27 = .ok (.iload_n 3, 1) := by decide +kernel
theorem dL_writeNumber_28 : decode cL_writeNumber 28 = .ok (.idiv, 1) := by decide +kernel
theorem dL_writeNumber_29 : decode cL_writeNumber 29 = .ok (.bipush 10, 2) := by decide +kernel
theorem dL_writeNumber_31 : decode cL_writeNumber 31 = .ok (.irem, 1) := by decide +kernel
theorem dL_writeNumber_32 : decode cL_writeNumber 32 = .ok (.iadd, 1) := by decide +kernel
theorem dL_writeNumber_33 : decode cL_writeNumber 33 = .ok (.invokestatic 33, 3) := by decide +kernel
theorem dL_writeNumber_36 : decode cL_writeNumber 36 = .ok (.iload_n 3, 1) := by decide +kernel
theorem dL_writeNumber_37 : decode cL_writeNumber 37 = .ok (.bipush 10, 2) := by decide +kernel
theorem dL_writeNumber_39 : decode cL_writeNumber 39 = .ok (.idiv, 1) := by decide +kernel
theorem dL_writeNumber_40 : decode cL_writeNumber 40 = .ok (.istore_n 3, 1) := by decide +kernel
theorem dL_writeNumber_41 : decode cL_writeNumber 41 = .ok (.goto (-23), 3) := by decide +kernel
theorem dL_writeNumber_44 : decode cL_writeNumber 44 = .ok (.return_, 1) := by decide +kernel
theorem dL_load_0 : decode cL_load 0 = .ok (.aload_n 0, 1) := by decide +kernel
theorem dL_load_1 : decode cL_load 1 = .ok (.iload_n 1, 1) := by decide +kernel
theorem dL_load_2 : decode cL_load 2 = .ok (.invokevirtual 37, 3) := by decide +kernel
theorem dL_load_5 : decode cL_load 5 = .ok (.ireturn, 1) := by decide +kernel
theorem dL_load_6 : decode cL_load 6 = .ok (.astore_n 2, 1) := by decide +kernel
theorem dL_load_7 : decode cL_load 7 = .ok (.ldc 42, 2) := by decide +kernel
theorem dL_load_9 : decode cL_load 9 = .ok (.ireturn, 1) := by decide +kernel
theorem dL_state_0 : decode cL_state 0 = .ok (.aload_n 0, 1) := by decide +kernel
theorem dL_state_1 : decode cL_state 1 = .ok (.iload_n 1, 1) := by decide +kernel
theorem dL_state_2 : decode cL_state 2 = .ok (.invokevirtual 43, 3) := by decide +kernel
theorem dL_state_5 : decode cL_state 5 = .ok (.ireturn, 1) := by decide +kernel
theorem dL_state_6 : decode cL_state 6 = .ok (.astore_n 2, 1) := by decide +kernel
theorem dL_state_7 : decode cL_state 7 = .ok (.ldc 42, 2) := by decide +kernel
theorem dL_state_9 : decode cL_state 9 = .ok (.ireturn, 1) := by decide +kernel
theorem dL_handler_0 : decode cL_handler 0 = .ok (.aload_n 0, 1) := by decide +kernel
theorem dL_handler_1 : decode cL_handler 1 = .ok (.iload_n 1, 1) := by decide +kernel
theorem dL_handler_2 : decode cL_handler 2 = .ok (.iload_n 2, 1) := by decide +kernel
theorem dL_handler_3 : decode cL_handler 3 = .ok (.invokevirtual 46, 3) := by decide +kernel
theorem dL_handler_6 : decode cL_handler 6 = .ok (.ireturn, 1) := by decide +kernel
theorem dL_handler_7 : decode cL_handler 7 = .ok (.astore_n 3, 1) := by decide +kernel
theorem dL_handler_8 : decode cL_handler 8 = .ok (.ldc 52, 2) := by decide +kernel
theorem dL_handler_10 : decode cL_handler 10 = .ok (.ireturn, 1) := by decide +kernel
theorem dL_handler_11 : decode cL_handler 11 = .ok (.astore_n 3, 1) := by decide +kernel
theorem dL_handler_12 : decode cL_handler 12 = .ok (.ldc 42, 2) := by decide +kernel
theorem dL_handler_14 : decode cL_handler 14 = .ok (.ireturn, 1) := by decide +kernel
theorem dL_line_0 : decode cL_line 0 = .ok (.aload_n 0, 1) := by decide +kernel
theorem dL_line_1 : decode cL_line 1 = .ok (.iload_n 1, 1) := by decide +kernel
theorem dL_line_2 : decode cL_line 2 = .ok (.iload_n 2, 1) := by decide +kernel
theorem dL_line_3 : decode cL_line 3 = .ok (.invokevirtual 53, 3) := by decide +kernel
theorem dL_line_6 : decode cL_line 6 = .ok (.ireturn, 1) := by decide +kernel
theorem dL_line_7 : decode cL_line 7 = .ok (.astore_n 3, 1) := by decide +kernel
theorem dL_line_8 : decode cL_line 8 = .ok (.ldc 52, 2) := by decide +kernel
theorem dL_line_10 : decode cL_line 10 = .ok (.ireturn, 1) := by decide +kernel
theorem dL_line_11 : decode cL_line 11 = .ok (.astore_n 3, 1) := by decide +kernel
theorem dL_line_12 : decode cL_line 12 = .ok (.ldc 42, 2) := by decide +kernel
theorem dL_line_14 : decode cL_line 14 = .ok (.ireturn, 1) := by decide +kernel
theorem dL_tenant_0 : decode cL_tenant 0 = .ok (.aload_n 0, 1) := by decide +kernel
theorem dL_tenant_1 : decode cL_tenant 1 = .ok (.iload_n 1, 1) := by decide +kernel
theorem dL_tenant_2 : decode cL_tenant 2 = .ok (.iload_n 2, 1) := by decide +kernel
theorem dL_tenant_3 : decode cL_tenant 3 = .ok (.invokevirtual 56, 3) := by decide +kernel
theorem dL_tenant_6 : decode cL_tenant 6 = .ok (.ireturn, 1) := by decide +kernel
theorem dL_tenant_7 : decode cL_tenant 7 = .ok (.astore_n 3, 1) := by decide +kernel
theorem dL_tenant_8 : decode cL_tenant 8 = .ok (.ldc 52, 2) := by decide +kernel
theorem dL_tenant_10 : decode cL_tenant 10 = .ok (.ireturn, 1) := by decide +kernel
theorem dL_tenant_11 : decode cL_tenant 11 = .ok (.astore_n 3, 1) := by decide +kernel
theorem dL_tenant_12 : decode cL_tenant 12 = .ok (.ldc 61, 2) := by decide +kernel
theorem dL_tenant_14 : decode cL_tenant 14 = .ok (.ireturn, 1) := by decide +kernel
theorem dL_request_0 : decode cL_request 0 = .ok (.aload_n 0, 1) := by decide +kernel
theorem dL_request_1 : decode cL_request 1 = .ok (.iload_n 1, 1) := by decide +kernel
theorem dL_request_2 : decode cL_request 2 = .ok (.iload_n 2, 1) := by decide +kernel
theorem dL_request_3 : decode cL_request 3 = .ok (.invokevirtual 62, 3) := by decide +kernel
theorem dL_request_6 : decode cL_request 6 = .ok (.ireturn, 1) := by decide +kernel
theorem dL_request_7 : decode cL_request 7 = .ok (.astore_n 3, 1) := by decide +kernel
theorem dL_request_8 : decode cL_request 8 = .ok (.ldc 52, 2) := by decide +kernel
theorem dL_request_10 : decode cL_request 10 = .ok (.ireturn, 1) := by decide +kernel
theorem dL_request_11 : decode cL_request 11 = .ok (.astore_n 3, 1) := by decide +kernel
theorem dL_request_12 : decode cL_request 12 = .ok (.ldc 42, 2) := by decide +kernel
theorem dL_request_14 : decode cL_request 14 = .ok (.ireturn, 1) := by decide +kernel
theorem dL_calm_0 : decode cL_calm 0 = .ok (.aload_n 0, 1) := by decide +kernel
theorem dL_calm_1 : decode cL_calm 1 = .ok (.iload_n 1, 1) := by decide +kernel
theorem dL_calm_2 : decode cL_calm 2 = .ok (.invokevirtual 65, 3) := by decide +kernel
theorem dL_calm_5 : decode cL_calm 5 = .ok (.ireturn, 1) := by decide +kernel
theorem dL_calm_6 : decode cL_calm 6 = .ok (.astore_n 2, 1) := by decide +kernel
theorem dL_calm_7 : decode cL_calm 7 = .ok (.ldc 52, 2) := by decide +kernel
theorem dL_calm_9 : decode cL_calm 9 = .ok (.ireturn, 1) := by decide +kernel
theorem dL_endsAt_0 : decode cL_endsAt 0 = .ok (.aload_n 0, 1) := by decide +kernel
theorem dL_endsAt_1 : decode cL_endsAt 1 = .ok (.iload_n 1, 1) := by decide +kernel
theorem dL_endsAt_2 : decode cL_endsAt 2 = .ok (.invokevirtual 68, 3) := by decide +kernel
theorem dL_endsAt_5 : decode cL_endsAt 5 = .ok (.ireturn, 1) := by decide +kernel
theorem dL_endsAt_6 : decode cL_endsAt 6 = .ok (.astore_n 2, 1) := by decide +kernel
theorem dL_endsAt_7 : decode cL_endsAt 7 = .ok (.ldc 52, 2) := by decide +kernel
theorem dL_endsAt_9 : decode cL_endsAt 9 = .ok (.ireturn, 1) := by decide +kernel
theorem dL_bankruptIn_0 : decode cL_bankruptIn 0 = .ok (.aload_n 0, 1) := by decide +kernel
theorem dL_bankruptIn_1 : decode cL_bankruptIn 1 = .ok (.iload_n 1, 1) := by decide +kernel
theorem dL_bankruptIn_2 : decode cL_bankruptIn 2 = .ok (.invokevirtual 71, 3) := by decide +kernel
theorem dL_bankruptIn_5 : decode cL_bankruptIn 5 = .ok (.ireturn, 1) := by decide +kernel
theorem dL_bankruptIn_6 : decode cL_bankruptIn 6 = .ok (.astore_n 2, 1) := by decide +kernel
theorem dL_bankruptIn_7 : decode cL_bankruptIn 7 = .ok (.ldc 52, 2) := by decide +kernel
theorem dL_bankruptIn_9 : decode cL_bankruptIn 9 = .ok (.ireturn, 1) := by decide +kernel
theorem dL_finesIn_0 : decode cL_finesIn 0 = .ok (.aload_n 0, 1) := by decide +kernel
theorem dL_finesIn_1 : decode cL_finesIn 1 = .ok (.iload_n 1, 1) := by decide +kernel
theorem dL_finesIn_2 : decode cL_finesIn 2 = .ok (.invokevirtual 74, 3) := by decide +kernel
theorem dL_finesIn_5 : decode cL_finesIn 5 = .ok (.ireturn, 1) := by decide +kernel
theorem dL_finesIn_6 : decode cL_finesIn 6 = .ok (.astore_n 2, 1) := by decide +kernel
theorem dL_finesIn_7 : decode cL_finesIn 7 = .ok (.ldc 42, 2) := by decide +kernel
theorem dL_finesIn_9 : decode cL_finesIn 9 = .ok (.ireturn, 1) := by decide +kernel
theorem dL_advise_0 : decode cL_advise 0 = .ok (.aload_n 0, 1) := by decide +kernel
theorem dL_advise_1 : decode cL_advise 1 = .ok (.iload_n 1, 1) := by decide +kernel
theorem dL_advise_2 : decode cL_advise 2 = .ok (.invokevirtual 77, 3) := by decide +kernel
theorem dL_advise_5 : decode cL_advise 5 = .ok (.ireturn, 1) := by decide +kernel
theorem dL_advise_6 : decode cL_advise 6 = .ok (.astore_n 2, 1) := by decide +kernel
theorem dL_advise_7 : decode cL_advise 7 = .ok (.ldc 52, 2) := by decide +kernel
theorem dL_advise_9 : decode cL_advise 9 = .ok (.ireturn, 1) := by decide +kernel
theorem dL_pass_0 : decode cL_pass 0 = .ok (.aload_n 0, 1) := by decide +kernel
theorem dL_pass_1 : decode cL_pass 1 = .ok (.iload_n 1, 1) := by decide +kernel
theorem dL_pass_2 : decode cL_pass 2 = .ok (.invokevirtual 80, 3) := by decide +kernel
theorem dL_pass_5 : decode cL_pass 5 = .ok (.ireturn, 1) := by decide +kernel
theorem dL_pass_6 : decode cL_pass 6 = .ok (.astore_n 2, 1) := by decide +kernel
theorem dL_pass_7 : decode cL_pass 7 = .ok (.ldc 42, 2) := by decide +kernel
theorem dL_pass_9 : decode cL_pass 9 = .ok (.ireturn, 1) := by decide +kernel
theorem dL_raise_0 : decode cL_raise 0 = .ok (.aload_n 0, 1) := by decide +kernel
theorem dL_raise_1 : decode cL_raise 1 = .ok (.iload_n 1, 1) := by decide +kernel
theorem dL_raise_2 : decode cL_raise 2 = .ok (.iload_n 2, 1) := by decide +kernel
theorem dL_raise_3 : decode cL_raise 3 = .ok (.invokevirtual 83, 3) := by decide +kernel
theorem dL_raise_6 : decode cL_raise 6 = .ok (.ireturn, 1) := by decide +kernel
theorem dL_raise_7 : decode cL_raise 7 = .ok (.astore_n 3, 1) := by decide +kernel
theorem dL_raise_8 : decode cL_raise 8 = .ok (.ldc 52, 2) := by decide +kernel
theorem dL_raise_10 : decode cL_raise 10 = .ok (.ireturn, 1) := by decide +kernel
theorem dL_raise_11 : decode cL_raise 11 = .ok (.astore_n 3, 1) := by decide +kernel
theorem dL_raise_12 : decode cL_raise 12 = .ok (.ldc 42, 2) := by decide +kernel
theorem dL_raise_14 : decode cL_raise 14 = .ok (.ireturn, 1) := by decide +kernel
theorem dL_raise_15 : decode cL_raise 15 = .ok (.astore_n 3, 1) := by decide +kernel
theorem dL_raise_16 : decode cL_raise 16 = .ok (.ldc 88, 2) := by decide +kernel
theorem dL_raise_18 : decode cL_raise 18 = .ok (.ireturn, 1) := by decide +kernel
theorem dL_lease_0 : decode cL_lease 0 = .ok (.aload_n 0, 1) := by decide +kernel
theorem dL_lease_1 : decode cL_lease 1 = .ok (.iload_n 1, 1) := by decide +kernel
theorem dL_lease_2 : decode cL_lease 2 = .ok (.iload_n 2, 1) := by decide +kernel
theorem dL_lease_3 : decode cL_lease 3 = .ok (.invokevirtual 89, 3) := by decide +kernel
theorem dL_lease_6 : decode cL_lease 6 = .ok (.ireturn, 1) := by decide +kernel
theorem dL_lease_7 : decode cL_lease 7 = .ok (.astore_n 3, 1) := by decide +kernel
theorem dL_lease_8 : decode cL_lease 8 = .ok (.ldc 52, 2) := by decide +kernel
theorem dL_lease_10 : decode cL_lease 10 = .ok (.ireturn, 1) := by decide +kernel
theorem dL_release_0 : decode cL_release 0 = .ok (.aload_n 0, 1) := by decide +kernel
theorem dL_release_1 : decode cL_release 1 = .ok (.iload_n 1, 1) := by decide +kernel
theorem dL_release_2 : decode cL_release 2 = .ok (.iload_n 2, 1) := by decide +kernel
theorem dL_release_3 : decode cL_release 3 = .ok (.invokevirtual 92, 3) := by decide +kernel
theorem dL_release_6 : decode cL_release 6 = .ok (.ireturn, 1) := by decide +kernel
theorem dL_release_7 : decode cL_release 7 = .ok (.astore_n 3, 1) := by decide +kernel
theorem dL_release_8 : decode cL_release 8 = .ok (.ldc 52, 2) := by decide +kernel
theorem dL_release_10 : decode cL_release 10 = .ok (.ireturn, 1) := by decide +kernel
theorem dL_fund_0 : decode cL_fund 0 = .ok (.aload_n 0, 1) := by decide +kernel
theorem dL_fund_1 : decode cL_fund 1 = .ok (.iload_n 1, 1) := by decide +kernel
theorem dL_fund_2 : decode cL_fund 2 = .ok (.iload_n 2, 1) := by decide +kernel
theorem dL_fund_3 : decode cL_fund 3 = .ok (.invokevirtual 95, 3) := by decide +kernel
theorem dL_fund_6 : decode cL_fund 6 = .ok (.ireturn, 1) := by decide +kernel
theorem dL_fund_7 : decode cL_fund 7 = .ok (.astore_n 3, 1) := by decide +kernel
theorem dL_fund_8 : decode cL_fund 8 = .ok (.ldc 52, 2) := by decide +kernel
theorem dL_fund_10 : decode cL_fund 10 = .ok (.ireturn, 1) := by decide +kernel
theorem dL_fund_11 : decode cL_fund 11 = .ok (.astore_n 3, 1) := by decide +kernel
theorem dL_fund_12 : decode cL_fund 12 = .ok (.ldc 42, 2) := by decide +kernel
theorem dL_fund_14 : decode cL_fund 14 = .ok (.ireturn, 1) := by decide +kernel
theorem dL_with_0 : decode cL_with 0 = .ok (.aload_n 0, 1) := by decide +kernel
theorem dL_with_1 : decode cL_with 1 = .ok (.arraylength, 1) := by decide +kernel
theorem dL_with_2 : decode cL_with 2 = .ok (.iconst 1, 1) := by decide +kernel
theorem dL_with_3 : decode cL_with 3 = .ok (.iadd, 1) := by decide +kernel
theorem dL_with_4 : decode cL_with 4 = .ok (.anewarray 98, 3) := by decide +kernel
theorem dL_with_7 : decode cL_with 7 = .ok (.astore_n 2, 1) := by decide +kernel
theorem dL_with_8 : decode cL_with 8 = .ok (.iconst 0, 1) := by decide +kernel
theorem dL_with_9 : decode cL_with 9 = .ok (.istore_n 3, 1) := by decide +kernel
theorem dL_with_10 : decode cL_with 10 = .ok (.iload_n 3, 1) := by decide +kernel
theorem dL_with_11 : decode cL_with 11 = .ok (.aload_n 0, 1) := by decide +kernel
theorem dL_with_12 : decode cL_with 12 = .ok (.arraylength, 1) := by decide +kernel
theorem dL_with_13 : decode cL_with 13 = .ok (.if_icmp .ge 15, 3) := by decide +kernel
theorem dL_with_16 : decode cL_with 16 = .ok (.aload_n 2, 1) := by decide +kernel
theorem dL_with_17 : decode cL_with 17 = .ok (.iload_n 3, 1) := by decide +kernel
theorem dL_with_18 : decode cL_with 18 = .ok (.aload_n 0, 1) := by decide +kernel
theorem dL_with_19 : decode cL_with 19 = .ok (.iload_n 3, 1) := by decide +kernel
theorem dL_with_20 : decode cL_with 20 = .ok (.aaload, 1) := by decide +kernel
theorem dL_with_21 : decode cL_with 21 = .ok (.aastore, 1) := by decide +kernel
theorem dL_with_22 : decode cL_with 22 = .ok (.iinc 3 1, 3) := by decide +kernel
theorem dL_with_25 : decode cL_with 25 = .ok (.goto (-15), 3) := by decide +kernel
theorem dL_with_28 : decode cL_with 28 = .ok (.aload_n 2, 1) := by decide +kernel
theorem dL_with_29 : decode cL_with 29 = .ok (.aload_n 0, 1) := by decide +kernel
theorem dL_with_30 : decode cL_with 30 = .ok (.arraylength, 1) := by decide +kernel
theorem dL_with_31 : decode cL_with 31 = .ok (.aload_n 1, 1) := by decide +kernel
theorem dL_with_32 : decode cL_with 32 = .ok (.aastore, 1) := by decide +kernel
theorem dL_with_33 : decode cL_with 33 = .ok (.aload_n 2, 1) := by decide +kernel
theorem dL_with_34 : decode cL_with 34 = .ok (.areturn, 1) := by decide +kernel
theorem dL_copied_0 : decode cL_copied 0 = .ok (.aload_n 0, 1) := by decide +kernel
theorem dL_copied_1 : decode cL_copied 1 = .ok (.arraylength, 1) := by decide +kernel
theorem dL_copied_2 : decode cL_copied 2 = .ok (.anewarray 98, 3) := by decide +kernel
theorem dL_copied_5 : decode cL_copied 5 = .ok (.astore_n 1, 1) := by decide +kernel
theorem dL_copied_6 : decode cL_copied 6 = .ok (.iconst 0, 1) := by decide +kernel
theorem dL_copied_7 : decode cL_copied 7 = .ok (.istore_n 2, 1) := by decide +kernel
theorem dL_copied_8 : decode cL_copied 8 = .ok (.iload_n 2, 1) := by decide +kernel
theorem dL_copied_9 : decode cL_copied 9 = .ok (.aload_n 0, 1) := by decide +kernel
theorem dL_copied_10 : decode cL_copied 10 = .ok (.arraylength, 1) := by decide +kernel
theorem dL_copied_11 : decode cL_copied 11 = .ok (.if_icmp .ge 21, 3) := by decide +kernel
theorem dL_copied_14 : decode cL_copied 14 = .ok (.aload_n 1, 1) := by decide +kernel
theorem dL_copied_15 : decode cL_copied 15 = .ok (.iload_n 2, 1) := by decide +kernel
theorem dL_copied_16 : decode cL_copied 16 = .ok (.aload_n 0, 1) := by decide +kernel
theorem dL_copied_17 : decode cL_copied 17 = .ok (.iload_n 2, 1) := by decide +kernel
theorem dL_copied_18 : decode cL_copied 18 = .ok (.aaload, 1) := by decide +kernel
theorem dL_copied_19 : decode cL_copied 19 = .ok (.invokevirtual 100, 3) := by decide +kernel
theorem dL_copied_22 : decode cL_copied 22 = .ok (.checkcast 98, 3) := by decide +kernel
theorem dL_copied_25 : decode cL_copied 25 = .ok (.aastore, 1) := by decide +kernel
theorem dL_copied_26 : decode cL_copied 26 = .ok (.iinc 2 1, 3) := by decide +kernel
theorem dL_copied_29 : decode cL_copied 29 = .ok (.goto (-21), 3) := by decide +kernel
theorem dL_copied_32 : decode cL_copied 32 = .ok (.aload_n 1, 1) := by decide +kernel
theorem dL_copied_33 : decode cL_copied 33 = .ok (.areturn, 1) := by decide +kernel
theorem dL_placeIn_0 : decode cL_placeIn 0 = .ok (.iconst 0, 1) := by decide +kernel
theorem dL_placeIn_1 : decode cL_placeIn 1 = .ok (.istore_n 2, 1) := by decide +kernel
theorem dL_placeIn_2 : decode cL_placeIn 2 = .ok (.iload_n 2, 1) := by decide +kernel
theorem dL_placeIn_3 : decode cL_placeIn 3 = .ok (.aload_n 0, 1) := by decide +kernel
theorem dL_placeIn_4 : decode cL_placeIn 4 = .ok (.arraylength, 1) := by decide +kernel
theorem dL_placeIn_5 : decode cL_placeIn 5 = .ok (.if_icmp .ge 18, 3) := by decide +kernel
theorem dL_placeIn_8 : decode cL_placeIn 8 = .ok (.aload_n 0, 1) := by decide +kernel
theorem dL_placeIn_9 : decode cL_placeIn 9 = .ok (.iload_n 2, 1) := by decide +kernel
theorem dL_placeIn_10 : decode cL_placeIn 10 = .ok (.iaload, 1) := by decide +kernel
theorem dL_placeIn_11 : decode cL_placeIn 11 = .ok (.iload_n 1, 1) := by decide +kernel
theorem dL_placeIn_12 : decode cL_placeIn 12 = .ok (.if_icmp .ne 5, 3) := by decide +kernel
theorem dL_placeIn_15 : decode cL_placeIn 15 = .ok (.iload_n 2, 1) := by decide +kernel
theorem dL_placeIn_16 : decode cL_placeIn 16 = .ok (.ireturn, 1) := by decide +kernel
theorem dL_placeIn_17 : decode cL_placeIn 17 = .ok (.iinc 2 1, 3) := by decide +kernel
theorem dL_placeIn_20 : decode cL_placeIn 20 = .ok (.goto (-18), 3) := by decide +kernel
theorem dL_placeIn_23 : decode cL_placeIn 23 = .ok (.iconst (-1), 1) := by decide +kernel
theorem dL_placeIn_24 : decode cL_placeIn 24 = .ok (.ireturn, 1) := by decide +kernel
theorem dL_extended_0 : decode cL_extended 0 = .ok (.aload_n 0, 1) := by decide +kernel
theorem dL_extended_1 : decode cL_extended 1 = .ok (.arraylength, 1) := by decide +kernel
theorem dL_extended_2 : decode cL_extended 2 = .ok (.iconst 1, 1) := by decide +kernel
theorem dL_extended_3 : decode cL_extended 3 = .ok (.iadd, 1) := by decide +kernel
theorem dL_extended_4 : decode cL_extended 4 = .ok (.newarray .int, 2) := by decide +kernel
theorem dL_extended_6 : decode cL_extended 6 = .ok (.astore_n 2, 1) := by decide +kernel
theorem dL_extended_7 : decode cL_extended 7 = .ok (.iconst 0, 1) := by decide +kernel
theorem dL_extended_8 : decode cL_extended 8 = .ok (.istore_n 3, 1) := by decide +kernel
theorem dL_extended_9 : decode cL_extended 9 = .ok (.iload_n 3, 1) := by decide +kernel
theorem dL_extended_10 : decode cL_extended 10 = .ok (.aload_n 0, 1) := by decide +kernel
theorem dL_extended_11 : decode cL_extended 11 = .ok (.arraylength, 1) := by decide +kernel
theorem dL_extended_12 : decode cL_extended 12 = .ok (.if_icmp .ge 15, 3) := by decide +kernel
theorem dL_extended_15 : decode cL_extended 15 = .ok (.aload_n 2, 1) := by decide +kernel
theorem dL_extended_16 : decode cL_extended 16 = .ok (.iload_n 3, 1) := by decide +kernel
theorem dL_extended_17 : decode cL_extended 17 = .ok (.aload_n 0, 1) := by decide +kernel
theorem dL_extended_18 : decode cL_extended 18 = .ok (.iload_n 3, 1) := by decide +kernel
theorem dL_extended_19 : decode cL_extended 19 = .ok (.iaload, 1) := by decide +kernel
theorem dL_extended_20 : decode cL_extended 20 = .ok (.iastore, 1) := by decide +kernel
theorem dL_extended_21 : decode cL_extended 21 = .ok (.iinc 3 1, 3) := by decide +kernel
theorem dL_extended_24 : decode cL_extended 24 = .ok (.goto (-15), 3) := by decide +kernel
theorem dL_extended_27 : decode cL_extended 27 = .ok (.aload_n 2, 1) := by decide +kernel
theorem dL_extended_28 : decode cL_extended 28 = .ok (.aload_n 0, 1) := by decide +kernel
theorem dL_extended_29 : decode cL_extended 29 = .ok (.arraylength, 1) := by decide +kernel
theorem dL_extended_30 : decode cL_extended 30 = .ok (.iload_n 1, 1) := by decide +kernel
theorem dL_extended_31 : decode cL_extended 31 = .ok (.iastore, 1) := by decide +kernel
theorem dL_extended_32 : decode cL_extended 32 = .ok (.aload_n 2, 1) := by decide +kernel
theorem dL_extended_33 : decode cL_extended 33 = .ok (.areturn, 1) := by decide +kernel
theorem dL_without_0 : decode cL_without 0 = .ok (.aload_n 0, 1) := by decide +kernel
theorem dL_without_1 : decode cL_without 1 = .ok (.arraylength, 1) := by decide +kernel
theorem dL_without_2 : decode cL_without 2 = .ok (.iconst 1, 1) := by decide +kernel
theorem dL_without_3 : decode cL_without 3 = .ok (.isub, 1) := by decide +kernel
theorem dL_without_4 : decode cL_without 4 = .ok (.newarray .int, 2) := by decide +kernel
theorem dL_without_6 : decode cL_without 6 = .ok (.astore_n 2, 1) := by decide +kernel
theorem dL_without_7 : decode cL_without 7 = .ok (.iconst 0, 1) := by decide +kernel
theorem dL_without_8 : decode cL_without 8 = .ok (.istore_n 3, 1) := by decide +kernel
theorem dL_without_9 : decode cL_without 9 = .ok (.iload_n 3, 1) := by decide +kernel
theorem dL_without_10 : decode cL_without 10 = .ok (.aload_n 2, 1) := by decide +kernel
theorem dL_without_11 : decode cL_without 11 = .ok (.arraylength, 1) := by decide +kernel
theorem dL_without_12 : decode cL_without 12 = .ok (.if_icmp .ge 26, 3) := by decide +kernel
theorem dL_without_15 : decode cL_without 15 = .ok (.aload_n 2, 1) := by decide +kernel
theorem dL_without_16 : decode cL_without 16 = .ok (.iload_n 3, 1) := by decide +kernel
theorem dL_without_17 : decode cL_without 17 = .ok (.aload_n 0, 1) := by decide +kernel
theorem dL_without_18 : decode cL_without 18 = .ok (.iload_n 3, 1) := by decide +kernel
theorem dL_without_19 : decode cL_without 19 = .ok (.iload_n 1, 1) := by decide +kernel
theorem dL_without_20 : decode cL_without 20 = .ok (.if_icmp .ge 7, 3) := by decide +kernel
theorem dL_without_23 : decode cL_without 23 = .ok (.iload_n 3, 1) := by decide +kernel
theorem dL_without_24 : decode cL_without 24 = .ok (.goto 6, 3) := by decide +kernel
theorem dL_without_27 : decode cL_without 27 = .ok (.iload_n 3, 1) := by decide +kernel
theorem dL_without_28 : decode cL_without 28 = .ok (.iconst 1, 1) := by decide +kernel
theorem dL_without_29 : decode cL_without 29 = .ok (.iadd, 1) := by decide +kernel
theorem dL_without_30 : decode cL_without 30 = .ok (.iaload, 1) := by decide +kernel
theorem dL_without_31 : decode cL_without 31 = .ok (.iastore, 1) := by decide +kernel
theorem dL_without_32 : decode cL_without 32 = .ok (.iinc 3 1, 3) := by decide +kernel
theorem dL_without_35 : decode cL_without 35 = .ok (.goto (-26), 3) := by decide +kernel
theorem dL_without_38 : decode cL_without 38 = .ok (.aload_n 2, 1) := by decide +kernel
theorem dL_without_39 : decode cL_without 39 = .ok (.areturn, 1) := by decide +kernel
theorem dL_writeNumbers_0 : decode cL_writeNumbers 0 = .ok (.aload_n 0, 1) := by decide +kernel
theorem dL_writeNumbers_1 : decode cL_writeNumbers 1 = .ok (.aload_n 1, 1) := by decide +kernel
theorem dL_writeNumbers_2 : decode cL_writeNumbers 2 = .ok (.aload_n 2, 1) := by decide +kernel
theorem dL_writeNumbers_3 : decode cL_writeNumbers 3 = .ok (.invokestatic 104, 3) := by decide +kernel
theorem dL_writeNumbers_6 : decode cL_writeNumbers 6 = .ok (.aload_n 3, 1) := by decide +kernel
theorem dL_writeNumbers_7 : decode cL_writeNumbers 7 = .ok (.astore 4, 2) := by decide +kernel
theorem dL_writeNumbers_9 : decode cL_writeNumbers 9 = .ok (.aload 4, 2) := by decide +kernel
theorem dL_writeNumbers_11 : decode cL_writeNumbers 11 = .ok (.arraylength, 1) := by decide +kernel
theorem dL_writeNumbers_12 : decode cL_writeNumbers 12 = .ok (.istore 5, 2) := by decide +kernel
theorem dL_writeNumbers_14 : decode cL_writeNumbers 14 = .ok (.iconst 0, 1) := by decide +kernel
theorem dL_writeNumbers_15 : decode cL_writeNumbers 15 = .ok (.istore 6, 2) := by decide +kernel
theorem dL_writeNumbers_17 : decode cL_writeNumbers 17 = .ok (.iload 6, 2) := by decide +kernel
theorem dL_writeNumbers_19 : decode cL_writeNumbers 19 = .ok (.iload 5, 2) := by decide +kernel
theorem dL_writeNumbers_21 : decode cL_writeNumbers 21 = .ok (.if_icmp .ge 30, 3) := by decide +kernel
theorem dL_writeNumbers_24 : decode cL_writeNumbers 24 = .ok (.aload 4, 2) := by decide +kernel
theorem dL_writeNumbers_26 : decode cL_writeNumbers 26 = .ok (.iload 6, 2) := by decide +kernel
theorem dL_writeNumbers_28 : decode cL_writeNumbers 28 = .ok (.iaload, 1) := by decide +kernel
theorem dL_writeNumbers_29 : decode cL_writeNumbers 29 = .ok (.istore 7, 2) := by decide +kernel
theorem dL_writeNumbers_31 : decode cL_writeNumbers 31 = .ok (.aload_n 0, 1) := by decide +kernel
theorem dL_writeNumbers_32 : decode cL_writeNumbers 32 = .ok (.aload_n 1, 1) := by decide +kernel
theorem dL_writeNumbers_33 : decode cL_writeNumbers 33 = .ok (.ldc 108, 2) := by decide +kernel
theorem dL_writeNumbers_35 : decode cL_writeNumbers 35 = .ok (.invokestatic 104, 3) := by decide +kernel
theorem dL_writeNumbers_38 : decode cL_writeNumbers 38 = .ok (.aload_n 0, 1) := by decide +kernel
theorem dL_writeNumbers_39 : decode cL_writeNumbers 39 = .ok (.aload_n 1, 1) := by decide +kernel
theorem dL_writeNumbers_40 : decode cL_writeNumbers 40 = .ok (.iload 7, 2) := by decide +kernel
theorem dL_writeNumbers_42 : decode cL_writeNumbers 42 = .ok (.invokestatic 110, 3) := by decide +kernel
theorem dL_writeNumbers_45 : decode cL_writeNumbers 45 = .ok (.iinc 6 1, 3) := by decide +kernel
theorem dL_writeNumbers_48 : decode cL_writeNumbers 48 = .ok (.goto (-31), 3) := by decide +kernel
theorem dL_writeNumbers_51 : decode cL_writeNumbers 51 = .ok (.return_, 1) := by decide +kernel
theorem dL_randomDesk_0 : decode cL_randomDesk 0 = .ok (.new 113, 3) := by decide +kernel
theorem dL_randomDesk_3 : decode cL_randomDesk 3 = .ok (.dup, 1) := by decide +kernel
theorem dL_randomDesk_4 : decode cL_randomDesk 4 = .ok (.invokespecial 115, 3) := by decide +kernel
theorem dL_randomDesk_7 : decode cL_randomDesk 7 = .ok (.astore_n 3, 1) := by decide +kernel
theorem dL_randomDesk_8 : decode cL_randomDesk 8 = .ok (.aload_n 0, 1) := by decide +kernel
theorem dL_randomDesk_9 : decode cL_randomDesk 9 = .ok (.aload_n 1, 1) := by decide +kernel
theorem dL_randomDesk_10 : decode cL_randomDesk 10 = .ok (.ldc 116, 2) := by decide +kernel
theorem dL_randomDesk_12 : decode cL_randomDesk 12 = .ok (.invokestatic 104, 3) := by decide +kernel
theorem dL_randomDesk_15 : decode cL_randomDesk 15 = .ok (.aload_n 2, 1) := by decide +kernel
theorem dL_randomDesk_16 : decode cL_randomDesk 16 = .ok (.iconst 5, 1) := by decide +kernel
theorem dL_randomDesk_17 : decode cL_randomDesk 17 = .ok (.invokevirtual 118, 3) := by decide +kernel
theorem dL_randomDesk_20 : decode cL_randomDesk 20 = .ok (.istore 4, 2) := by decide +kernel
theorem dL_randomDesk_22 : decode cL_randomDesk 22 = .ok (.iload 4, 2) := by decide +kernel
theorem dL_randomDesk_24 : decode cL_randomDesk 24 = .ok (.ifCond .le 131, 3) := by decide +kernel
theorem dL_randomDesk_27 : decode cL_randomDesk 27 = .ok (.aload_n 3, 1) := by decide +kernel
theorem dL_randomDesk_28 : decode cL_randomDesk 28 = .ok (.aload_n 3, 1) := by decide +kernel
theorem dL_randomDesk_29 : decode cL_randomDesk 29 = .ok (.getfield 123, 3) := by decide +kernel
theorem dL_randomDesk_32 : decode cL_randomDesk 32 = .ok (.bipush 6, 2) := by decide +kernel
theorem dL_randomDesk_34 : decode cL_randomDesk 34 = .ok (.newarray .int, 2) := by decide +kernel
theorem dL_randomDesk_36 : decode cL_randomDesk 36 = .ok (.dup, 1) := by decide +kernel
theorem dL_randomDesk_37 : decode cL_randomDesk 37 = .ok (.iconst 0, 1) := by decide +kernel
theorem dL_randomDesk_38 : decode cL_randomDesk 38 = .ok (.aload_n 2, 1) := by decide +kernel
theorem dL_randomDesk_39 : decode cL_randomDesk 39 = .ok (.aload_n 2, 1) := by decide +kernel
theorem dL_randomDesk_40 : decode cL_randomDesk 40 = .ok (.iconst 3, 1) := by decide +kernel
theorem dL_randomDesk_41 : decode cL_randomDesk 41 = .ok (.invokevirtual 118, 3) := by decide +kernel
theorem dL_randomDesk_44 : decode cL_randomDesk 44 = .ok (.ifCond .ne 9, 3) := by decide +kernel
theorem dL_randomDesk_47 : decode cL_randomDesk 47 = .ok (.sipush 1000, 3) := by decide +kernel
theorem dL_randomDesk_50 : decode cL_randomDesk 50 = .ok (.goto 5, 3) := by decide +kernel
theorem dL_randomDesk_53 : decode cL_randomDesk 53 = .ok (.bipush 30, 2) := by decide +kernel
theorem dL_randomDesk_55 : decode cL_randomDesk 55 = .ok (.invokevirtual 118, 3) := by decide +kernel
theorem dL_randomDesk_58 : decode cL_randomDesk 58 = .ok (.iastore, 1) := by decide +kernel
theorem dL_randomDesk_59 : decode cL_randomDesk 59 = .ok (.dup, 1) := by decide +kernel
theorem dL_randomDesk_60 : decode cL_randomDesk 60 = .ok (.iconst 1, 1) := by decide +kernel
theorem dL_randomDesk_61 : decode cL_randomDesk 61 = .ok (.iconst 1, 1) := by decide +kernel
theorem dL_randomDesk_62 : decode cL_randomDesk 62 = .ok (.aload_n 2, 1) := by decide +kernel
theorem dL_randomDesk_63 : decode cL_randomDesk 63 = .ok (.aload_n 2, 1) := by decide +kernel
theorem dL_randomDesk_64 : decode cL_randomDesk 64 = .ok (.iconst 3, 1) := by decide +kernel
theorem dL_randomDesk_65 : decode cL_randomDesk 65 = .ok (.invokevirtual 118, 3) := by decide +kernel
theorem dL_randomDesk_68 : decode cL_randomDesk 68 = .ok (.ifCond .ne 8, 3) := by decide +kernel
theorem dL_randomDesk_71 : decode cL_randomDesk 71 = .ok (.bipush 20, 2) := by decide +kernel
theorem dL_randomDesk_73 : decode cL_randomDesk 73 = .ok (.goto 4, 3) := by decide +kernel
theorem dL_randomDesk_76 : decode cL_randomDesk 76 = .ok (.iconst 4, 1) := by decide +kernel
theorem dL_randomDesk_77 : decode cL_randomDesk 77 = .ok (.invokevirtual 118, 3) := by decide +kernel
theorem dL_randomDesk_80 : decode cL_randomDesk 80 = .ok (.iadd, 1) := by decide +kernel
theorem dL_randomDesk_81 : decode cL_randomDesk 81 = .ok (.iastore, 1) := by decide +kernel
theorem dL_randomDesk_82 : decode cL_randomDesk 82 = .ok (.dup, 1) := by decide +kernel
theorem dL_randomDesk_83 : decode cL_randomDesk 83 = .ok (.iconst 2, 1) := by decide +kernel
theorem dL_randomDesk_84 : decode cL_randomDesk 84 = .ok (.iconst 0, 1) := by decide +kernel
theorem dL_randomDesk_85 : decode cL_randomDesk 85 = .ok (.iastore, 1) := by decide +kernel
theorem dL_randomDesk_86 : decode cL_randomDesk 86 = .ok (.dup, 1) := by decide +kernel
theorem dL_randomDesk_87 : decode cL_randomDesk 87 = .ok (.iconst 3, 1) := by decide +kernel
theorem dL_randomDesk_88 : decode cL_randomDesk 88 = .ok (.iconst 0, 1) := by decide +kernel
theorem dL_randomDesk_89 : decode cL_randomDesk 89 = .ok (.iastore, 1) := by decide +kernel
theorem dL_randomDesk_90 : decode cL_randomDesk 90 = .ok (.dup, 1) := by decide +kernel
theorem dL_randomDesk_91 : decode cL_randomDesk 91 = .ok (.iconst 4, 1) := by decide +kernel
theorem dL_randomDesk_92 : decode cL_randomDesk 92 = .ok (.iconst 0, 1) := by decide +kernel
theorem dL_randomDesk_93 : decode cL_randomDesk 93 = .ok (.iastore, 1) := by decide +kernel
theorem dL_randomDesk_94 : decode cL_randomDesk 94 = .ok (.dup, 1) := by decide +kernel
theorem dL_randomDesk_95 : decode cL_randomDesk 95 = .ok (.iconst 5, 1) := by decide +kernel
theorem dL_randomDesk_96 : decode cL_randomDesk 96 = .ok (.iconst 0, 1) := by decide +kernel
theorem dL_randomDesk_97 : decode cL_randomDesk 97 = .ok (.iastore, 1) := by decide +kernel
theorem dL_randomDesk_98 : decode cL_randomDesk 98 = .ok (.invokestatic 127, 3) := by decide +kernel
theorem dL_randomDesk_101 : decode cL_randomDesk 101 = .ok (.putfield 123, 3) := by decide +kernel
theorem dL_randomDesk_104 : decode cL_randomDesk 104 = .ok (.aload_n 3, 1) := by decide +kernel
theorem dL_randomDesk_105 : decode cL_randomDesk 105 = .ok (.getfield 123, 3) := by decide +kernel
theorem dL_randomDesk_108 : decode cL_randomDesk 108 = .ok (.aload_n 3, 1) := by decide +kernel
theorem dL_randomDesk_109 : decode cL_randomDesk 109 = .ok (.getfield 123, 3) := by decide +kernel
theorem dL_randomDesk_112 : decode cL_randomDesk 112 = .ok (.arraylength, 1) := by decide +kernel
theorem dL_randomDesk_113 : decode cL_randomDesk 113 = .ok (.iconst 1, 1) := by decide +kernel
theorem dL_randomDesk_114 : decode cL_randomDesk 114 = .ok (.isub, 1) := by decide +kernel
theorem dL_randomDesk_115 : decode cL_randomDesk 115 = .ok (.aaload, 1) := by decide +kernel
theorem dL_randomDesk_116 : decode cL_randomDesk 116 = .ok (.astore 5, 2) := by decide +kernel
theorem dL_randomDesk_118 : decode cL_randomDesk 118 = .ok (.aload_n 0, 1) := by decide +kernel
theorem dL_randomDesk_119 : decode cL_randomDesk 119 = .ok (.aload_n 1, 1) := by decide +kernel
theorem dL_randomDesk_120 : decode cL_randomDesk 120 = .ok (.ldc 131, 2) := by decide +kernel
theorem dL_randomDesk_122 : decode cL_randomDesk 122 = .ok (.iconst 2, 1) := by decide +kernel
theorem dL_randomDesk_123 : decode cL_randomDesk 123 = .ok (.newarray .int, 2) := by decide +kernel
theorem dL_randomDesk_125 : decode cL_randomDesk 125 = .ok (.dup, 1) := by decide +kernel
theorem dL_randomDesk_126 : decode cL_randomDesk 126 = .ok (.iconst 0, 1) := by decide +kernel
theorem dL_randomDesk_127 : decode cL_randomDesk 127 = .ok (.aload 5, 2) := by decide +kernel
theorem dL_randomDesk_129 : decode cL_randomDesk 129 = .ok (.iconst 0, 1) := by decide +kernel
theorem dL_randomDesk_130 : decode cL_randomDesk 130 = .ok (.iaload, 1) := by decide +kernel
theorem dL_randomDesk_131 : decode cL_randomDesk 131 = .ok (.iastore, 1) := by decide +kernel
theorem dL_randomDesk_132 : decode cL_randomDesk 132 = .ok (.dup, 1) := by decide +kernel
theorem dL_randomDesk_133 : decode cL_randomDesk 133 = .ok (.iconst 1, 1) := by decide +kernel
theorem dL_randomDesk_134 : decode cL_randomDesk 134 = .ok (.aload 5, 2) := by decide +kernel
theorem dL_randomDesk_136 : decode cL_randomDesk 136 = .ok (.iconst 1, 1) := by decide +kernel
theorem dL_randomDesk_137 : decode cL_randomDesk 137 = .ok (.iaload, 1) := by decide +kernel
theorem dL_randomDesk_138 : decode cL_randomDesk 138 = .ok (.iastore, 1) := by decide +kernel
theorem dL_randomDesk_139 : decode cL_randomDesk 139 = .ok (.invokestatic 132, 3) := by decide +kernel
theorem dL_randomDesk_142 : decode cL_randomDesk 142 = .ok (.aload_n 0, 1) := by decide +kernel
theorem dL_randomDesk_143 : decode cL_randomDesk 143 = .ok (.aload_n 1, 1) := by decide +kernel
theorem dL_randomDesk_144 : decode cL_randomDesk 144 = .ok (.ldc 136, 2) := by decide +kernel
theorem dL_randomDesk_146 : decode cL_randomDesk 146 = .ok (.invokestatic 104, 3) := by decide +kernel
theorem dL_randomDesk_149 : decode cL_randomDesk 149 = .ok (.iinc 4 (-1), 3) := by decide +kernel
theorem dL_randomDesk_152 : decode cL_randomDesk 152 = .ok (.goto (-130), 3) := by decide +kernel
theorem dL_randomDesk_155 : decode cL_randomDesk 155 = .ok (.aload_n 3, 1) := by decide +kernel
theorem dL_randomDesk_156 : decode cL_randomDesk 156 = .ok (.getfield 123, 3) := by decide +kernel
theorem dL_randomDesk_159 : decode cL_randomDesk 159 = .ok (.arraylength, 1) := by decide +kernel
theorem dL_randomDesk_160 : decode cL_randomDesk 160 = .ok (.istore 4, 2) := by decide +kernel
theorem dL_randomDesk_162 : decode cL_randomDesk 162 = .ok (.aload_n 2, 1) := by decide +kernel
theorem dL_randomDesk_163 : decode cL_randomDesk 163 = .ok (.iconst 4, 1) := by decide +kernel
theorem dL_randomDesk_164 : decode cL_randomDesk 164 = .ok (.invokevirtual 118, 3) := by decide +kernel
theorem dL_randomDesk_167 : decode cL_randomDesk 167 = .ok (.istore 5, 2) := by decide +kernel
theorem dL_randomDesk_169 : decode cL_randomDesk 169 = .ok (.iload 5, 2) := by decide +kernel
theorem dL_randomDesk_171 : decode cL_randomDesk 171 = .ok (.ifCond .le 215, 3) := by decide +kernel
theorem dL_randomDesk_174 : decode cL_randomDesk 174 = .ok (.aload_n 3, 1) := by decide +kernel
theorem dL_randomDesk_175 : decode cL_randomDesk 175 = .ok (.aload_n 3, 1) := by decide +kernel
theorem dL_randomDesk_176 : decode cL_randomDesk 176 = .ok (.getfield 138, 3) := by decide +kernel
theorem dL_randomDesk_179 : decode cL_randomDesk 179 = .ok (.iconst 3, 1) := by decide +kernel
theorem dL_randomDesk_180 : decode cL_randomDesk 180 = .ok (.newarray .int, 2) := by decide +kernel
theorem dL_randomDesk_182 : decode cL_randomDesk 182 = .ok (.dup, 1) := by decide +kernel
theorem dL_randomDesk_183 : decode cL_randomDesk 183 = .ok (.iconst 0, 1) := by decide +kernel
theorem dL_randomDesk_184 : decode cL_randomDesk 184 = .ok (.aload_n 2, 1) := by decide +kernel
theorem dL_randomDesk_185 : decode cL_randomDesk 185 = .ok (.aload_n 2, 1) := by decide +kernel
theorem dL_randomDesk_186 : decode cL_randomDesk 186 = .ok (.iconst 3, 1) := by decide +kernel
theorem dL_randomDesk_187 : decode cL_randomDesk 187 = .ok (.invokevirtual 118, 3) := by decide +kernel
theorem dL_randomDesk_190 : decode cL_randomDesk 190 = .ok (.ifCond .ne 8, 3) := by decide +kernel
theorem dL_randomDesk_193 : decode cL_randomDesk 193 = .ok (.bipush 100, 2) := by decide +kernel
theorem dL_randomDesk_195 : decode cL_randomDesk 195 = .ok (.goto 5, 3) := by decide +kernel
theorem dL_randomDesk_198 : decode cL_randomDesk 198 = .ok (.bipush 12, 2) := by decide +kernel
theorem dL_randomDesk_200 : decode cL_randomDesk 200 = .ok (.invokevirtual 118, 3) := by decide +kernel
theorem dL_randomDesk_203 : decode cL_randomDesk 203 = .ok (.iastore, 1) := by decide +kernel
theorem dL_randomDesk_204 : decode cL_randomDesk 204 = .ok (.dup, 1) := by decide +kernel
theorem dL_randomDesk_205 : decode cL_randomDesk 205 = .ok (.iconst 1, 1) := by decide +kernel
theorem dL_randomDesk_206 : decode cL_randomDesk 206 = .ok (.iconst 1, 1) := by decide +kernel
theorem dL_randomDesk_207 : decode cL_randomDesk 207 = .ok (.aload_n 2, 1) := by decide +kernel
theorem dL_randomDesk_208 : decode cL_randomDesk 208 = .ok (.aload_n 2, 1) := by decide +kernel
theorem dL_randomDesk_209 : decode cL_randomDesk 209 = .ok (.iconst 2, 1) := by decide +kernel
theorem dL_randomDesk_210 : decode cL_randomDesk 210 = .ok (.invokevirtual 118, 3) := by decide +kernel
theorem dL_randomDesk_213 : decode cL_randomDesk 213 = .ok (.ifCond .ne 8, 3) := by decide +kernel
theorem dL_randomDesk_216 : decode cL_randomDesk 216 = .ok (.bipush 20, 2) := by decide +kernel
theorem dL_randomDesk_218 : decode cL_randomDesk 218 = .ok (.goto 4, 3) := by decide +kernel
theorem dL_randomDesk_221 : decode cL_randomDesk 221 = .ok (.iconst 3, 1) := by decide +kernel
theorem dL_randomDesk_222 : decode cL_randomDesk 222 = .ok (.invokevirtual 118, 3) := by decide +kernel
theorem dL_randomDesk_225 : decode cL_randomDesk 225 = .ok (.iadd, 1) := by decide +kernel
theorem dL_randomDesk_226 : decode cL_randomDesk 226 = .ok (.iastore, 1) := by decide +kernel
theorem dL_randomDesk_227 : decode cL_randomDesk 227 = .ok (.dup, 1) := by decide +kernel
theorem dL_randomDesk_228 : decode cL_randomDesk 228 = .ok (.iconst 2, 1) := by decide +kernel
theorem dL_randomDesk_229 : decode cL_randomDesk 229 = .ok (.aload_n 2, 1) := by decide +kernel
theorem dL_randomDesk_230 : decode cL_randomDesk 230 = .ok (.aload_n 2, 1) := by decide +kernel
theorem dL_randomDesk_231 : decode cL_randomDesk 231 = .ok (.iconst 2, 1) := by decide +kernel
theorem dL_randomDesk_232 : decode cL_randomDesk 232 = .ok (.invokevirtual 118, 3) := by decide +kernel
theorem dL_randomDesk_235 : decode cL_randomDesk 235 = .ok (.ifCond .ne 9, 3) := by decide +kernel
theorem dL_randomDesk_238 : decode cL_randomDesk 238 = .ok (.sipush 1000, 3) := by decide +kernel
theorem dL_randomDesk_241 : decode cL_randomDesk 241 = .ok (.goto 5, 3) := by decide +kernel
theorem dL_randomDesk_244 : decode cL_randomDesk 244 = .ok (.bipush 30, 2) := by decide +kernel
theorem dL_randomDesk_246 : decode cL_randomDesk 246 = .ok (.invokevirtual 118, 3) := by decide +kernel
theorem dL_randomDesk_249 : decode cL_randomDesk 249 = .ok (.iastore, 1) := by decide +kernel
theorem dL_randomDesk_250 : decode cL_randomDesk 250 = .ok (.invokestatic 127, 3) := by decide +kernel
theorem dL_randomDesk_253 : decode cL_randomDesk 253 = .ok (.putfield 138, 3) := by decide +kernel
theorem dL_randomDesk_256 : decode cL_randomDesk 256 = .ok (.aload_n 3, 1) := by decide +kernel
theorem dL_randomDesk_257 : decode cL_randomDesk 257 = .ok (.getfield 138, 3) := by decide +kernel
theorem dL_randomDesk_260 : decode cL_randomDesk 260 = .ok (.aload_n 3, 1) := by decide +kernel
theorem dL_randomDesk_261 : decode cL_randomDesk 261 = .ok (.getfield 138, 3) := by decide +kernel
theorem dL_randomDesk_264 : decode cL_randomDesk 264 = .ok (.arraylength, 1) := by decide +kernel
theorem dL_randomDesk_265 : decode cL_randomDesk 265 = .ok (.iconst 1, 1) := by decide +kernel
theorem dL_randomDesk_266 : decode cL_randomDesk 266 = .ok (.isub, 1) := by decide +kernel
theorem dL_randomDesk_267 : decode cL_randomDesk 267 = .ok (.aaload, 1) := by decide +kernel
theorem dL_randomDesk_268 : decode cL_randomDesk 268 = .ok (.astore 6, 2) := by decide +kernel
theorem dL_randomDesk_270 : decode cL_randomDesk 270 = .ok (.aload_n 0, 1) := by decide +kernel
theorem dL_randomDesk_271 : decode cL_randomDesk 271 = .ok (.aload_n 1, 1) := by decide +kernel
theorem dL_randomDesk_272 : decode cL_randomDesk 272 = .ok (.ldc 141, 2) := by decide +kernel
theorem dL_randomDesk_274 : decode cL_randomDesk 274 = .ok (.aload 6, 2) := by decide +kernel
theorem dL_randomDesk_276 : decode cL_randomDesk 276 = .ok (.invokestatic 132, 3) := by decide +kernel
theorem dL_randomDesk_279 : decode cL_randomDesk 279 = .ok (.iload 4, 2) := by decide +kernel
theorem dL_randomDesk_281 : decode cL_randomDesk 281 = .ok (.ifCond .ne 7, 3) := by decide +kernel
theorem dL_randomDesk_284 : decode cL_randomDesk 284 = .ok (.iconst 0, 1) := by decide +kernel
theorem dL_randomDesk_285 : decode cL_randomDesk 285 = .ok (.goto 15, 3) := by decide +kernel
theorem dL_randomDesk_288 : decode cL_randomDesk 288 = .ok (.aload_n 2, 1) := by decide +kernel
theorem dL_randomDesk_289 : decode cL_randomDesk 289 = .ok (.iconst 3, 1) := by decide +kernel
theorem dL_randomDesk_290 : decode cL_randomDesk 290 = .ok (.iload 4, 2) := by decide +kernel
theorem dL_randomDesk_292 : decode cL_randomDesk 292 = .ok (.invokestatic 142, 3) := by decide +kernel
theorem dL_randomDesk_295 : decode cL_randomDesk 295 = .ok (.iconst 1, 1) := by decide +kernel
theorem dL_randomDesk_296 : decode cL_randomDesk 296 = .ok (.iadd, 1) := by decide +kernel
theorem dL_randomDesk_297 : decode cL_randomDesk 297 = .ok (.invokevirtual 118, 3) := by decide +kernel
theorem dL_randomDesk_300 : decode cL_randomDesk 300 = .ok (.newarray .int, 2) := by decide +kernel
theorem dL_randomDesk_302 : decode cL_randomDesk 302 = .ok (.astore 7, 2) := by decide +kernel
theorem dL_randomDesk_304 : decode cL_randomDesk 304 = .ok (.iload 4, 2) := by decide +kernel
theorem dL_randomDesk_306 : decode cL_randomDesk 306 = .ok (.ifCond .ne 7, 3) := by decide +kernel
theorem dL_randomDesk_309 : decode cL_randomDesk 309 = .ok (.iconst 0, 1) := by decide +kernel
theorem dL_randomDesk_310 : decode cL_randomDesk 310 = .ok (.goto 9, 3) := by decide +kernel
theorem dL_randomDesk_313 : decode cL_randomDesk 313 = .ok (.aload_n 2, 1) := by decide +kernel
theorem dL_randomDesk_314 : decode cL_randomDesk 314 = .ok (.iload 4, 2) := by decide +kernel
theorem dL_randomDesk_316 : decode cL_randomDesk 316 = .ok (.invokevirtual 118, 3) := by decide +kernel
theorem dL_randomDesk_319 : decode cL_randomDesk 319 = .ok (.istore 8, 2) := by decide +kernel
theorem dL_randomDesk_321 : decode cL_randomDesk 321 = .ok (.iconst 0, 1) := by decide +kernel
theorem dL_randomDesk_322 : decode cL_randomDesk 322 = .ok (.istore 9, 2) := by decide +kernel
theorem dL_randomDesk_324 : decode cL_randomDesk 324 = .ok (.iload 9, 2) := by decide +kernel
theorem dL_randomDesk_326 : decode cL_randomDesk 326 = .ok (.aload 7, 2) := by decide +kernel
theorem dL_randomDesk_328 : decode cL_randomDesk 328 = .ok (.arraylength, 1) := by decide +kernel
theorem dL_randomDesk_329 : decode cL_randomDesk 329 = .ok (.if_icmp .ge 22, 3) := by decide +kernel
theorem dL_randomDesk_332 : decode cL_randomDesk 332 = .ok (.aload 7, 2) := by decide +kernel
theorem dL_randomDesk_334 : decode cL_randomDesk 334 = .ok (.iload 9, 2) := by decide +kernel
theorem dL_randomDesk_336 : decode cL_randomDesk 336 = .ok (.iload 8, 2) := by decide +kernel
theorem dL_randomDesk_338 : decode cL_randomDesk 338 = .ok (.iload 9, 2) := by decide +kernel
theorem dL_randomDesk_340 : decode cL_randomDesk 340 = .ok (.iadd, 1) := by decide +kernel
theorem dL_randomDesk_341 : decode cL_randomDesk 341 = .ok (.iload 4, 2) := by decide +kernel
theorem dL_randomDesk_343 : decode cL_randomDesk 343 = .ok (.irem, 1) := by decide +kernel
theorem dL_randomDesk_344 : decode cL_randomDesk 344 = .ok (.iastore, 1) := by decide +kernel
theorem dL_randomDesk_345 : decode cL_randomDesk 345 = .ok (.iinc 9 1, 3) := by decide +kernel
theorem dL_randomDesk_348 : decode cL_randomDesk 348 = .ok (.goto (-24), 3) := by decide +kernel
theorem dL_randomDesk_351 : decode cL_randomDesk 351 = .ok (.aload_n 3, 1) := by decide +kernel
theorem dL_randomDesk_352 : decode cL_randomDesk 352 = .ok (.aload_n 3, 1) := by decide +kernel
theorem dL_randomDesk_353 : decode cL_randomDesk 353 = .ok (.getfield 147, 3) := by decide +kernel
theorem dL_randomDesk_356 : decode cL_randomDesk 356 = .ok (.aload 7, 2) := by decide +kernel
theorem dL_randomDesk_358 : decode cL_randomDesk 358 = .ok (.invokestatic 127, 3) := by decide +kernel
theorem dL_randomDesk_361 : decode cL_randomDesk 361 = .ok (.putfield 147, 3) := by decide +kernel
theorem dL_randomDesk_364 : decode cL_randomDesk 364 = .ok (.aload_n 0, 1) := by decide +kernel
theorem dL_randomDesk_365 : decode cL_randomDesk 365 = .ok (.aload_n 1, 1) := by decide +kernel
theorem dL_randomDesk_366 : decode cL_randomDesk 366 = .ok (.ldc 150, 2) := by decide +kernel
theorem dL_randomDesk_368 : decode cL_randomDesk 368 = .ok (.aload 7, 2) := by decide +kernel
theorem dL_randomDesk_370 : decode cL_randomDesk 370 = .ok (.invokestatic 132, 3) := by decide +kernel
theorem dL_randomDesk_373 : decode cL_randomDesk 373 = .ok (.aload_n 0, 1) := by decide +kernel
theorem dL_randomDesk_374 : decode cL_randomDesk 374 = .ok (.aload_n 1, 1) := by decide +kernel
theorem dL_randomDesk_375 : decode cL_randomDesk 375 = .ok (.ldc 136, 2) := by decide +kernel
theorem dL_randomDesk_377 : decode cL_randomDesk 377 = .ok (.invokestatic 104, 3) := by decide +kernel
theorem dL_randomDesk_380 : decode cL_randomDesk 380 = .ok (.iinc 5 (-1), 3) := by decide +kernel
theorem dL_randomDesk_383 : decode cL_randomDesk 383 = .ok (.goto (-214), 3) := by decide +kernel
theorem dL_randomDesk_386 : decode cL_randomDesk 386 = .ok (.aload_n 3, 1) := by decide +kernel
theorem dL_randomDesk_387 : decode cL_randomDesk 387 = .ok (.getfield 138, 3) := by decide +kernel
theorem dL_randomDesk_390 : decode cL_randomDesk 390 = .ok (.arraylength, 1) := by decide +kernel
theorem dL_randomDesk_391 : decode cL_randomDesk 391 = .ok (.ifCond .ne 7, 3) := by decide +kernel
theorem dL_randomDesk_394 : decode cL_randomDesk 394 = .ok (.iconst 0, 1) := by decide +kernel
theorem dL_randomDesk_395 : decode cL_randomDesk 395 = .ok (.goto 9, 3) := by decide +kernel
theorem dL_randomDesk_398 : decode cL_randomDesk 398 = .ok (.aload_n 2, 1) := by decide +kernel
theorem dL_randomDesk_399 : decode cL_randomDesk 399 = .ok (.bipush 10, 2) := by decide +kernel
theorem dL_randomDesk_401 : decode cL_randomDesk 401 = .ok (.invokevirtual 118, 3) := by decide +kernel
theorem dL_randomDesk_404 : decode cL_randomDesk 404 = .ok (.istore 5, 2) := by decide +kernel
theorem dL_randomDesk_406 : decode cL_randomDesk 406 = .ok (.iload 5, 2) := by decide +kernel
theorem dL_randomDesk_408 : decode cL_randomDesk 408 = .ok (.ifCond .le 156, 3) := by decide +kernel
theorem dL_randomDesk_411 : decode cL_randomDesk 411 = .ok (.aload_n 3, 1) := by decide +kernel
theorem dL_randomDesk_412 : decode cL_randomDesk 412 = .ok (.aload_n 3, 1) := by decide +kernel
theorem dL_randomDesk_413 : decode cL_randomDesk 413 = .ok (.getfield 152, 3) := by decide +kernel
theorem dL_randomDesk_416 : decode cL_randomDesk 416 = .ok (.bipush 8, 2) := by decide +kernel
theorem dL_randomDesk_418 : decode cL_randomDesk 418 = .ok (.newarray .int, 2) := by decide +kernel
theorem dL_randomDesk_420 : decode cL_randomDesk 420 = .ok (.dup, 1) := by decide +kernel
theorem dL_randomDesk_421 : decode cL_randomDesk 421 = .ok (.iconst 0, 1) := by decide +kernel
theorem dL_randomDesk_422 : decode cL_randomDesk 422 = .ok (.aload_n 2, 1) := by decide +kernel
theorem dL_randomDesk_423 : decode cL_randomDesk 423 = .ok (.aload_n 3, 1) := by decide +kernel
theorem dL_randomDesk_424 : decode cL_randomDesk 424 = .ok (.getfield 138, 3) := by decide +kernel
theorem dL_randomDesk_427 : decode cL_randomDesk 427 = .ok (.arraylength, 1) := by decide +kernel
theorem dL_randomDesk_428 : decode cL_randomDesk 428 = .ok (.invokevirtual 118, 3) := by decide +kernel
theorem dL_randomDesk_431 : decode cL_randomDesk 431 = .ok (.iastore, 1) := by decide +kernel
theorem dL_randomDesk_432 : decode cL_randomDesk 432 = .ok (.dup, 1) := by decide +kernel
theorem dL_randomDesk_433 : decode cL_randomDesk 433 = .ok (.iconst 1, 1) := by decide +kernel
theorem dL_randomDesk_434 : decode cL_randomDesk 434 = .ok (.aload_n 2, 1) := by decide +kernel
theorem dL_randomDesk_435 : decode cL_randomDesk 435 = .ok (.aload_n 2, 1) := by decide +kernel
theorem dL_randomDesk_436 : decode cL_randomDesk 436 = .ok (.iconst 4, 1) := by decide +kernel
theorem dL_randomDesk_437 : decode cL_randomDesk 437 = .ok (.invokevirtual 118, 3) := by decide +kernel
theorem dL_randomDesk_440 : decode cL_randomDesk 440 = .ok (.ifCond .ne 8, 3) := by decide +kernel
theorem dL_randomDesk_443 : decode cL_randomDesk 443 = .ok (.bipush 60, 2) := by decide +kernel
theorem dL_randomDesk_445 : decode cL_randomDesk 445 = .ok (.goto 5, 3) := by decide +kernel
theorem dL_randomDesk_448 : decode cL_randomDesk 448 = .ok (.bipush 8, 2) := by decide +kernel
theorem dL_randomDesk_450 : decode cL_randomDesk 450 = .ok (.invokevirtual 118, 3) := by decide +kernel
theorem dL_randomDesk_453 : decode cL_randomDesk 453 = .ok (.iastore, 1) := by decide +kernel
theorem dL_randomDesk_454 : decode cL_randomDesk 454 = .ok (.dup, 1) := by decide +kernel
theorem dL_randomDesk_455 : decode cL_randomDesk 455 = .ok (.iconst 2, 1) := by decide +kernel
theorem dL_randomDesk_456 : decode cL_randomDesk 456 = .ok (.iconst 1, 1) := by decide +kernel
theorem dL_randomDesk_457 : decode cL_randomDesk 457 = .ok (.aload_n 2, 1) := by decide +kernel
theorem dL_randomDesk_458 : decode cL_randomDesk 458 = .ok (.aload_n 2, 1) := by decide +kernel
theorem dL_randomDesk_459 : decode cL_randomDesk 459 = .ok (.iconst 3, 1) := by decide +kernel
theorem dL_randomDesk_460 : decode cL_randomDesk 460 = .ok (.invokevirtual 118, 3) := by decide +kernel
theorem dL_randomDesk_463 : decode cL_randomDesk 463 = .ok (.ifCond .ne 8, 3) := by decide +kernel
theorem dL_randomDesk_466 : decode cL_randomDesk 466 = .ok (.bipush 99, 2) := by decide +kernel
theorem dL_randomDesk_468 : decode cL_randomDesk 468 = .ok (.goto 5, 3) := by decide +kernel
theorem dL_randomDesk_471 : decode cL_randomDesk 471 = .ok (.bipush 20, 2) := by decide +kernel
theorem dL_randomDesk_473 : decode cL_randomDesk 473 = .ok (.invokevirtual 118, 3) := by decide +kernel
theorem dL_randomDesk_476 : decode cL_randomDesk 476 = .ok (.iadd, 1) := by decide +kernel
theorem dL_randomDesk_477 : decode cL_randomDesk 477 = .ok (.iastore, 1) := by decide +kernel
theorem dL_randomDesk_478 : decode cL_randomDesk 478 = .ok (.dup, 1) := by decide +kernel
theorem dL_randomDesk_479 : decode cL_randomDesk 479 = .ok (.iconst 3, 1) := by decide +kernel
theorem dL_randomDesk_480 : decode cL_randomDesk 480 = .ok (.iconst 0, 1) := by decide +kernel
theorem dL_randomDesk_481 : decode cL_randomDesk 481 = .ok (.iastore, 1) := by decide +kernel
theorem dL_randomDesk_482 : decode cL_randomDesk 482 = .ok (.dup, 1) := by decide +kernel
theorem dL_randomDesk_483 : decode cL_randomDesk 483 = .ok (.iconst 4, 1) := by decide +kernel
theorem dL_randomDesk_484 : decode cL_randomDesk 484 = .ok (.iconst (-1), 1) := by decide +kernel
theorem dL_randomDesk_485 : decode cL_randomDesk 485 = .ok (.iastore, 1) := by decide +kernel
theorem dL_randomDesk_486 : decode cL_randomDesk 486 = .ok (.dup, 1) := by decide +kernel
theorem dL_randomDesk_487 : decode cL_randomDesk 487 = .ok (.iconst 5, 1) := by decide +kernel
theorem dL_randomDesk_488 : decode cL_randomDesk 488 = .ok (.iconst 0, 1) := by decide +kernel
theorem dL_randomDesk_489 : decode cL_randomDesk 489 = .ok (.iastore, 1) := by decide +kernel
theorem dL_randomDesk_490 : decode cL_randomDesk 490 = .ok (.dup, 1) := by decide +kernel
theorem dL_randomDesk_491 : decode cL_randomDesk 491 = .ok (.bipush 6, 2) := by decide +kernel
theorem dL_randomDesk_493 : decode cL_randomDesk 493 = .ok (.iconst (-1), 1) := by decide +kernel
theorem dL_randomDesk_494 : decode cL_randomDesk 494 = .ok (.iastore, 1) := by decide +kernel
theorem dL_randomDesk_495 : decode cL_randomDesk 495 = .ok (.dup, 1) := by decide +kernel
theorem dL_randomDesk_496 : decode cL_randomDesk 496 = .ok (.bipush 7, 2) := by decide +kernel
theorem dL_randomDesk_498 : decode cL_randomDesk 498 = .ok (.iconst 0, 1) := by decide +kernel
theorem dL_randomDesk_499 : decode cL_randomDesk 499 = .ok (.iastore, 1) := by decide +kernel
theorem dL_randomDesk_500 : decode cL_randomDesk 500 = .ok (.invokestatic 127, 3) := by decide +kernel
theorem dL_randomDesk_503 : decode cL_randomDesk 503 = .ok (.putfield 152, 3) := by decide +kernel
theorem dL_randomDesk_506 : decode cL_randomDesk 506 = .ok (.aload_n 3, 1) := by decide +kernel
theorem dL_randomDesk_507 : decode cL_randomDesk 507 = .ok (.getfield 152, 3) := by decide +kernel
theorem dL_randomDesk_510 : decode cL_randomDesk 510 = .ok (.aload_n 3, 1) := by decide +kernel
theorem dL_randomDesk_511 : decode cL_randomDesk 511 = .ok (.getfield 152, 3) := by decide +kernel
theorem dL_randomDesk_514 : decode cL_randomDesk 514 = .ok (.arraylength, 1) := by decide +kernel
theorem dL_randomDesk_515 : decode cL_randomDesk 515 = .ok (.iconst 1, 1) := by decide +kernel
theorem dL_randomDesk_516 : decode cL_randomDesk 516 = .ok (.isub, 1) := by decide +kernel
theorem dL_randomDesk_517 : decode cL_randomDesk 517 = .ok (.aaload, 1) := by decide +kernel
theorem dL_randomDesk_518 : decode cL_randomDesk 518 = .ok (.astore 6, 2) := by decide +kernel
theorem dL_randomDesk_520 : decode cL_randomDesk 520 = .ok (.aload_n 0, 1) := by decide +kernel
theorem dL_randomDesk_521 : decode cL_randomDesk 521 = .ok (.aload_n 1, 1) := by decide +kernel
theorem dL_randomDesk_522 : decode cL_randomDesk 522 = .ok (.ldc 155, 2) := by decide +kernel
theorem dL_randomDesk_524 : decode cL_randomDesk 524 = .ok (.iconst 3, 1) := by decide +kernel
theorem dL_randomDesk_525 : decode cL_randomDesk 525 = .ok (.newarray .int, 2) := by decide +kernel
theorem dL_randomDesk_527 : decode cL_randomDesk 527 = .ok (.dup, 1) := by decide +kernel
theorem dL_randomDesk_528 : decode cL_randomDesk 528 = .ok (.iconst 0, 1) := by decide +kernel
theorem dL_randomDesk_529 : decode cL_randomDesk 529 = .ok (.aload 6, 2) := by decide +kernel
theorem dL_randomDesk_531 : decode cL_randomDesk 531 = .ok (.iconst 0, 1) := by decide +kernel
theorem dL_randomDesk_532 : decode cL_randomDesk 532 = .ok (.iaload, 1) := by decide +kernel
theorem dL_randomDesk_533 : decode cL_randomDesk 533 = .ok (.iastore, 1) := by decide +kernel
theorem dL_randomDesk_534 : decode cL_randomDesk 534 = .ok (.dup, 1) := by decide +kernel
theorem dL_randomDesk_535 : decode cL_randomDesk 535 = .ok (.iconst 1, 1) := by decide +kernel
theorem dL_randomDesk_536 : decode cL_randomDesk 536 = .ok (.aload 6, 2) := by decide +kernel
theorem dL_randomDesk_538 : decode cL_randomDesk 538 = .ok (.iconst 1, 1) := by decide +kernel
theorem dL_randomDesk_539 : decode cL_randomDesk 539 = .ok (.iaload, 1) := by decide +kernel
theorem dL_randomDesk_540 : decode cL_randomDesk 540 = .ok (.iastore, 1) := by decide +kernel
theorem dL_randomDesk_541 : decode cL_randomDesk 541 = .ok (.dup, 1) := by decide +kernel
theorem dL_randomDesk_542 : decode cL_randomDesk 542 = .ok (.iconst 2, 1) := by decide +kernel
theorem dL_randomDesk_543 : decode cL_randomDesk 543 = .ok (.aload 6, 2) := by decide +kernel
theorem dL_randomDesk_545 : decode cL_randomDesk 545 = .ok (.iconst 2, 1) := by decide +kernel
theorem dL_randomDesk_546 : decode cL_randomDesk 546 = .ok (.iaload, 1) := by decide +kernel
theorem dL_randomDesk_547 : decode cL_randomDesk 547 = .ok (.iastore, 1) := by decide +kernel
theorem dL_randomDesk_548 : decode cL_randomDesk 548 = .ok (.invokestatic 132, 3) := by decide +kernel
theorem dL_randomDesk_551 : decode cL_randomDesk 551 = .ok (.aload_n 0, 1) := by decide +kernel
theorem dL_randomDesk_552 : decode cL_randomDesk 552 = .ok (.aload_n 1, 1) := by decide +kernel
theorem dL_randomDesk_553 : decode cL_randomDesk 553 = .ok (.ldc 136, 2) := by decide +kernel
theorem dL_randomDesk_555 : decode cL_randomDesk 555 = .ok (.invokestatic 104, 3) := by decide +kernel
theorem dL_randomDesk_558 : decode cL_randomDesk 558 = .ok (.iinc 5 (-1), 3) := by decide +kernel
theorem dL_randomDesk_561 : decode cL_randomDesk 561 = .ok (.goto (-155), 3) := by decide +kernel
theorem dL_randomDesk_564 : decode cL_randomDesk 564 = .ok (.aload_n 3, 1) := by decide +kernel
theorem dL_randomDesk_565 : decode cL_randomDesk 565 = .ok (.iconst 5, 1) := by decide +kernel
theorem dL_randomDesk_566 : decode cL_randomDesk 566 = .ok (.newarray .int, 2) := by decide +kernel
theorem dL_randomDesk_568 : decode cL_randomDesk 568 = .ok (.dup, 1) := by decide +kernel
theorem dL_randomDesk_569 : decode cL_randomDesk 569 = .ok (.iconst 0, 1) := by decide +kernel
theorem dL_randomDesk_570 : decode cL_randomDesk 570 = .ok (.iconst 5, 1) := by decide +kernel
theorem dL_randomDesk_571 : decode cL_randomDesk 571 = .ok (.iastore, 1) := by decide +kernel
theorem dL_randomDesk_572 : decode cL_randomDesk 572 = .ok (.dup, 1) := by decide +kernel
theorem dL_randomDesk_573 : decode cL_randomDesk 573 = .ok (.iconst 1, 1) := by decide +kernel
theorem dL_randomDesk_574 : decode cL_randomDesk 574 = .ok (.bipush 10, 2) := by decide +kernel
theorem dL_randomDesk_576 : decode cL_randomDesk 576 = .ok (.iastore, 1) := by decide +kernel
theorem dL_randomDesk_577 : decode cL_randomDesk 577 = .ok (.dup, 1) := by decide +kernel
theorem dL_randomDesk_578 : decode cL_randomDesk 578 = .ok (.iconst 2, 1) := by decide +kernel
theorem dL_randomDesk_579 : decode cL_randomDesk 579 = .ok (.bipush 10, 2) := by decide +kernel
theorem dL_randomDesk_581 : decode cL_randomDesk 581 = .ok (.iastore, 1) := by decide +kernel
theorem dL_randomDesk_582 : decode cL_randomDesk 582 = .ok (.dup, 1) := by decide +kernel
theorem dL_randomDesk_583 : decode cL_randomDesk 583 = .ok (.iconst 3, 1) := by decide +kernel
theorem dL_randomDesk_584 : decode cL_randomDesk 584 = .ok (.bipush 10, 2) := by decide +kernel
theorem dL_randomDesk_586 : decode cL_randomDesk 586 = .ok (.iastore, 1) := by decide +kernel
theorem dL_randomDesk_587 : decode cL_randomDesk 587 = .ok (.dup, 1) := by decide +kernel
theorem dL_randomDesk_588 : decode cL_randomDesk 588 = .ok (.iconst 4, 1) := by decide +kernel
theorem dL_randomDesk_589 : decode cL_randomDesk 589 = .ok (.iconst 1, 1) := by decide +kernel
theorem dL_randomDesk_590 : decode cL_randomDesk 590 = .ok (.iastore, 1) := by decide +kernel
theorem dL_randomDesk_591 : decode cL_randomDesk 591 = .ok (.putfield 156, 3) := by decide +kernel
theorem dL_randomDesk_594 : decode cL_randomDesk 594 = .ok (.iconst 0, 1) := by decide +kernel
theorem dL_randomDesk_595 : decode cL_randomDesk 595 = .ok (.istore 5, 2) := by decide +kernel
theorem dL_randomDesk_597 : decode cL_randomDesk 597 = .ok (.iload 5, 2) := by decide +kernel
theorem dL_randomDesk_599 : decode cL_randomDesk 599 = .ok (.iconst 5, 1) := by decide +kernel
theorem dL_randomDesk_600 : decode cL_randomDesk 600 = .ok (.if_icmp .ge 78, 3) := by decide +kernel
theorem dL_randomDesk_603 : decode cL_randomDesk 603 = .ok (.aload_n 2, 1) := by decide +kernel
theorem dL_randomDesk_604 : decode cL_randomDesk 604 = .ok (.iconst 2, 1) := by decide +kernel
theorem dL_randomDesk_605 : decode cL_randomDesk 605 = .ok (.invokevirtual 118, 3) := by decide +kernel
theorem dL_randomDesk_608 : decode cL_randomDesk 608 = .ok (.ifCond .ne 6, 3) := by decide +kernel
theorem dL_randomDesk_611 : decode cL_randomDesk 611 = .ok (.goto 61, 3) := by decide +kernel
theorem dL_randomDesk_614 : decode cL_randomDesk 614 = .ok (.aload_n 3, 1) := by decide +kernel
theorem dL_randomDesk_615 : decode cL_randomDesk 615 = .ok (.getfield 156, 3) := by decide +kernel
theorem dL_randomDesk_618 : decode cL_randomDesk 618 = .ok (.iload 5, 2) := by decide +kernel
theorem dL_randomDesk_620 : decode cL_randomDesk 620 = .ok (.iconst 1, 1) := by decide +kernel
theorem dL_randomDesk_621 : decode cL_randomDesk 621 = .ok (.aload_n 2, 1) := by decide +kernel
theorem dL_randomDesk_622 : decode cL_randomDesk 622 = .ok (.aload_n 2, 1) := by decide +kernel
theorem dL_randomDesk_623 : decode cL_randomDesk 623 = .ok (.iconst 3, 1) := by decide +kernel
theorem dL_randomDesk_624 : decode cL_randomDesk 624 = .ok (.invokevirtual 118, 3) := by decide +kernel
theorem dL_randomDesk_627 : decode cL_randomDesk 627 = .ok (.ifCond .ne 8, 3) := by decide +kernel
theorem dL_randomDesk_630 : decode cL_randomDesk 630 = .ok (.bipush 20, 2) := by decide +kernel
theorem dL_randomDesk_632 : decode cL_randomDesk 632 = .ok (.goto 4, 3) := by decide +kernel
theorem dL_randomDesk_635 : decode cL_randomDesk 635 = .ok (.iconst 5, 1) := by decide +kernel
theorem dL_randomDesk_636 : decode cL_randomDesk 636 = .ok (.invokevirtual 118, 3) := by decide +kernel
theorem dL_randomDesk_639 : decode cL_randomDesk 639 = .ok (.iadd, 1) := by decide +kernel
theorem dL_randomDesk_640 : decode cL_randomDesk 640 = .ok (.iastore, 1) := by decide +kernel
theorem dL_randomDesk_641 : decode cL_randomDesk 641 = .ok (.aload_n 0, 1) := by decide +kernel
theorem dL_randomDesk_642 : decode cL_randomDesk 642 = .ok (.aload_n 1, 1) := by decide +kernel
theorem dL_randomDesk_643 : decode cL_randomDesk 643 = .ok (.getstatic 159, 3) := by decide +kernel
theorem dL_randomDesk_646 : decode cL_randomDesk 646 = .ok (.iload 5, 2) := by decide +kernel
theorem dL_randomDesk_648 : decode cL_randomDesk 648 = .ok (.aaload, 1) := by decide +kernel
theorem dL_randomDesk_649 : decode cL_randomDesk 649 = .ok (.iconst 1, 1) := by decide +kernel
theorem dL_randomDesk_650 : decode cL_randomDesk 650 = .ok (.newarray .int, 2) := by decide +kernel
theorem dL_randomDesk_652 : decode cL_randomDesk 652 = .ok (.dup, 1) := by decide +kernel
theorem dL_randomDesk_653 : decode cL_randomDesk 653 = .ok (.iconst 0, 1) := by decide +kernel
theorem dL_randomDesk_654 : decode cL_randomDesk 654 = .ok (.aload_n 3, 1) := by decide +kernel
theorem dL_randomDesk_655 : decode cL_randomDesk 655 = .ok (.getfield 156, 3) := by decide +kernel
theorem dL_randomDesk_658 : decode cL_randomDesk 658 = .ok (.iload 5, 2) := by decide +kernel
theorem dL_randomDesk_660 : decode cL_randomDesk 660 = .ok (.iaload, 1) := by decide +kernel
theorem dL_randomDesk_661 : decode cL_randomDesk 661 = .ok (.iastore, 1) := by decide +kernel
theorem dL_randomDesk_662 : decode cL_randomDesk 662 = .ok (.invokestatic 132, 3) := by decide +kernel
theorem dL_randomDesk_665 : decode cL_randomDesk 665 = .ok (.aload_n 0, 1) := by decide +kernel
theorem dL_randomDesk_666 : decode cL_randomDesk 666 = .ok (.aload_n 1, 1) := by decide +kernel
theorem dL_randomDesk_667 : decode cL_randomDesk 667 = .ok (.ldc 136, 2) := by decide +kernel
theorem dL_randomDesk_669 : decode cL_randomDesk 669 = .ok (.invokestatic 104, 3) := by decide +kernel
theorem dL_randomDesk_672 : decode cL_randomDesk 672 = .ok (.iinc 5 1, 3) := by decide +kernel
theorem dL_randomDesk_675 : decode cL_randomDesk 675 = .ok (.goto (-78), 3) := by decide +kernel
theorem dL_randomDesk_678 : decode cL_randomDesk 678 = .ok (.aload_n 2, 1) := by decide +kernel
theorem dL_randomDesk_679 : decode cL_randomDesk 679 = .ok (.iconst 2, 1) := by decide +kernel
theorem dL_randomDesk_680 : decode cL_randomDesk 680 = .ok (.invokevirtual 118, 3) := by decide +kernel
theorem dL_randomDesk_683 : decode cL_randomDesk 683 = .ok (.ifCond .ne 43, 3) := by decide +kernel
theorem dL_randomDesk_686 : decode cL_randomDesk 686 = .ok (.aload_n 3, 1) := by decide +kernel
theorem dL_randomDesk_687 : decode cL_randomDesk 687 = .ok (.aload_n 2, 1) := by decide +kernel
theorem dL_randomDesk_688 : decode cL_randomDesk 688 = .ok (.aload_n 2, 1) := by decide +kernel
theorem dL_randomDesk_689 : decode cL_randomDesk 689 = .ok (.iconst 3, 1) := by decide +kernel
theorem dL_randomDesk_690 : decode cL_randomDesk 690 = .ok (.invokevirtual 118, 3) := by decide +kernel
theorem dL_randomDesk_693 : decode cL_randomDesk 693 = .ok (.invokestatic 163, 3) := by decide +kernel
theorem dL_randomDesk_696 : decode cL_randomDesk 696 = .ok (.putfield 169, 3) := by decide +kernel
theorem dL_randomDesk_699 : decode cL_randomDesk 699 = .ok (.aload_n 0, 1) := by decide +kernel
theorem dL_randomDesk_700 : decode cL_randomDesk 700 = .ok (.aload_n 1, 1) := by decide +kernel
theorem dL_randomDesk_701 : decode cL_randomDesk 701 = .ok (.ldc 173, 2) := by decide +kernel
theorem dL_randomDesk_703 : decode cL_randomDesk 703 = .ok (.invokestatic 104, 3) := by decide +kernel
theorem dL_randomDesk_706 : decode cL_randomDesk 706 = .ok (.aload_n 0, 1) := by decide +kernel
theorem dL_randomDesk_707 : decode cL_randomDesk 707 = .ok (.aload_n 1, 1) := by decide +kernel
theorem dL_randomDesk_708 : decode cL_randomDesk 708 = .ok (.aload_n 3, 1) := by decide +kernel
theorem dL_randomDesk_709 : decode cL_randomDesk 709 = .ok (.getfield 169, 3) := by decide +kernel
theorem dL_randomDesk_712 : decode cL_randomDesk 712 = .ok (.iconst 0, 1) := by decide +kernel
theorem dL_randomDesk_713 : decode cL_randomDesk 713 = .ok (.invokevirtual 175, 3) := by decide +kernel
theorem dL_randomDesk_716 : decode cL_randomDesk 716 = .ok (.invokestatic 104, 3) := by decide +kernel
theorem dL_randomDesk_719 : decode cL_randomDesk 719 = .ok (.aload_n 0, 1) := by decide +kernel
theorem dL_randomDesk_720 : decode cL_randomDesk 720 = .ok (.aload_n 1, 1) := by decide +kernel
theorem dL_randomDesk_721 : decode cL_randomDesk 721 = .ok (.ldc 179, 2) := by decide +kernel
theorem dL_randomDesk_723 : decode cL_randomDesk 723 = .ok (.invokestatic 104, 3) := by decide +kernel
theorem dL_randomDesk_726 : decode cL_randomDesk 726 = .ok (.aload_n 0, 1) := by decide +kernel
theorem dL_randomDesk_727 : decode cL_randomDesk 727 = .ok (.aload_n 1, 1) := by decide +kernel
theorem dL_randomDesk_728 : decode cL_randomDesk 728 = .ok (.invokestatic 181, 3) := by decide +kernel
theorem dL_randomDesk_731 : decode cL_randomDesk 731 = .ok (.aload_n 3, 1) := by decide +kernel
theorem dL_randomDesk_732 : decode cL_randomDesk 732 = .ok (.getfield 152, 3) := by decide +kernel
theorem dL_randomDesk_735 : decode cL_randomDesk 735 = .ok (.arraylength, 1) := by decide +kernel
theorem dL_randomDesk_736 : decode cL_randomDesk 736 = .ok (.if_icmp .ne 7, 3) := by decide +kernel
theorem dL_randomDesk_739 : decode cL_randomDesk 739 = .ok (.aload_n 3, 1) := by decide +kernel
theorem dL_randomDesk_740 : decode cL_randomDesk 740 = .ok (.goto 4, 3) := by decide +kernel
theorem dL_randomDesk_743 : decode cL_randomDesk 743 = .ok (.aconst_null, 1) := by decide +kernel
theorem dL_randomDesk_744 : decode cL_randomDesk 744 = .ok (.areturn, 1) := by decide +kernel
theorem dL_agrees_0 : decode cL_agrees 0 = .ok (.aload_n 0, 1) := by decide +kernel
theorem dL_agrees_1 : decode cL_agrees 1 = .ok (.invokevirtual 185, 3) := by decide +kernel
theorem dL_agrees_4 : decode cL_agrees 4 = .ok (.aload_n 1, 1) := by decide +kernel
theorem dL_agrees_5 : decode cL_agrees 5 = .ok (.invokevirtual 189, 3) := by decide +kernel
theorem dL_agrees_8 : decode cL_agrees 8 = .ok (.lcmp, 1) := by decide +kernel
theorem dL_agrees_9 : decode cL_agrees 9 = .ok (.ifCond .ne 18, 3) := by decide +kernel
theorem dL_agrees_12 : decode cL_agrees 12 = .ok (.aload_n 0, 1) := by decide +kernel
theorem dL_agrees_13 : decode cL_agrees 13 = .ok (.bipush 10, 2) := by decide +kernel
theorem dL_agrees_15 : decode cL_agrees 15 = .ok (.invokestatic 190, 3) := by decide +kernel
theorem dL_agrees_18 : decode cL_agrees 18 = .ok (.ldc 42, 2) := by decide +kernel
theorem dL_agrees_20 : decode cL_agrees 20 = .ok (.if_icmp .ne 7, 3) := by decide +kernel
theorem dL_agrees_23 : decode cL_agrees 23 = .ok (.iconst 1, 1) := by decide +kernel
theorem dL_agrees_24 : decode cL_agrees 24 = .ok (.goto 4, 3) := by decide +kernel
theorem dL_agrees_27 : decode cL_agrees 27 = .ok (.iconst 0, 1) := by decide +kernel
theorem dL_agrees_28 : decode cL_agrees 28 = .ok (.istore_n 2, 1) := by decide +kernel
theorem dL_agrees_29 : decode cL_agrees 29 = .ok (.iconst 0, 1) := by decide +kernel
theorem dL_agrees_30 : decode cL_agrees 30 = .ok (.istore_n 3, 1) := by decide +kernel
theorem dL_agrees_31 : decode cL_agrees 31 = .ok (.iload_n 3, 1) := by decide +kernel
theorem dL_agrees_32 : decode cL_agrees 32 = .ok (.bipush 10, 2) := by decide +kernel
theorem dL_agrees_34 : decode cL_agrees 34 = .ok (.if_icmp .ge 32, 3) := by decide +kernel
theorem dL_agrees_37 : decode cL_agrees 37 = .ok (.iload_n 2, 1) := by decide +kernel
theorem dL_agrees_38 : decode cL_agrees 38 = .ok (.ifCond .eq 28, 3) := by decide +kernel
theorem dL_agrees_41 : decode cL_agrees 41 = .ok (.aload_n 0, 1) := by decide +kernel
theorem dL_agrees_42 : decode cL_agrees 42 = .ok (.iload_n 3, 1) := by decide +kernel
theorem dL_agrees_43 : decode cL_agrees 43 = .ok (.invokestatic 190, 3) := by decide +kernel
theorem dL_agrees_46 : decode cL_agrees 46 = .ok (.aload_n 1, 1) := by decide +kernel
theorem dL_agrees_47 : decode cL_agrees 47 = .ok (.iload_n 3, 1) := by decide +kernel
theorem dL_agrees_48 : decode cL_agrees 48 = .ok (.invokevirtual 192, 3) := by decide +kernel
theorem dL_agrees_51 : decode cL_agrees 51 = .ok (.if_icmp .ne 7, 3) := by decide +kernel
theorem dL_agrees_54 : decode cL_agrees 54 = .ok (.iconst 1, 1) := by decide +kernel
theorem dL_agrees_55 : decode cL_agrees 55 = .ok (.goto 4, 3) := by decide +kernel
theorem dL_agrees_58 : decode cL_agrees 58 = .ok (.iconst 0, 1) := by decide +kernel
theorem dL_agrees_59 : decode cL_agrees 59 = .ok (.istore_n 2, 1) := by decide +kernel
theorem dL_agrees_60 : decode cL_agrees 60 = .ok (.iinc 3 1, 3) := by decide +kernel
theorem dL_agrees_63 : decode cL_agrees 63 = .ok (.goto (-32), 3) := by decide +kernel
theorem dL_agrees_66 : decode cL_agrees 66 = .ok (.iconst 0, 1) := by decide +kernel
theorem dL_agrees_67 : decode cL_agrees 67 = .ok (.istore_n 3, 1) := by decide +kernel
theorem dL_agrees_68 : decode cL_agrees 68 = .ok (.iload_n 3, 1) := by decide +kernel
theorem dL_agrees_69 : decode cL_agrees 69 = .ok (.aload_n 1, 1) := by decide +kernel
theorem dL_agrees_70 : decode cL_agrees 70 = .ok (.getfield 123, 3) := by decide +kernel
theorem dL_agrees_73 : decode cL_agrees 73 = .ok (.arraylength, 1) := by decide +kernel
theorem dL_agrees_74 : decode cL_agrees 74 = .ok (.if_icmp .ge 56, 3) := by decide +kernel
theorem dL_agrees_77 : decode cL_agrees 77 = .ok (.iload_n 2, 1) := by decide +kernel
theorem dL_agrees_78 : decode cL_agrees 78 = .ok (.ifCond .eq 52, 3) := by decide +kernel
theorem dL_agrees_81 : decode cL_agrees 81 = .ok (.iconst 0, 1) := by decide +kernel
theorem dL_agrees_82 : decode cL_agrees 82 = .ok (.istore 4, 2) := by decide +kernel
theorem dL_agrees_84 : decode cL_agrees 84 = .ok (.iload 4, 2) := by decide +kernel
theorem dL_agrees_86 : decode cL_agrees 86 = .ok (.bipush 8, 2) := by decide +kernel
theorem dL_agrees_88 : decode cL_agrees 88 = .ok (.if_icmp .ge 36, 3) := by decide +kernel
theorem dL_agrees_91 : decode cL_agrees 91 = .ok (.iload_n 2, 1) := by decide +kernel
theorem dL_agrees_92 : decode cL_agrees 92 = .ok (.ifCond .eq 32, 3) := by decide +kernel
theorem dL_agrees_95 : decode cL_agrees 95 = .ok (.aload_n 0, 1) := by decide +kernel
theorem dL_agrees_96 : decode cL_agrees 96 = .ok (.iload_n 3, 1) := by decide +kernel
theorem dL_agrees_97 : decode cL_agrees 97 = .ok (.iload 4, 2) := by decide +kernel
theorem dL_agrees_99 : decode cL_agrees 99 = .ok (.invokestatic 195, 3) := by decide +kernel
theorem dL_agrees_102 : decode cL_agrees 102 = .ok (.aload_n 1, 1) := by decide +kernel
theorem dL_agrees_103 : decode cL_agrees 103 = .ok (.iload_n 3, 1) := by decide +kernel
theorem dL_agrees_104 : decode cL_agrees 104 = .ok (.iload 4, 2) := by decide +kernel
theorem dL_agrees_106 : decode cL_agrees 106 = .ok (.invokevirtual 198, 3) := by decide +kernel
theorem dL_agrees_109 : decode cL_agrees 109 = .ok (.if_icmp .ne 7, 3) := by decide +kernel
theorem dL_agrees_112 : decode cL_agrees 112 = .ok (.iconst 1, 1) := by decide +kernel
theorem dL_agrees_113 : decode cL_agrees 113 = .ok (.goto 4, 3) := by decide +kernel
theorem dL_agrees_116 : decode cL_agrees 116 = .ok (.iconst 0, 1) := by decide +kernel
theorem dL_agrees_117 : decode cL_agrees 117 = .ok (.istore_n 2, 1) := by decide +kernel
theorem dL_agrees_118 : decode cL_agrees 118 = .ok (.iinc 4 1, 3) := by decide +kernel
theorem dL_agrees_121 : decode cL_agrees 121 = .ok (.goto (-37), 3) := by decide +kernel
theorem dL_agrees_124 : decode cL_agrees 124 = .ok (.iinc 3 1, 3) := by decide +kernel
theorem dL_agrees_127 : decode cL_agrees 127 = .ok (.goto (-59), 3) := by decide +kernel
theorem dL_agrees_130 : decode cL_agrees 130 = .ok (.iconst 0, 1) := by decide +kernel
theorem dL_agrees_131 : decode cL_agrees 131 = .ok (.istore_n 3, 1) := by decide +kernel
theorem dL_agrees_132 : decode cL_agrees 132 = .ok (.iload_n 3, 1) := by decide +kernel
theorem dL_agrees_133 : decode cL_agrees 133 = .ok (.aload_n 1, 1) := by decide +kernel
theorem dL_agrees_134 : decode cL_agrees 134 = .ok (.getfield 138, 3) := by decide +kernel
theorem dL_agrees_137 : decode cL_agrees 137 = .ok (.arraylength, 1) := by decide +kernel
theorem dL_agrees_138 : decode cL_agrees 138 = .ok (.if_icmp .ge 132, 3) := by decide +kernel
theorem dL_agrees_141 : decode cL_agrees 141 = .ok (.iload_n 2, 1) := by decide +kernel
theorem dL_agrees_142 : decode cL_agrees 142 = .ok (.ifCond .eq 128, 3) := by decide +kernel
theorem dL_agrees_145 : decode cL_agrees 145 = .ok (.iconst 0, 1) := by decide +kernel
theorem dL_agrees_146 : decode cL_agrees 146 = .ok (.istore 4, 2) := by decide +kernel
theorem dL_agrees_148 : decode cL_agrees 148 = .ok (.iload 4, 2) := by decide +kernel
theorem dL_agrees_150 : decode cL_agrees 150 = .ok (.iconst 5, 1) := by decide +kernel
theorem dL_agrees_151 : decode cL_agrees 151 = .ok (.if_icmp .ge 36, 3) := by decide +kernel
theorem dL_agrees_154 : decode cL_agrees 154 = .ok (.iload_n 2, 1) := by decide +kernel
theorem dL_agrees_155 : decode cL_agrees 155 = .ok (.ifCond .eq 32, 3) := by decide +kernel
theorem dL_agrees_158 : decode cL_agrees 158 = .ok (.aload_n 0, 1) := by decide +kernel
theorem dL_agrees_159 : decode cL_agrees 159 = .ok (.iload_n 3, 1) := by decide +kernel
theorem dL_agrees_160 : decode cL_agrees 160 = .ok (.iload 4, 2) := by decide +kernel
theorem dL_agrees_162 : decode cL_agrees 162 = .ok (.invokestatic 201, 3) := by decide +kernel
theorem dL_agrees_165 : decode cL_agrees 165 = .ok (.aload_n 1, 1) := by decide +kernel
theorem dL_agrees_166 : decode cL_agrees 166 = .ok (.iload_n 3, 1) := by decide +kernel
theorem dL_agrees_167 : decode cL_agrees 167 = .ok (.iload 4, 2) := by decide +kernel
theorem dL_agrees_169 : decode cL_agrees 169 = .ok (.invokevirtual 203, 3) := by decide +kernel
theorem dL_agrees_172 : decode cL_agrees 172 = .ok (.if_icmp .ne 7, 3) := by decide +kernel
theorem dL_agrees_175 : decode cL_agrees 175 = .ok (.iconst 1, 1) := by decide +kernel
theorem dL_agrees_176 : decode cL_agrees 176 = .ok (.goto 4, 3) := by decide +kernel
theorem dL_agrees_179 : decode cL_agrees 179 = .ok (.iconst 0, 1) := by decide +kernel
theorem dL_agrees_180 : decode cL_agrees 180 = .ok (.istore_n 2, 1) := by decide +kernel
theorem dL_agrees_181 : decode cL_agrees 181 = .ok (.iinc 4 1, 3) := by decide +kernel
theorem dL_agrees_184 : decode cL_agrees 184 = .ok (.goto (-36), 3) := by decide +kernel
theorem dL_agrees_187 : decode cL_agrees 187 = .ok (.iconst 0, 1) := by decide +kernel
theorem dL_agrees_188 : decode cL_agrees 188 = .ok (.istore 4, 2) := by decide +kernel
theorem dL_agrees_190 : decode cL_agrees 190 = .ok (.iload 4, 2) := by decide +kernel
theorem dL_agrees_192 : decode cL_agrees 192 = .ok (.aload_n 1, 1) := by decide +kernel
theorem dL_agrees_193 : decode cL_agrees 193 = .ok (.getfield 147, 3) := by decide +kernel
theorem dL_agrees_196 : decode cL_agrees 196 = .ok (.iload_n 3, 1) := by decide +kernel
theorem dL_agrees_197 : decode cL_agrees 197 = .ok (.aaload, 1) := by decide +kernel
theorem dL_agrees_198 : decode cL_agrees 198 = .ok (.arraylength, 1) := by decide +kernel
theorem dL_agrees_199 : decode cL_agrees 199 = .ok (.if_icmp .ge 38, 3) := by decide +kernel
theorem dL_agrees_202 : decode cL_agrees 202 = .ok (.iload_n 2, 1) := by decide +kernel
theorem dL_agrees_203 : decode cL_agrees 203 = .ok (.ifCond .eq 34, 3) := by decide +kernel
theorem dL_agrees_206 : decode cL_agrees 206 = .ok (.aload_n 0, 1) := by decide +kernel
theorem dL_agrees_207 : decode cL_agrees 207 = .ok (.iload_n 3, 1) := by decide +kernel
theorem dL_agrees_208 : decode cL_agrees 208 = .ok (.iload 4, 2) := by decide +kernel
theorem dL_agrees_210 : decode cL_agrees 210 = .ok (.invokestatic 206, 3) := by decide +kernel
theorem dL_agrees_213 : decode cL_agrees 213 = .ok (.aload_n 1, 1) := by decide +kernel
theorem dL_agrees_214 : decode cL_agrees 214 = .ok (.getfield 147, 3) := by decide +kernel
theorem dL_agrees_217 : decode cL_agrees 217 = .ok (.iload_n 3, 1) := by decide +kernel
theorem dL_agrees_218 : decode cL_agrees 218 = .ok (.aaload, 1) := by decide +kernel
theorem dL_agrees_219 : decode cL_agrees 219 = .ok (.iload 4, 2) := by decide +kernel
theorem dL_agrees_221 : decode cL_agrees 221 = .ok (.iaload, 1) := by decide +kernel
theorem dL_agrees_222 : decode cL_agrees 222 = .ok (.if_icmp .ne 7, 3) := by decide +kernel
theorem dL_agrees_225 : decode cL_agrees 225 = .ok (.iconst 1, 1) := by decide +kernel
theorem dL_agrees_226 : decode cL_agrees 226 = .ok (.goto 4, 3) := by decide +kernel
theorem dL_agrees_229 : decode cL_agrees 229 = .ok (.iconst 0, 1) := by decide +kernel
theorem dL_agrees_230 : decode cL_agrees 230 = .ok (.istore_n 2, 1) := by decide +kernel
theorem dL_agrees_231 : decode cL_agrees 231 = .ok (.iinc 4 1, 3) := by decide +kernel
theorem dL_agrees_234 : decode cL_agrees 234 = .ok (.goto (-44), 3) := by decide +kernel
theorem dL_agrees_237 : decode cL_agrees 237 = .ok (.iload_n 2, 1) := by decide +kernel
theorem dL_agrees_238 : decode cL_agrees 238 = .ok (.ifCond .eq 24, 3) := by decide +kernel
theorem dL_agrees_241 : decode cL_agrees 241 = .ok (.aload_n 0, 1) := by decide +kernel
theorem dL_agrees_242 : decode cL_agrees 242 = .ok (.iload_n 3, 1) := by decide +kernel
theorem dL_agrees_243 : decode cL_agrees 243 = .ok (.aload_n 1, 1) := by decide +kernel
theorem dL_agrees_244 : decode cL_agrees 244 = .ok (.getfield 147, 3) := by decide +kernel
theorem dL_agrees_247 : decode cL_agrees 247 = .ok (.iload_n 3, 1) := by decide +kernel
theorem dL_agrees_248 : decode cL_agrees 248 = .ok (.aaload, 1) := by decide +kernel
theorem dL_agrees_249 : decode cL_agrees 249 = .ok (.arraylength, 1) := by decide +kernel
theorem dL_agrees_250 : decode cL_agrees 250 = .ok (.invokestatic 206, 3) := by decide +kernel
theorem dL_agrees_253 : decode cL_agrees 253 = .ok (.ldc 61, 2) := by decide +kernel
theorem dL_agrees_255 : decode cL_agrees 255 = .ok (.if_icmp .ne 7, 3) := by decide +kernel
theorem dL_agrees_258 : decode cL_agrees 258 = .ok (.iconst 1, 1) := by decide +kernel
theorem dL_agrees_259 : decode cL_agrees 259 = .ok (.goto 4, 3) := by decide +kernel
theorem dL_agrees_262 : decode cL_agrees 262 = .ok (.iconst 0, 1) := by decide +kernel
theorem dL_agrees_263 : decode cL_agrees 263 = .ok (.istore_n 2, 1) := by decide +kernel
theorem dL_agrees_264 : decode cL_agrees 264 = .ok (.iinc 3 1, 3) := by decide +kernel
theorem dL_agrees_267 : decode cL_agrees 267 = .ok (.goto (-135), 3) := by decide +kernel
theorem dL_agrees_270 : decode cL_agrees 270 = .ok (.iconst 0, 1) := by decide +kernel
theorem dL_agrees_271 : decode cL_agrees 271 = .ok (.istore_n 3, 1) := by decide +kernel
theorem dL_agrees_272 : decode cL_agrees 272 = .ok (.iload_n 3, 1) := by decide +kernel
theorem dL_agrees_273 : decode cL_agrees 273 = .ok (.aload_n 1, 1) := by decide +kernel
theorem dL_agrees_274 : decode cL_agrees 274 = .ok (.getfield 152, 3) := by decide +kernel
theorem dL_agrees_277 : decode cL_agrees 277 = .ok (.arraylength, 1) := by decide +kernel
theorem dL_agrees_278 : decode cL_agrees 278 = .ok (.if_icmp .ge 58, 3) := by decide +kernel
theorem dL_agrees_281 : decode cL_agrees 281 = .ok (.iload_n 2, 1) := by decide +kernel
theorem dL_agrees_282 : decode cL_agrees 282 = .ok (.ifCond .eq 54, 3) := by decide +kernel
theorem dL_agrees_285 : decode cL_agrees 285 = .ok (.iconst 0, 1) := by decide +kernel
theorem dL_agrees_286 : decode cL_agrees 286 = .ok (.istore 4, 2) := by decide +kernel
theorem dL_agrees_288 : decode cL_agrees 288 = .ok (.iload 4, 2) := by decide +kernel
theorem dL_agrees_290 : decode cL_agrees 290 = .ok (.bipush 7, 2) := by decide +kernel
theorem dL_agrees_292 : decode cL_agrees 292 = .ok (.if_icmp .ge 38, 3) := by decide +kernel
theorem dL_agrees_295 : decode cL_agrees 295 = .ok (.iload_n 2, 1) := by decide +kernel
theorem dL_agrees_296 : decode cL_agrees 296 = .ok (.ifCond .eq 34, 3) := by decide +kernel
theorem dL_agrees_299 : decode cL_agrees 299 = .ok (.aload_n 0, 1) := by decide +kernel
theorem dL_agrees_300 : decode cL_agrees 300 = .ok (.iload_n 3, 1) := by decide +kernel
theorem dL_agrees_301 : decode cL_agrees 301 = .ok (.iload 4, 2) := by decide +kernel
theorem dL_agrees_303 : decode cL_agrees 303 = .ok (.invokestatic 208, 3) := by decide +kernel
theorem dL_agrees_306 : decode cL_agrees 306 = .ok (.aload_n 1, 1) := by decide +kernel
theorem dL_agrees_307 : decode cL_agrees 307 = .ok (.getfield 152, 3) := by decide +kernel
theorem dL_agrees_310 : decode cL_agrees 310 = .ok (.iload_n 3, 1) := by decide +kernel
theorem dL_agrees_311 : decode cL_agrees 311 = .ok (.aaload, 1) := by decide +kernel
theorem dL_agrees_312 : decode cL_agrees 312 = .ok (.iload 4, 2) := by decide +kernel
theorem dL_agrees_314 : decode cL_agrees 314 = .ok (.iaload, 1) := by decide +kernel
theorem dL_agrees_315 : decode cL_agrees 315 = .ok (.if_icmp .ne 7, 3) := by decide +kernel
theorem dL_agrees_318 : decode cL_agrees 318 = .ok (.iconst 1, 1) := by decide +kernel
theorem dL_agrees_319 : decode cL_agrees 319 = .ok (.goto 4, 3) := by decide +kernel
theorem dL_agrees_322 : decode cL_agrees 322 = .ok (.iconst 0, 1) := by decide +kernel
theorem dL_agrees_323 : decode cL_agrees 323 = .ok (.istore_n 2, 1) := by decide +kernel
theorem dL_agrees_324 : decode cL_agrees 324 = .ok (.iinc 4 1, 3) := by decide +kernel
theorem dL_agrees_327 : decode cL_agrees 327 = .ok (.goto (-39), 3) := by decide +kernel
theorem dL_agrees_330 : decode cL_agrees 330 = .ok (.iinc 3 1, 3) := by decide +kernel
theorem dL_agrees_333 : decode cL_agrees 333 = .ok (.goto (-61), 3) := by decide +kernel
theorem dL_agrees_336 : decode cL_agrees 336 = .ok (.iload_n 2, 1) := by decide +kernel
theorem dL_agrees_337 : decode cL_agrees 337 = .ok (.ifCond .eq 52, 3) := by decide +kernel
theorem dL_agrees_340 : decode cL_agrees 340 = .ok (.aload_n 0, 1) := by decide +kernel
theorem dL_agrees_341 : decode cL_agrees 341 = .ok (.aload_n 1, 1) := by decide +kernel
theorem dL_agrees_342 : decode cL_agrees 342 = .ok (.getfield 123, 3) := by decide +kernel
theorem dL_agrees_345 : decode cL_agrees 345 = .ok (.arraylength, 1) := by decide +kernel
theorem dL_agrees_346 : decode cL_agrees 346 = .ok (.iconst 0, 1) := by decide +kernel
theorem dL_agrees_347 : decode cL_agrees 347 = .ok (.invokestatic 195, 3) := by decide +kernel
theorem dL_agrees_350 : decode cL_agrees 350 = .ok (.ldc 52, 2) := by decide +kernel
theorem dL_agrees_352 : decode cL_agrees 352 = .ok (.if_icmp .ne 37, 3) := by decide +kernel
theorem dL_agrees_355 : decode cL_agrees 355 = .ok (.aload_n 0, 1) := by decide +kernel
theorem dL_agrees_356 : decode cL_agrees 356 = .ok (.aload_n 1, 1) := by decide +kernel
theorem dL_agrees_357 : decode cL_agrees 357 = .ok (.getfield 138, 3) := by decide +kernel
theorem dL_agrees_360 : decode cL_agrees 360 = .ok (.arraylength, 1) := by decide +kernel
theorem dL_agrees_361 : decode cL_agrees 361 = .ok (.iconst 0, 1) := by decide +kernel
theorem dL_agrees_362 : decode cL_agrees 362 = .ok (.invokestatic 201, 3) := by decide +kernel
theorem dL_agrees_365 : decode cL_agrees 365 = .ok (.ldc 52, 2) := by decide +kernel
theorem dL_agrees_367 : decode cL_agrees 367 = .ok (.if_icmp .ne 22, 3) := by decide +kernel
theorem dL_agrees_370 : decode cL_agrees 370 = .ok (.aload_n 0, 1) := by decide +kernel
theorem dL_agrees_371 : decode cL_agrees 371 = .ok (.aload_n 1, 1) := by decide +kernel
theorem dL_agrees_372 : decode cL_agrees 372 = .ok (.getfield 152, 3) := by decide +kernel
theorem dL_agrees_375 : decode cL_agrees 375 = .ok (.arraylength, 1) := by decide +kernel
theorem dL_agrees_376 : decode cL_agrees 376 = .ok (.iconst 0, 1) := by decide +kernel
theorem dL_agrees_377 : decode cL_agrees 377 = .ok (.invokestatic 208, 3) := by decide +kernel
theorem dL_agrees_380 : decode cL_agrees 380 = .ok (.ldc 52, 2) := by decide +kernel
theorem dL_agrees_382 : decode cL_agrees 382 = .ok (.if_icmp .ne 7, 3) := by decide +kernel
theorem dL_agrees_385 : decode cL_agrees 385 = .ok (.iconst 1, 1) := by decide +kernel
theorem dL_agrees_386 : decode cL_agrees 386 = .ok (.goto 4, 3) := by decide +kernel
theorem dL_agrees_389 : decode cL_agrees 389 = .ok (.iconst 0, 1) := by decide +kernel
theorem dL_agrees_390 : decode cL_agrees 390 = .ok (.ireturn, 1) := by decide +kernel
theorem dL_law_0 : decode cL_law 0 = .ok (.iconst 1, 1) := by decide +kernel
theorem dL_law_1 : decode cL_law 1 = .ok (.istore_n 1, 1) := by decide +kernel
theorem dL_law_2 : decode cL_law 2 = .ok (.iconst 0, 1) := by decide +kernel
theorem dL_law_3 : decode cL_law 3 = .ok (.istore_n 2, 1) := by decide +kernel
theorem dL_law_4 : decode cL_law 4 = .ok (.iload_n 2, 1) := by decide +kernel
theorem dL_law_5 : decode cL_law 5 = .ok (.aload_n 0, 1) := by decide +kernel
theorem dL_law_6 : decode cL_law 6 = .ok (.arraylength, 1) := by decide +kernel
theorem dL_law_7 : decode cL_law 7 = .ok (.if_icmp .ge 1086, 3) := by decide +kernel
theorem dL_law_10 : decode cL_law 10 = .ok (.iload_n 2, 1) := by decide +kernel
theorem dL_law_11 : decode cL_law 11 = .ok (.iconst 2, 1) := by decide +kernel
theorem dL_law_12 : decode cL_law 12 = .ok (.if_icmp .ge 1081, 3) := by decide +kernel
theorem dL_law_15 : decode cL_law 15 = .ok (.iload_n 1, 1) := by decide +kernel
theorem dL_law_16 : decode cL_law 16 = .ok (.ifCond .eq 1077, 3) := by decide +kernel
theorem dL_law_19 : decode cL_law 19 = .ok (.new 14, 3) := by decide +kernel
theorem dL_law_22 : decode cL_law 22 = .ok (.dup, 1) := by decide +kernel
theorem dL_law_23 : decode cL_law 23 = .ok (.invokespecial 210, 3) := by decide +kernel
theorem dL_law_26 : decode cL_law 26 = .ok (.astore_n 3, 1) := by decide +kernel
theorem dL_law_27 : decode cL_law 27 = .ok (.bipush 8, 2) := by decide +kernel
theorem dL_law_29 : decode cL_law 29 = .ok (.newarray .int, 2) := by decide +kernel
theorem dL_law_31 : decode cL_law 31 = .ok (.astore 4, 2) := by decide +kernel
theorem dL_law_33 : decode cL_law 33 = .ok (.new 119, 3) := by decide +kernel
theorem dL_law_36 : decode cL_law 36 = .ok (.dup, 1) := by decide +kernel
theorem dL_law_37 : decode cL_law 37 = .ok (.aload_n 0, 1) := by decide +kernel
theorem dL_law_38 : decode cL_law 38 = .ok (.iload_n 2, 1) := by decide +kernel
theorem dL_law_39 : decode cL_law 39 = .ok (.iaload, 1) := by decide +kernel
theorem dL_law_40 : decode cL_law 40 = .ok (.invokespecial 211, 3) := by decide +kernel
theorem dL_law_43 : decode cL_law 43 = .ok (.astore 5, 2) := by decide +kernel
theorem dL_law_45 : decode cL_law 45 = .ok (.aload_n 3, 1) := by decide +kernel
theorem dL_law_46 : decode cL_law 46 = .ok (.new 113, 3) := by decide +kernel
theorem dL_law_49 : decode cL_law 49 = .ok (.dup, 1) := by decide +kernel
theorem dL_law_50 : decode cL_law 50 = .ok (.invokespecial 115, 3) := by decide +kernel
theorem dL_law_53 : decode cL_law 53 = .ok (.invokestatic 214, 3) := by decide +kernel
theorem dL_law_56 : decode cL_law 56 = .ok (.ifCond .eq 83, 3) := by decide +kernel
theorem dL_law_59 : decode cL_law 59 = .ok (.aload_n 3, 1) := by decide +kernel
theorem dL_law_60 : decode cL_law 60 = .ok (.invokevirtual 218, 3) := by decide +kernel
theorem dL_law_63 : decode cL_law 63 = .ok (.iconst (-1), 1) := by decide +kernel
theorem dL_law_64 : decode cL_law 64 = .ok (.if_icmp .ne 75, 3) := by decide +kernel
theorem dL_law_67 : decode cL_law 67 = .ok (.aload_n 3, 1) := by decide +kernel
theorem dL_law_68 : decode cL_law 68 = .ok (.invokevirtual 221, 3) := by decide +kernel
theorem dL_law_71 : decode cL_law 71 = .ok (.iconst (-1), 1) := by decide +kernel
theorem dL_law_72 : decode cL_law 72 = .ok (.if_icmp .ne 67, 3) := by decide +kernel
theorem dL_law_75 : decode cL_law 75 = .ok (.aload_n 3, 1) := by decide +kernel
theorem dL_law_76 : decode cL_law 76 = .ok (.iconst 0, 1) := by decide +kernel
theorem dL_law_77 : decode cL_law 77 = .ok (.invokestatic 224, 3) := by decide +kernel
theorem dL_law_80 : decode cL_law 80 = .ok (.ldc 42, 2) := by decide +kernel
theorem dL_law_82 : decode cL_law 82 = .ok (.if_icmp .ne 57, 3) := by decide +kernel
theorem dL_law_85 : decode cL_law 85 = .ok (.aload_n 3, 1) := by decide +kernel
theorem dL_law_86 : decode cL_law 86 = .ok (.bipush 7, 2) := by decide +kernel
theorem dL_law_88 : decode cL_law 88 = .ok (.invokestatic 224, 3) := by decide +kernel
theorem dL_law_91 : decode cL_law 91 = .ok (.ifCond .ne 48, 3) := by decide +kernel
theorem dL_law_94 : decode cL_law 94 = .ok (.aload_n 3, 1) := by decide +kernel
theorem dL_law_95 : decode cL_law 95 = .ok (.invokevirtual 221, 3) := by decide +kernel
theorem dL_law_98 : decode cL_law 98 = .ok (.ifCond .ne 41, 3) := by decide +kernel
theorem dL_law_101 : decode cL_law 101 = .ok (.aload_n 3, 1) := by decide +kernel
theorem dL_law_102 : decode cL_law 102 = .ok (.iconst 0, 1) := by decide +kernel
theorem dL_law_103 : decode cL_law 103 = .ok (.iconst 0, 1) := by decide +kernel
theorem dL_law_104 : decode cL_law 104 = .ok (.invokestatic 226, 3) := by decide +kernel
theorem dL_law_107 : decode cL_law 107 = .ok (.ldc 52, 2) := by decide +kernel
theorem dL_law_109 : decode cL_law 109 = .ok (.if_icmp .ne 30, 3) := by decide +kernel
theorem dL_law_112 : decode cL_law 112 = .ok (.aload_n 3, 1) := by decide +kernel
theorem dL_law_113 : decode cL_law 113 = .ok (.iconst 0, 1) := by decide +kernel
theorem dL_law_114 : decode cL_law 114 = .ok (.iconst 0, 1) := by decide +kernel
theorem dL_law_115 : decode cL_law 115 = .ok (.invokestatic 228, 3) := by decide +kernel
theorem dL_law_118 : decode cL_law 118 = .ok (.ldc 52, 2) := by decide +kernel
theorem dL_law_120 : decode cL_law 120 = .ok (.if_icmp .ne 19, 3) := by decide +kernel
theorem dL_law_123 : decode cL_law 123 = .ok (.aload_n 3, 1) := by decide +kernel
theorem dL_law_124 : decode cL_law 124 = .ok (.sipush 1101, 3) := by decide +kernel
theorem dL_law_127 : decode cL_law 127 = .ok (.invokestatic 230, 3) := by decide +kernel
theorem dL_law_130 : decode cL_law 130 = .ok (.ldc 42, 2) := by decide +kernel
theorem dL_law_132 : decode cL_law 132 = .ok (.if_icmp .ne 7, 3) := by decide +kernel
theorem dL_law_135 : decode cL_law 135 = .ok (.iconst 1, 1) := by decide +kernel
theorem dL_law_136 : decode cL_law 136 = .ok (.goto 4, 3) := by decide +kernel
theorem dL_law_139 : decode cL_law 139 = .ok (.iconst 0, 1) := by decide +kernel
theorem dL_law_140 : decode cL_law 140 = .ok (.istore_n 1, 1) := by decide +kernel
theorem dL_law_141 : decode cL_law 141 = .ok (.aload_n 3, 1) := by decide +kernel
theorem dL_law_142 : decode cL_law 142 = .ok (.aload 4, 2) := by decide +kernel
theorem dL_law_144 : decode cL_law 144 = .ok (.aload 5, 2) := by decide +kernel
theorem dL_law_146 : decode cL_law 146 = .ok (.invokestatic 232, 3) := by decide +kernel
theorem dL_law_149 : decode cL_law 149 = .ok (.astore 6, 2) := by decide +kernel
theorem dL_law_151 : decode cL_law 151 = .ok (.aload 6, 2) := by decide +kernel
theorem dL_law_153 : decode cL_law 153 = .ok (.ifnonnull 5, 3) := by decide +kernel
theorem dL_law_156 : decode cL_law 156 = .ok (.iconst 0, 1) := by decide +kernel
theorem dL_law_157 : decode cL_law 157 = .ok (.ireturn, 1) := by decide +kernel
theorem dL_law_158 : decode cL_law 158 = .ok (.iload_n 1, 1) := by decide +kernel
theorem dL_law_159 : decode cL_law 159 = .ok (.ifCond .eq 16, 3) := by decide +kernel
theorem dL_law_162 : decode cL_law 162 = .ok (.aload_n 3, 1) := by decide +kernel
theorem dL_law_163 : decode cL_law 163 = .ok (.aload 6, 2) := by decide +kernel
theorem dL_law_165 : decode cL_law 165 = .ok (.invokestatic 214, 3) := by decide +kernel
theorem dL_law_168 : decode cL_law 168 = .ok (.ifCond .eq 7, 3) := by decide +kernel
theorem dL_law_171 : decode cL_law 171 = .ok (.iconst 1, 1) := by decide +kernel
theorem dL_law_172 : decode cL_law 172 = .ok (.goto 4, 3) := by decide +kernel
theorem dL_law_175 : decode cL_law 175 = .ok (.iconst 0, 1) := by decide +kernel
theorem dL_law_176 : decode cL_law 176 = .ok (.istore_n 1, 1) := by decide +kernel
theorem dL_law_177 : decode cL_law 177 = .ok (.bipush 9, 2) := by decide +kernel
theorem dL_law_179 : decode cL_law 179 = .ok (.anewarray 113, 3) := by decide +kernel
theorem dL_law_182 : decode cL_law 182 = .ok (.astore 7, 2) := by decide +kernel
theorem dL_law_184 : decode cL_law 184 = .ok (.iconst 0, 1) := by decide +kernel
theorem dL_law_185 : decode cL_law 185 = .ok (.istore 8, 2) := by decide +kernel
theorem dL_law_187 : decode cL_law 187 = .ok (.iconst 0, 1) := by decide +kernel
theorem dL_law_188 : decode cL_law 188 = .ok (.istore 9, 2) := by decide +kernel
theorem dL_law_190 : decode cL_law 190 = .ok (.iload 9, 2) := by decide +kernel
theorem dL_law_192 : decode cL_law 192 = .ok (.bipush 35, 2) := by decide +kernel
theorem dL_law_194 : decode cL_law 194 = .ok (.if_icmp .ge 768, 3) := by decide +kernel
theorem dL_law_197 : decode cL_law 197 = .ok (.iload_n 1, 1) := by decide +kernel
theorem dL_law_198 : decode cL_law 198 = .ok (.ifCond .eq 764, 3) := by decide +kernel
theorem dL_law_201 : decode cL_law 201 = .ok (.aload 6, 2) := by decide +kernel
theorem dL_law_203 : decode cL_law 203 = .ok (.invokevirtual 236, 3) := by decide +kernel
theorem dL_law_206 : decode cL_law 206 = .ok (.astore 10, 2) := by decide +kernel
theorem dL_law_208 : decode cL_law 208 = .ok (.iconst 1, 1) := by decide +kernel
theorem dL_law_209 : decode cL_law 209 = .ok (.istore 11, 2) := by decide +kernel
theorem dL_law_211 : decode cL_law 211 = .ok (.ldc 52, 2) := by decide +kernel
theorem dL_law_213 : decode cL_law 213 = .ok (.istore 12, 2) := by decide +kernel
theorem dL_law_215 : decode cL_law 215 = .ok (.aload 6, 2) := by decide +kernel
theorem dL_law_217 : decode cL_law 217 = .ok (.getfield 123, 3) := by decide +kernel
theorem dL_law_220 : decode cL_law 220 = .ok (.arraylength, 1) := by decide +kernel
theorem dL_law_221 : decode cL_law 221 = .ok (.istore 13, 2) := by decide +kernel
theorem dL_law_223 : decode cL_law 223 = .ok (.aload 6, 2) := by decide +kernel
theorem dL_law_225 : decode cL_law 225 = .ok (.getfield 138, 3) := by decide +kernel
theorem dL_law_228 : decode cL_law 228 = .ok (.arraylength, 1) := by decide +kernel
theorem dL_law_229 : decode cL_law 229 = .ok (.istore 14, 2) := by decide +kernel
theorem dL_law_231 : decode cL_law 231 = .ok (.aload 5, 2) := by decide +kernel
theorem dL_law_233 : decode cL_law 233 = .ok (.iload 13, 2) := by decide +kernel
theorem dL_law_235 : decode cL_law 235 = .ok (.aload 5, 2) := by decide +kernel
theorem dL_law_237 : decode cL_law 237 = .ok (.bipush 12, 2) := by decide +kernel
theorem dL_law_239 : decode cL_law 239 = .ok (.invokevirtual 118, 3) := by decide +kernel
theorem dL_law_242 : decode cL_law 242 = .ok (.ifCond .eq 8, 3) := by decide +kernel
theorem dL_law_245 : decode cL_law 245 = .ok (.iload 13, 2) := by decide +kernel
theorem dL_law_247 : decode cL_law 247 = .ok (.ifCond .ne 7, 3) := by decide +kernel
theorem dL_law_250 : decode cL_law 250 = .ok (.iconst 1, 1) := by decide +kernel
theorem dL_law_251 : decode cL_law 251 = .ok (.goto 4, 3) := by decide +kernel
theorem dL_law_254 : decode cL_law 254 = .ok (.iconst 0, 1) := by decide +kernel
theorem dL_law_255 : decode cL_law 255 = .ok (.iadd, 1) := by decide +kernel
theorem dL_law_256 : decode cL_law 256 = .ok (.invokevirtual 118, 3) := by decide +kernel
theorem dL_law_259 : decode cL_law 259 = .ok (.istore 15, 2) := by decide +kernel
theorem dL_law_261 : decode cL_law 261 = .ok (.aload 5, 2) := by decide +kernel
theorem dL_law_263 : decode cL_law 263 = .ok (.iload 14, 2) := by decide +kernel
theorem dL_law_265 : decode cL_law 265 = .ok (.aload 5, 2) := by decide +kernel
theorem dL_law_267 : decode cL_law 267 = .ok (.bipush 12, 2) := by decide +kernel
theorem dL_law_269 : decode cL_law 269 = .ok (.invokevirtual 118, 3) := by decide +kernel
theorem dL_law_272 : decode cL_law 272 = .ok (.ifCond .eq 8, 3) := by decide +kernel
theorem dL_law_275 : decode cL_law 275 = .ok (.iload 14, 2) := by decide +kernel
theorem dL_law_277 : decode cL_law 277 = .ok (.ifCond .ne 7, 3) := by decide +kernel
theorem dL_law_280 : decode cL_law 280 = .ok (.iconst 1, 1) := by decide +kernel
theorem dL_law_281 : decode cL_law 281 = .ok (.goto 4, 3) := by decide +kernel
theorem dL_law_284 : decode cL_law 284 = .ok (.iconst 0, 1) := by decide +kernel
theorem dL_law_285 : decode cL_law 285 = .ok (.iadd, 1) := by decide +kernel
theorem dL_law_286 : decode cL_law 286 = .ok (.invokevirtual 118, 3) := by decide +kernel
theorem dL_law_289 : decode cL_law 289 = .ok (.istore 16, 2) := by decide +kernel
theorem dL_law_291 : decode cL_law 291 = .ok (.iload 15, 2) := by decide +kernel
theorem dL_law_293 : decode cL_law 293 = .ok (.iload 13, 2) := by decide +kernel
theorem dL_law_295 : decode cL_law 295 = .ok (.if_icmp .ge 7, 3) := by decide +kernel
theorem dL_law_298 : decode cL_law 298 = .ok (.iconst 1, 1) := by decide +kernel
theorem dL_law_299 : decode cL_law 299 = .ok (.goto 4, 3) := by decide +kernel
theorem dL_law_302 : decode cL_law 302 = .ok (.iconst 0, 1) := by decide +kernel
theorem dL_law_303 : decode cL_law 303 = .ok (.istore 17, 2) := by decide +kernel
theorem dL_law_305 : decode cL_law 305 = .ok (.iload 17, 2) := by decide +kernel
theorem dL_law_307 : decode cL_law 307 = .ok (.ifCond .eq 14, 3) := by decide +kernel
theorem dL_law_310 : decode cL_law 310 = .ok (.iload 16, 2) := by decide +kernel
theorem dL_law_312 : decode cL_law 312 = .ok (.iload 14, 2) := by decide +kernel
theorem dL_law_314 : decode cL_law 314 = .ok (.if_icmp .ge 7, 3) := by decide +kernel
theorem dL_law_317 : decode cL_law 317 = .ok (.iconst 1, 1) := by decide +kernel
theorem dL_law_318 : decode cL_law 318 = .ok (.goto 4, 3) := by decide +kernel
theorem dL_law_321 : decode cL_law 321 = .ok (.iconst 0, 1) := by decide +kernel
theorem dL_law_322 : decode cL_law 322 = .ok (.istore 18, 2) := by decide +kernel
theorem dL_law_324 : decode cL_law 324 = .ok (.aload 5, 2) := by decide +kernel
theorem dL_law_326 : decode cL_law 326 = .ok (.bipush 10, 2) := by decide +kernel
theorem dL_law_328 : decode cL_law 328 = .ok (.invokevirtual 118, 3) := by decide +kernel
theorem dL_law_331 : decode cL_law 331 = .ok (.tableswitch 468 0 5 #[37, 173, 173, 215, 257, 257], 37) := by decide +kernel
theorem dL_law_368 : decode cL_law 368 = .ok (.aload 5, 2) := by decide +kernel
theorem dL_law_370 : decode cL_law 370 = .ok (.aload 5, 2) := by decide +kernel
theorem dL_law_372 : decode cL_law 372 = .ok (.bipush 6, 2) := by decide +kernel
theorem dL_law_374 : decode cL_law 374 = .ok (.invokevirtual 118, 3) := by decide +kernel
theorem dL_law_377 : decode cL_law 377 = .ok (.ifCond .ne 9, 3) := by decide +kernel
theorem dL_law_380 : decode cL_law 380 = .ok (.sipush 11000, 3) := by decide +kernel
theorem dL_law_383 : decode cL_law 383 = .ok (.goto 5, 3) := by decide +kernel
theorem dL_law_386 : decode cL_law 386 = .ok (.bipush 30, 2) := by decide +kernel
theorem dL_law_388 : decode cL_law 388 = .ok (.invokevirtual 118, 3) := by decide +kernel
theorem dL_law_391 : decode cL_law 391 = .ok (.istore 19, 2) := by decide +kernel
theorem dL_law_393 : decode cL_law 393 = .ok (.iload 19, 2) := by decide +kernel
theorem dL_law_395 : decode cL_law 395 = .ok (.ifCond .le 15, 3) := by decide +kernel
theorem dL_law_398 : decode cL_law 398 = .ok (.iload 19, 2) := by decide +kernel
theorem dL_law_400 : decode cL_law 400 = .ok (.sipush 10000, 3) := by decide +kernel
theorem dL_law_403 : decode cL_law 403 = .ok (.if_icmp .ge 7, 3) := by decide +kernel
theorem dL_law_406 : decode cL_law 406 = .ok (.iconst 1, 1) := by decide +kernel
theorem dL_law_407 : decode cL_law 407 = .ok (.goto 4, 3) := by decide +kernel
theorem dL_law_410 : decode cL_law 410 = .ok (.iconst 0, 1) := by decide +kernel
theorem dL_law_411 : decode cL_law 411 = .ok (.istore 20, 2) := by decide +kernel
theorem dL_law_413 : decode cL_law 413 = .ok (.iload 17, 2) := by decide +kernel
theorem dL_law_415 : decode cL_law 415 = .ok (.ifCond .eq 12, 3) := by decide +kernel
theorem dL_law_418 : decode cL_law 418 = .ok (.iload 20, 2) := by decide +kernel
theorem dL_law_420 : decode cL_law 420 = .ok (.ifCond .eq 7, 3) := by decide +kernel
theorem dL_law_423 : decode cL_law 423 = .ok (.iconst 1, 1) := by decide +kernel
theorem dL_law_424 : decode cL_law 424 = .ok (.goto 4, 3) := by decide +kernel
theorem dL_law_427 : decode cL_law 427 = .ok (.iconst 0, 1) := by decide +kernel
theorem dL_law_428 : decode cL_law 428 = .ok (.istore 11, 2) := by decide +kernel
theorem dL_law_430 : decode cL_law 430 = .ok (.iload 17, 2) := by decide +kernel
theorem dL_law_432 : decode cL_law 432 = .ok (.ifCond .eq 7, 3) := by decide +kernel
theorem dL_law_435 : decode cL_law 435 = .ok (.ldc 42, 2) := by decide +kernel
theorem dL_law_437 : decode cL_law 437 = .ok (.istore 12, 2) := by decide +kernel
theorem dL_law_439 : decode cL_law 439 = .ok (.iload 11, 2) := by decide +kernel
theorem dL_law_441 : decode cL_law 441 = .ok (.ifCond .eq 41, 3) := by decide +kernel
theorem dL_law_444 : decode cL_law 444 = .ok (.aload 6, 2) := by decide +kernel
theorem dL_law_446 : decode cL_law 446 = .ok (.getfield 123, 3) := by decide +kernel
theorem dL_law_449 : decode cL_law 449 = .ok (.iload 15, 2) := by decide +kernel
theorem dL_law_451 : decode cL_law 451 = .ok (.aaload, 1) := by decide +kernel
theorem dL_law_452 : decode cL_law 452 = .ok (.iconst 0, 1) := by decide +kernel
theorem dL_law_453 : decode cL_law 453 = .ok (.dup2, 1) := by decide +kernel
theorem dL_law_454 : decode cL_law 454 = .ok (.iaload, 1) := by decide +kernel
theorem dL_law_455 : decode cL_law 455 = .ok (.iload 19, 2) := by decide +kernel
theorem dL_law_457 : decode cL_law 457 = .ok (.iadd, 1) := by decide +kernel
theorem dL_law_458 : decode cL_law 458 = .ok (.iastore, 1) := by decide +kernel
theorem dL_law_459 : decode cL_law 459 = .ok (.aload 6, 2) := by decide +kernel
theorem dL_law_461 : decode cL_law 461 = .ok (.getfield 123, 3) := by decide +kernel
theorem dL_law_464 : decode cL_law 464 = .ok (.iload 15, 2) := by decide +kernel
theorem dL_law_466 : decode cL_law 466 = .ok (.aaload, 1) := by decide +kernel
theorem dL_law_467 : decode cL_law 467 = .ok (.iconst 2, 1) := by decide +kernel
theorem dL_law_468 : decode cL_law 468 = .ok (.iconst 0, 1) := by decide +kernel
theorem dL_law_469 : decode cL_law 469 = .ok (.iastore, 1) := by decide +kernel
theorem dL_law_470 : decode cL_law 470 = .ok (.aload 6, 2) := by decide +kernel
theorem dL_law_472 : decode cL_law 472 = .ok (.getfield 123, 3) := by decide +kernel
theorem dL_law_475 : decode cL_law 475 = .ok (.iload 15, 2) := by decide +kernel
theorem dL_law_477 : decode cL_law 477 = .ok (.aaload, 1) := by decide +kernel
theorem dL_law_478 : decode cL_law 478 = .ok (.iconst 0, 1) := by decide +kernel
theorem dL_law_479 : decode cL_law 479 = .ok (.iaload, 1) := by decide +kernel
theorem dL_law_480 : decode cL_law 480 = .ok (.istore 12, 2) := by decide +kernel
theorem dL_law_482 : decode cL_law 482 = .ok (.aload_n 3, 1) := by decide +kernel
theorem dL_law_483 : decode cL_law 483 = .ok (.iload 15, 2) := by decide +kernel
theorem dL_law_485 : decode cL_law 485 = .ok (.iload 19, 2) := by decide +kernel
theorem dL_law_487 : decode cL_law 487 = .ok (.invokestatic 240, 3) := by decide +kernel
theorem dL_law_490 : decode cL_law 490 = .ok (.iload 12, 2) := by decide +kernel
theorem dL_law_492 : decode cL_law 492 = .ok (.if_icmp .ne 7, 3) := by decide +kernel
theorem dL_law_495 : decode cL_law 495 = .ok (.iconst 1, 1) := by decide +kernel
theorem dL_law_496 : decode cL_law 496 = .ok (.goto 4, 3) := by decide +kernel
theorem dL_law_499 : decode cL_law 499 = .ok (.iconst 0, 1) := by decide +kernel
theorem dL_law_500 : decode cL_law 500 = .ok (.istore_n 1, 1) := by decide +kernel
theorem dL_law_501 : decode cL_law 501 = .ok (.goto 395, 3) := by decide +kernel
theorem dL_law_504 : decode cL_law 504 = .ok (.iload 18, 2) := by decide +kernel
theorem dL_law_506 : decode cL_law 506 = .ok (.istore 11, 2) := by decide +kernel
theorem dL_law_508 : decode cL_law 508 = .ok (.iload 18, 2) := by decide +kernel
theorem dL_law_510 : decode cL_law 510 = .ok (.ifCond .eq 14, 3) := by decide +kernel
theorem dL_law_513 : decode cL_law 513 = .ok (.aload 6, 2) := by decide +kernel
theorem dL_law_515 : decode cL_law 515 = .ok (.iload 15, 2) := by decide +kernel
theorem dL_law_517 : decode cL_law 517 = .ok (.iload 16, 2) := by decide +kernel
theorem dL_law_519 : decode cL_law 519 = .ok (.invokevirtual 242, 3) := by decide +kernel
theorem dL_law_522 : decode cL_law 522 = .ok (.istore 12, 2) := by decide +kernel
theorem dL_law_524 : decode cL_law 524 = .ok (.aload_n 3, 1) := by decide +kernel
theorem dL_law_525 : decode cL_law 525 = .ok (.iload 15, 2) := by decide +kernel
theorem dL_law_527 : decode cL_law 527 = .ok (.iload 16, 2) := by decide +kernel
theorem dL_law_529 : decode cL_law 529 = .ok (.invokestatic 228, 3) := by decide +kernel
theorem dL_law_532 : decode cL_law 532 = .ok (.iload 12, 2) := by decide +kernel
theorem dL_law_534 : decode cL_law 534 = .ok (.if_icmp .ne 7, 3) := by decide +kernel
theorem dL_law_537 : decode cL_law 537 = .ok (.iconst 1, 1) := by decide +kernel
theorem dL_law_538 : decode cL_law 538 = .ok (.goto 4, 3) := by decide +kernel
theorem dL_law_541 : decode cL_law 541 = .ok (.iconst 0, 1) := by decide +kernel
theorem dL_law_542 : decode cL_law 542 = .ok (.istore_n 1, 1) := by decide +kernel
theorem dL_law_543 : decode cL_law 543 = .ok (.goto 353, 3) := by decide +kernel
theorem dL_law_546 : decode cL_law 546 = .ok (.iload 18, 2) := by decide +kernel
theorem dL_law_548 : decode cL_law 548 = .ok (.istore 11, 2) := by decide +kernel
theorem dL_law_550 : decode cL_law 550 = .ok (.iload 18, 2) := by decide +kernel
theorem dL_law_552 : decode cL_law 552 = .ok (.ifCond .eq 14, 3) := by decide +kernel
theorem dL_law_555 : decode cL_law 555 = .ok (.aload 6, 2) := by decide +kernel
theorem dL_law_557 : decode cL_law 557 = .ok (.iload 15, 2) := by decide +kernel
theorem dL_law_559 : decode cL_law 559 = .ok (.iload 16, 2) := by decide +kernel
theorem dL_law_561 : decode cL_law 561 = .ok (.invokevirtual 243, 3) := by decide +kernel
theorem dL_law_564 : decode cL_law 564 = .ok (.istore 12, 2) := by decide +kernel
theorem dL_law_566 : decode cL_law 566 = .ok (.aload_n 3, 1) := by decide +kernel
theorem dL_law_567 : decode cL_law 567 = .ok (.iload 15, 2) := by decide +kernel
theorem dL_law_569 : decode cL_law 569 = .ok (.iload 16, 2) := by decide +kernel
theorem dL_law_571 : decode cL_law 571 = .ok (.invokestatic 244, 3) := by decide +kernel
theorem dL_law_574 : decode cL_law 574 = .ok (.iload 12, 2) := by decide +kernel
theorem dL_law_576 : decode cL_law 576 = .ok (.if_icmp .ne 7, 3) := by decide +kernel
theorem dL_law_579 : decode cL_law 579 = .ok (.iconst 1, 1) := by decide +kernel
theorem dL_law_580 : decode cL_law 580 = .ok (.goto 4, 3) := by decide +kernel
theorem dL_law_583 : decode cL_law 583 = .ok (.iconst 0, 1) := by decide +kernel
theorem dL_law_584 : decode cL_law 584 = .ok (.istore_n 1, 1) := by decide +kernel
theorem dL_law_585 : decode cL_law 585 = .ok (.goto 311, 3) := by decide +kernel
theorem dL_law_588 : decode cL_law 588 = .ok (.aload 5, 2) := by decide +kernel
theorem dL_law_590 : decode cL_law 590 = .ok (.aload 5, 2) := by decide +kernel
theorem dL_law_592 : decode cL_law 592 = .ok (.bipush 6, 2) := by decide +kernel
theorem dL_law_594 : decode cL_law 594 = .ok (.invokevirtual 118, 3) := by decide +kernel
theorem dL_law_597 : decode cL_law 597 = .ok (.ifCond .ne 8, 3) := by decide +kernel
theorem dL_law_600 : decode cL_law 600 = .ok (.bipush 120, 2) := by decide +kernel
theorem dL_law_602 : decode cL_law 602 = .ok (.goto 5, 3) := by decide +kernel
theorem dL_law_605 : decode cL_law 605 = .ok (.bipush 25, 2) := by decide +kernel
theorem dL_law_607 : decode cL_law 607 = .ok (.invokevirtual 118, 3) := by decide +kernel
theorem dL_law_610 : decode cL_law 610 = .ok (.istore 21, 2) := by decide +kernel
theorem dL_law_612 : decode cL_law 612 = .ok (.iload 21, 2) := by decide +kernel
theorem dL_law_614 : decode cL_law 614 = .ok (.ifCond .le 14, 3) := by decide +kernel
theorem dL_law_617 : decode cL_law 617 = .ok (.iload 21, 2) := by decide +kernel
theorem dL_law_619 : decode cL_law 619 = .ok (.bipush 100, 2) := by decide +kernel
theorem dL_law_621 : decode cL_law 621 = .ok (.if_icmp .ge 7, 3) := by decide +kernel
theorem dL_law_624 : decode cL_law 624 = .ok (.iconst 1, 1) := by decide +kernel
theorem dL_law_625 : decode cL_law 625 = .ok (.goto 4, 3) := by decide +kernel
theorem dL_law_628 : decode cL_law 628 = .ok (.iconst 0, 1) := by decide +kernel
theorem dL_law_629 : decode cL_law 629 = .ok (.istore 22, 2) := by decide +kernel
theorem dL_law_631 : decode cL_law 631 = .ok (.iload 16, 2) := by decide +kernel
theorem dL_law_633 : decode cL_law 633 = .ok (.iload 14, 2) := by decide +kernel
theorem dL_law_635 : decode cL_law 635 = .ok (.if_icmp .ge 23, 3) := by decide +kernel
theorem dL_law_638 : decode cL_law 638 = .ok (.iload 22, 2) := by decide +kernel
theorem dL_law_640 : decode cL_law 640 = .ok (.ifCond .eq 18, 3) := by decide +kernel
theorem dL_law_643 : decode cL_law 643 = .ok (.aload 6, 2) := by decide +kernel
theorem dL_law_645 : decode cL_law 645 = .ok (.getfield 152, 3) := by decide +kernel
theorem dL_law_648 : decode cL_law 648 = .ok (.arraylength, 1) := by decide +kernel
theorem dL_law_649 : decode cL_law 649 = .ok (.bipush 60, 2) := by decide +kernel
theorem dL_law_651 : decode cL_law 651 = .ok (.if_icmp .ge 7, 3) := by decide +kernel
theorem dL_law_654 : decode cL_law 654 = .ok (.iconst 1, 1) := by decide +kernel
theorem dL_law_655 : decode cL_law 655 = .ok (.goto 4, 3) := by decide +kernel
theorem dL_law_658 : decode cL_law 658 = .ok (.iconst 0, 1) := by decide +kernel
theorem dL_law_659 : decode cL_law 659 = .ok (.istore 11, 2) := by decide +kernel
theorem dL_law_661 : decode cL_law 661 = .ok (.iload 16, 2) := by decide +kernel
theorem dL_law_663 : decode cL_law 663 = .ok (.iload 14, 2) := by decide +kernel
theorem dL_law_665 : decode cL_law 665 = .ok (.if_icmp .ge 31, 3) := by decide +kernel
theorem dL_law_668 : decode cL_law 668 = .ok (.iload 22, 2) := by decide +kernel
theorem dL_law_670 : decode cL_law 670 = .ok (.ifCond .ne 8, 3) := by decide +kernel
theorem dL_law_673 : decode cL_law 673 = .ok (.ldc 42, 2) := by decide +kernel
theorem dL_law_675 : decode cL_law 675 = .ok (.goto 19, 3) := by decide +kernel
theorem dL_law_678 : decode cL_law 678 = .ok (.iload 11, 2) := by decide +kernel
theorem dL_law_680 : decode cL_law 680 = .ok (.ifCond .eq 12, 3) := by decide +kernel
theorem dL_law_683 : decode cL_law 683 = .ok (.aload 6, 2) := by decide +kernel
theorem dL_law_685 : decode cL_law 685 = .ok (.getfield 152, 3) := by decide +kernel
theorem dL_law_688 : decode cL_law 688 = .ok (.arraylength, 1) := by decide +kernel
theorem dL_law_689 : decode cL_law 689 = .ok (.goto 5, 3) := by decide +kernel
theorem dL_law_692 : decode cL_law 692 = .ok (.ldc 88, 2) := by decide +kernel
theorem dL_law_694 : decode cL_law 694 = .ok (.istore 12, 2) := by decide +kernel
theorem dL_law_696 : decode cL_law 696 = .ok (.iload 11, 2) := by decide +kernel
theorem dL_law_698 : decode cL_law 698 = .ok (.ifCond .eq 79, 3) := by decide +kernel
theorem dL_law_701 : decode cL_law 701 = .ok (.aload 6, 2) := by decide +kernel
theorem dL_law_703 : decode cL_law 703 = .ok (.aload 6, 2) := by decide +kernel
theorem dL_law_705 : decode cL_law 705 = .ok (.getfield 152, 3) := by decide +kernel
theorem dL_law_708 : decode cL_law 708 = .ok (.bipush 8, 2) := by decide +kernel
theorem dL_law_710 : decode cL_law 710 = .ok (.newarray .int, 2) := by decide +kernel
theorem dL_law_712 : decode cL_law 712 = .ok (.dup, 1) := by decide +kernel
theorem dL_law_713 : decode cL_law 713 = .ok (.iconst 0, 1) := by decide +kernel
theorem dL_law_714 : decode cL_law 714 = .ok (.iload 16, 2) := by decide +kernel
theorem dL_law_716 : decode cL_law 716 = .ok (.iastore, 1) := by decide +kernel
theorem dL_law_717 : decode cL_law 717 = .ok (.dup, 1) := by decide +kernel
theorem dL_law_718 : decode cL_law 718 = .ok (.iconst 1, 1) := by decide +kernel
theorem dL_law_719 : decode cL_law 719 = .ok (.aload 6, 2) := by decide +kernel
theorem dL_law_721 : decode cL_law 721 = .ok (.getfield 246, 3) := by decide +kernel
theorem dL_law_724 : decode cL_law 724 = .ok (.iastore, 1) := by decide +kernel
theorem dL_law_725 : decode cL_law 725 = .ok (.dup, 1) := by decide +kernel
theorem dL_law_726 : decode cL_law 726 = .ok (.iconst 2, 1) := by decide +kernel
theorem dL_law_727 : decode cL_law 727 = .ok (.iload 21, 2) := by decide +kernel
theorem dL_law_729 : decode cL_law 729 = .ok (.iastore, 1) := by decide +kernel
theorem dL_law_730 : decode cL_law 730 = .ok (.dup, 1) := by decide +kernel
theorem dL_law_731 : decode cL_law 731 = .ok (.iconst 3, 1) := by decide +kernel
theorem dL_law_732 : decode cL_law 732 = .ok (.iconst 0, 1) := by decide +kernel
theorem dL_law_733 : decode cL_law 733 = .ok (.iastore, 1) := by decide +kernel
theorem dL_law_734 : decode cL_law 734 = .ok (.dup, 1) := by decide +kernel
theorem dL_law_735 : decode cL_law 735 = .ok (.iconst 4, 1) := by decide +kernel
theorem dL_law_736 : decode cL_law 736 = .ok (.iconst (-1), 1) := by decide +kernel
theorem dL_law_737 : decode cL_law 737 = .ok (.iastore, 1) := by decide +kernel
theorem dL_law_738 : decode cL_law 738 = .ok (.dup, 1) := by decide +kernel
theorem dL_law_739 : decode cL_law 739 = .ok (.iconst 5, 1) := by decide +kernel
theorem dL_law_740 : decode cL_law 740 = .ok (.iconst 0, 1) := by decide +kernel
theorem dL_law_741 : decode cL_law 741 = .ok (.iastore, 1) := by decide +kernel
theorem dL_law_742 : decode cL_law 742 = .ok (.dup, 1) := by decide +kernel
theorem dL_law_743 : decode cL_law 743 = .ok (.bipush 6, 2) := by decide +kernel
theorem dL_law_745 : decode cL_law 745 = .ok (.iconst (-1), 1) := by decide +kernel
theorem dL_law_746 : decode cL_law 746 = .ok (.iastore, 1) := by decide +kernel
theorem dL_law_747 : decode cL_law 747 = .ok (.dup, 1) := by decide +kernel
theorem dL_law_748 : decode cL_law 748 = .ok (.bipush 7, 2) := by decide +kernel
theorem dL_law_750 : decode cL_law 750 = .ok (.iconst 0, 1) := by decide +kernel
theorem dL_law_751 : decode cL_law 751 = .ok (.iastore, 1) := by decide +kernel
theorem dL_law_752 : decode cL_law 752 = .ok (.invokestatic 127, 3) := by decide +kernel
theorem dL_law_755 : decode cL_law 755 = .ok (.putfield 152, 3) := by decide +kernel
theorem dL_law_758 : decode cL_law 758 = .ok (.aload 6, 2) := by decide +kernel
theorem dL_law_760 : decode cL_law 760 = .ok (.aload 6, 2) := by decide +kernel
theorem dL_law_762 : decode cL_law 762 = .ok (.getfield 152, 3) := by decide +kernel
theorem dL_law_765 : decode cL_law 765 = .ok (.aload 6, 2) := by decide +kernel
theorem dL_law_767 : decode cL_law 767 = .ok (.getfield 152, 3) := by decide +kernel
theorem dL_law_770 : decode cL_law 770 = .ok (.arraylength, 1) := by decide +kernel
theorem dL_law_771 : decode cL_law 771 = .ok (.iconst 1, 1) := by decide +kernel
theorem dL_law_772 : decode cL_law 772 = .ok (.isub, 1) := by decide +kernel
theorem dL_law_773 : decode cL_law 773 = .ok (.aaload, 1) := by decide +kernel
theorem dL_law_774 : decode cL_law 774 = .ok (.invokevirtual 250, 3) := by decide +kernel
theorem dL_law_777 : decode cL_law 777 = .ok (.aload_n 3, 1) := by decide +kernel
theorem dL_law_778 : decode cL_law 778 = .ok (.iload 16, 2) := by decide +kernel
theorem dL_law_780 : decode cL_law 780 = .ok (.iload 21, 2) := by decide +kernel
theorem dL_law_782 : decode cL_law 782 = .ok (.invokestatic 226, 3) := by decide +kernel
theorem dL_law_785 : decode cL_law 785 = .ok (.iload 12, 2) := by decide +kernel
theorem dL_law_787 : decode cL_law 787 = .ok (.if_icmp .ne 7, 3) := by decide +kernel
theorem dL_law_790 : decode cL_law 790 = .ok (.iconst 1, 1) := by decide +kernel
theorem dL_law_791 : decode cL_law 791 = .ok (.goto 4, 3) := by decide +kernel
theorem dL_law_794 : decode cL_law 794 = .ok (.iconst 0, 1) := by decide +kernel
theorem dL_law_795 : decode cL_law 795 = .ok (.istore_n 1, 1) := by decide +kernel
theorem dL_law_796 : decode cL_law 796 = .ok (.goto 100, 3) := by decide +kernel
theorem dL_law_799 : decode cL_law 799 = .ok (.aload 5, 2) := by decide +kernel
theorem dL_law_801 : decode cL_law 801 = .ok (.aload 5, 2) := by decide +kernel
theorem dL_law_803 : decode cL_law 803 = .ok (.iconst 5, 1) := by decide +kernel
theorem dL_law_804 : decode cL_law 804 = .ok (.invokevirtual 118, 3) := by decide +kernel
theorem dL_law_807 : decode cL_law 807 = .ok (.ifCond .ne 8, 3) := by decide +kernel
theorem dL_law_810 : decode cL_law 810 = .ok (.bipush 25, 2) := by decide +kernel
theorem dL_law_812 : decode cL_law 812 = .ok (.goto 4, 3) := by decide +kernel
theorem dL_law_815 : decode cL_law 815 = .ok (.iconst 5, 1) := by decide +kernel
theorem dL_law_816 : decode cL_law 816 = .ok (.invokevirtual 118, 3) := by decide +kernel
theorem dL_law_819 : decode cL_law 819 = .ok (.istore 23, 2) := by decide +kernel
theorem dL_law_821 : decode cL_law 821 = .ok (.iload 23, 2) := by decide +kernel
theorem dL_law_823 : decode cL_law 823 = .ok (.ifCond .le 7, 3) := by decide +kernel
theorem dL_law_826 : decode cL_law 826 = .ok (.iconst 1, 1) := by decide +kernel
theorem dL_law_827 : decode cL_law 827 = .ok (.goto 4, 3) := by decide +kernel
theorem dL_law_830 : decode cL_law 830 = .ok (.iconst 0, 1) := by decide +kernel
theorem dL_law_831 : decode cL_law 831 = .ok (.istore 11, 2) := by decide +kernel
theorem dL_law_833 : decode cL_law 833 = .ok (.aload 6, 2) := by decide +kernel
theorem dL_law_835 : decode cL_law 835 = .ok (.iconst 2, 1) := by decide +kernel
theorem dL_law_836 : decode cL_law 836 = .ok (.invokevirtual 254, 3) := by decide +kernel
theorem dL_law_839 : decode cL_law 839 = .ok (.istore 24, 2) := by decide +kernel
theorem dL_law_841 : decode cL_law 841 = .ok (.iconst 0, 1) := by decide +kernel
theorem dL_law_842 : decode cL_law 842 = .ok (.istore 25, 2) := by decide +kernel
theorem dL_law_844 : decode cL_law 844 = .ok (.iload 25, 2) := by decide +kernel
theorem dL_law_846 : decode cL_law 846 = .ok (.iload 23, 2) := by decide +kernel
theorem dL_law_848 : decode cL_law 848 = .ok (.if_icmp .ge 14, 3) := by decide +kernel
theorem dL_law_851 : decode cL_law 851 = .ok (.aload 6, 2) := by decide +kernel
theorem dL_law_853 : decode cL_law 853 = .ok (.invokevirtual 257, 3) := by decide +kernel
theorem dL_law_856 : decode cL_law 856 = .ok (.iinc 25 1, 3) := by decide +kernel
theorem dL_law_859 : decode cL_law 859 = .ok (.goto (-15), 3) := by decide +kernel
theorem dL_law_862 : decode cL_law 862 = .ok (.aload_n 3, 1) := by decide +kernel
theorem dL_law_863 : decode cL_law 863 = .ok (.iload 23, 2) := by decide +kernel
theorem dL_law_865 : decode cL_law 865 = .ok (.invokestatic 224, 3) := by decide +kernel
theorem dL_law_868 : decode cL_law 868 = .ok (.iload 11, 2) := by decide +kernel
theorem dL_law_870 : decode cL_law 870 = .ok (.ifCond .eq 15, 3) := by decide +kernel
theorem dL_law_873 : decode cL_law 873 = .ok (.aload 6, 2) := by decide +kernel
theorem dL_law_875 : decode cL_law 875 = .ok (.iconst 2, 1) := by decide +kernel
theorem dL_law_876 : decode cL_law 876 = .ok (.invokevirtual 254, 3) := by decide +kernel
theorem dL_law_879 : decode cL_law 879 = .ok (.iload 24, 2) := by decide +kernel
theorem dL_law_881 : decode cL_law 881 = .ok (.isub, 1) := by decide +kernel
theorem dL_law_882 : decode cL_law 882 = .ok (.goto 5, 3) := by decide +kernel
theorem dL_law_885 : decode cL_law 885 = .ok (.ldc 42, 2) := by decide +kernel
theorem dL_law_887 : decode cL_law 887 = .ok (.if_icmp .ne 7, 3) := by decide +kernel
theorem dL_law_890 : decode cL_law 890 = .ok (.iconst 1, 1) := by decide +kernel
theorem dL_law_891 : decode cL_law 891 = .ok (.goto 4, 3) := by decide +kernel
theorem dL_law_894 : decode cL_law 894 = .ok (.iconst 0, 1) := by decide +kernel
theorem dL_law_895 : decode cL_law 895 = .ok (.istore_n 1, 1) := by decide +kernel
theorem dL_law_896 : decode cL_law 896 = .ok (.iload 11, 2) := by decide +kernel
theorem dL_law_898 : decode cL_law 898 = .ok (.ifCond .eq 39, 3) := by decide +kernel
theorem dL_law_901 : decode cL_law 901 = .ok (.bipush 8, 2) := by decide +kernel
theorem dL_law_903 : decode cL_law 903 = .ok (.istore 19, 2) := by decide +kernel
theorem dL_law_905 : decode cL_law 905 = .ok (.iload 19, 2) := by decide +kernel
theorem dL_law_907 : decode cL_law 907 = .ok (.ifCond .le 21, 3) := by decide +kernel
theorem dL_law_910 : decode cL_law 910 = .ok (.aload 7, 2) := by decide +kernel
theorem dL_law_912 : decode cL_law 912 = .ok (.iload 19, 2) := by decide +kernel
theorem dL_law_914 : decode cL_law 914 = .ok (.aload 7, 2) := by decide +kernel
theorem dL_law_916 : decode cL_law 916 = .ok (.iload 19, 2) := by decide +kernel
theorem dL_law_918 : decode cL_law 918 = .ok (.iconst 1, 1) := by decide +kernel
theorem dL_law_919 : decode cL_law 919 = .ok (.isub, 1) := by decide +kernel
theorem dL_law_920 : decode cL_law 920 = .ok (.aaload, 1) := by decide +kernel
theorem dL_law_921 : decode cL_law 921 = .ok (.aastore, 1) := by decide +kernel
theorem dL_law_922 : decode cL_law 922 = .ok (.iinc 19 (-1), 3) := by decide +kernel
theorem dL_law_925 : decode cL_law 925 = .ok (.goto (-20), 3) := by decide +kernel
theorem dL_law_928 : decode cL_law 928 = .ok (.aload 7, 2) := by decide +kernel
theorem dL_law_930 : decode cL_law 930 = .ok (.iconst 0, 1) := by decide +kernel
theorem dL_law_931 : decode cL_law 931 = .ok (.aload 10, 2) := by decide +kernel
theorem dL_law_933 : decode cL_law 933 = .ok (.aastore, 1) := by decide +kernel
theorem dL_law_934 : decode cL_law 934 = .ok (.iinc 8 1, 3) := by decide +kernel
theorem dL_law_937 : decode cL_law 937 = .ok (.iload_n 1, 1) := by decide +kernel
theorem dL_law_938 : decode cL_law 938 = .ok (.ifCond .eq 16, 3) := by decide +kernel
theorem dL_law_941 : decode cL_law 941 = .ok (.aload_n 3, 1) := by decide +kernel
theorem dL_law_942 : decode cL_law 942 = .ok (.aload 6, 2) := by decide +kernel
theorem dL_law_944 : decode cL_law 944 = .ok (.invokestatic 214, 3) := by decide +kernel
theorem dL_law_947 : decode cL_law 947 = .ok (.ifCond .eq 7, 3) := by decide +kernel
theorem dL_law_950 : decode cL_law 950 = .ok (.iconst 1, 1) := by decide +kernel
theorem dL_law_951 : decode cL_law 951 = .ok (.goto 4, 3) := by decide +kernel
theorem dL_law_954 : decode cL_law 954 = .ok (.iconst 0, 1) := by decide +kernel
theorem dL_law_955 : decode cL_law 955 = .ok (.istore_n 1, 1) := by decide +kernel
theorem dL_law_956 : decode cL_law 956 = .ok (.iinc 9 1, 3) := by decide +kernel
theorem dL_law_959 : decode cL_law 959 = .ok (.goto (-769), 3) := by decide +kernel
theorem dL_law_962 : decode cL_law 962 = .ok (.iconst 0, 1) := by decide +kernel
theorem dL_law_963 : decode cL_law 963 = .ok (.istore 9, 2) := by decide +kernel
theorem dL_law_965 : decode cL_law 965 = .ok (.iload 9, 2) := by decide +kernel
theorem dL_law_967 : decode cL_law 967 = .ok (.bipush 8, 2) := by decide +kernel
theorem dL_law_969 : decode cL_law 969 = .ok (.if_icmp .ge 45, 3) := by decide +kernel
theorem dL_law_972 : decode cL_law 972 = .ok (.iload 9, 2) := by decide +kernel
theorem dL_law_974 : decode cL_law 974 = .ok (.iload 8, 2) := by decide +kernel
theorem dL_law_976 : decode cL_law 976 = .ok (.if_icmp .ge 38, 3) := by decide +kernel
theorem dL_law_979 : decode cL_law 979 = .ok (.iload_n 1, 1) := by decide +kernel
theorem dL_law_980 : decode cL_law 980 = .ok (.ifCond .eq 34, 3) := by decide +kernel
theorem dL_law_983 : decode cL_law 983 = .ok (.aload_n 3, 1) := by decide +kernel
theorem dL_law_984 : decode cL_law 984 = .ok (.invokevirtual 221, 3) := by decide +kernel
theorem dL_law_987 : decode cL_law 987 = .ok (.ifCond .lt 19, 3) := by decide +kernel
theorem dL_law_990 : decode cL_law 990 = .ok (.aload_n 3, 1) := by decide +kernel
theorem dL_law_991 : decode cL_law 991 = .ok (.aload 7, 2) := by decide +kernel
theorem dL_law_993 : decode cL_law 993 = .ok (.iload 9, 2) := by decide +kernel
theorem dL_law_995 : decode cL_law 995 = .ok (.aaload, 1) := by decide +kernel
theorem dL_law_996 : decode cL_law 996 = .ok (.invokestatic 214, 3) := by decide +kernel
theorem dL_law_999 : decode cL_law 999 = .ok (.ifCond .eq 7, 3) := by decide +kernel
theorem dL_law_1002 : decode cL_law 1002 = .ok (.iconst 1, 1) := by decide +kernel
theorem dL_law_1003 : decode cL_law 1003 = .ok (.goto 4, 3) := by decide +kernel
theorem dL_law_1006 : decode cL_law 1006 = .ok (.iconst 0, 1) := by decide +kernel
theorem dL_law_1007 : decode cL_law 1007 = .ok (.istore_n 1, 1) := by decide +kernel
theorem dL_law_1008 : decode cL_law 1008 = .ok (.iinc 9 1, 3) := by decide +kernel
theorem dL_law_1011 : decode cL_law 1011 = .ok (.goto (-46), 3) := by decide +kernel
theorem dL_law_1014 : decode cL_law 1014 = .ok (.iload_n 1, 1) := by decide +kernel
theorem dL_law_1015 : decode cL_law 1015 = .ok (.ifCond .eq 70, 3) := by decide +kernel
theorem dL_law_1018 : decode cL_law 1018 = .ok (.aload_n 3, 1) := by decide +kernel
theorem dL_law_1019 : decode cL_law 1019 = .ok (.iconst 1, 1) := by decide +kernel
theorem dL_law_1020 : decode cL_law 1020 = .ok (.invokestatic 19, 3) := by decide +kernel
theorem dL_law_1023 : decode cL_law 1023 = .ok (.ldc 42, 2) := by decide +kernel
theorem dL_law_1025 : decode cL_law 1025 = .ok (.if_icmp .ne 60, 3) := by decide +kernel
theorem dL_law_1028 : decode cL_law 1028 = .ok (.aload_n 3, 1) := by decide +kernel
theorem dL_law_1029 : decode cL_law 1029 = .ok (.iconst (-1), 1) := by decide +kernel
theorem dL_law_1030 : decode cL_law 1030 = .ok (.invokestatic 260, 3) := by decide +kernel
theorem dL_law_1033 : decode cL_law 1033 = .ok (.ldc 52, 2) := by decide +kernel
theorem dL_law_1035 : decode cL_law 1035 = .ok (.if_icmp .ne 50, 3) := by decide +kernel
theorem dL_law_1038 : decode cL_law 1038 = .ok (.aload_n 3, 1) := by decide +kernel
theorem dL_law_1039 : decode cL_law 1039 = .ok (.bipush 60, 2) := by decide +kernel
theorem dL_law_1041 : decode cL_law 1041 = .ok (.invokestatic 262, 3) := by decide +kernel
theorem dL_law_1044 : decode cL_law 1044 = .ok (.ldc 52, 2) := by decide +kernel
theorem dL_law_1046 : decode cL_law 1046 = .ok (.if_icmp .ne 39, 3) := by decide +kernel
theorem dL_law_1049 : decode cL_law 1049 = .ok (.aload_n 3, 1) := by decide +kernel
theorem dL_law_1050 : decode cL_law 1050 = .ok (.bipush 6, 2) := by decide +kernel
theorem dL_law_1052 : decode cL_law 1052 = .ok (.invokestatic 264, 3) := by decide +kernel
theorem dL_law_1055 : decode cL_law 1055 = .ok (.ldc 52, 2) := by decide +kernel
theorem dL_law_1057 : decode cL_law 1057 = .ok (.if_icmp .ne 28, 3) := by decide +kernel
theorem dL_law_1060 : decode cL_law 1060 = .ok (.aload_n 3, 1) := by decide +kernel
theorem dL_law_1061 : decode cL_law 1061 = .ok (.iconst (-1), 1) := by decide +kernel
theorem dL_law_1062 : decode cL_law 1062 = .ok (.invokestatic 266, 3) := by decide +kernel
theorem dL_law_1065 : decode cL_law 1065 = .ok (.ldc 52, 2) := by decide +kernel
theorem dL_law_1067 : decode cL_law 1067 = .ok (.if_icmp .ne 18, 3) := by decide +kernel
theorem dL_law_1070 : decode cL_law 1070 = .ok (.aload_n 3, 1) := by decide +kernel
theorem dL_law_1071 : decode cL_law 1071 = .ok (.iconst (-1), 1) := by decide +kernel
theorem dL_law_1072 : decode cL_law 1072 = .ok (.iconst 0, 1) := by decide +kernel
theorem dL_law_1073 : decode cL_law 1073 = .ok (.invokestatic 240, 3) := by decide +kernel
theorem dL_law_1076 : decode cL_law 1076 = .ok (.ldc 52, 2) := by decide +kernel
theorem dL_law_1078 : decode cL_law 1078 = .ok (.if_icmp .ne 7, 3) := by decide +kernel
theorem dL_law_1081 : decode cL_law 1081 = .ok (.iconst 1, 1) := by decide +kernel
theorem dL_law_1082 : decode cL_law 1082 = .ok (.goto 4, 3) := by decide +kernel
theorem dL_law_1085 : decode cL_law 1085 = .ok (.iconst 0, 1) := by decide +kernel
theorem dL_law_1086 : decode cL_law 1086 = .ok (.istore_n 1, 1) := by decide +kernel
theorem dL_law_1087 : decode cL_law 1087 = .ok (.iinc 2 1, 3) := by decide +kernel
theorem dL_law_1090 : decode cL_law 1090 = .ok (.goto (-1086), 3) := by decide +kernel
theorem dL_law_1093 : decode cL_law 1093 = .ok (.iload_n 1, 1) := by decide +kernel
theorem dL_law_1094 : decode cL_law 1094 = .ok (.ireturn, 1) := by decide +kernel
