theorem dX0_init_0 : decode cX0_init 0 = .ok (.aload_n 0, 1) := by decide +kernel
theorem dX0_init_1 : decode cX0_init 1 = .ok (.invokespecial 3, 3) := by decide +kernel
theorem dX0_init_4 : decode cX0_init 4 = .ok (.aload_n 0, 1) := by decide +kernel
theorem dX0_init_5 : decode cX0_init 5 = .ok (.sipush 700, 3) := by decide +kernel
theorem dX0_init_8 : decode cX0_init 8 = .ok (.newarray .int, 2) := by decide +kernel
theorem dX0_init_10 : decode cX0_init 10 = .ok (.putfield 9, 3) := by decide +kernel
theorem dX0_init_13 : decode cX0_init 13 = .ok (.aload_n 0, 1) := by decide +kernel
theorem dX0_init_14 : decode cX0_init 14 = .ok (.bipush 16, 2) := by decide +kernel
theorem dX0_init_16 : decode cX0_init 16 = .ok (.newarray .int, 2) := by decide +kernel
theorem dX0_init_18 : decode cX0_init 18 = .ok (.putfield 15, 3) := by decide +kernel
theorem dX0_init_21 : decode cX0_init 21 = .ok (.return_, 1) := by decide +kernel
theorem dX0_copyOf_0 : decode cX0_copyOf 0 = .ok (.aload_n 0, 1) := by decide +kernel
theorem dX0_copyOf_1 : decode cX0_copyOf 1 = .ok (.aload_n 1, 1) := by decide +kernel
theorem dX0_copyOf_2 : decode cX0_copyOf 2 = .ok (.getfield 18, 3) := by decide +kernel
theorem dX0_copyOf_5 : decode cX0_copyOf 5 = .ok (.putfield 18, 3) := by decide +kernel
theorem dX0_copyOf_8 : decode cX0_copyOf 8 = .ok (.iconst 0, 1) := by decide +kernel
theorem dX0_copyOf_9 : decode cX0_copyOf 9 = .ok (.istore_n 2, 1) := by decide +kernel
theorem dX0_copyOf_10 : decode cX0_copyOf 10 = .ok (.iload_n 2, 1) := by decide +kernel
theorem dX0_copyOf_11 : decode cX0_copyOf 11 = .ok (.aload_n 0, 1) := by decide +kernel
theorem dX0_copyOf_12 : decode cX0_copyOf 12 = .ok (.getfield 18, 3) := by decide +kernel
theorem dX0_copyOf_15 : decode cX0_copyOf 15 = .ok (.if_icmp .ge 21, 3) := by decide +kernel
theorem dX0_copyOf_18 : decode cX0_copyOf 18 = .ok (.aload_n 0, 1) := by decide +kernel
theorem dX0_copyOf_19 : decode cX0_copyOf 19 = .ok (.getfield 9, 3) := by decide +kernel
theorem dX0_copyOf_22 : decode cX0_copyOf 22 = .ok (.iload_n 2, 1) := by decide +kernel
theorem dX0_copyOf_23 : decode cX0_copyOf 23 = .ok (.aload_n 1, 1) := by decide +kernel
theorem dX0_copyOf_24 : decode cX0_copyOf 24 = .ok (.getfield 9, 3) := by decide +kernel
theorem dX0_copyOf_27 : decode cX0_copyOf 27 = .ok (.iload_n 2, 1) := by decide +kernel
theorem dX0_copyOf_28 : decode cX0_copyOf 28 = .ok (.iaload, 1) := by decide +kernel
theorem dX0_copyOf_29 : decode cX0_copyOf 29 = .ok (.iastore, 1) := by decide +kernel
theorem dX0_copyOf_30 : decode cX0_copyOf 30 = .ok (.iinc 2 1, 3) := by decide +kernel
theorem dX0_copyOf_33 : decode cX0_copyOf 33 = .ok (.goto (-23), 3) := by decide +kernel
theorem dX0_copyOf_36 : decode cX0_copyOf 36 = .ok (.return_, 1) := by decide +kernel
theorem dX0_addStep_0 : decode cX0_addStep 0 = .ok (.aload_n 0, 1) := by decide +kernel
theorem dX0_addStep_1 : decode cX0_addStep 1 = .ok (.getfield 18, 3) := by decide +kernel
theorem dX0_addStep_4 : decode cX0_addStep 4 = .ok (.aload_n 0, 1) := by decide +kernel
theorem dX0_addStep_5 : decode cX0_addStep 5 = .ok (.getfield 9, 3) := by decide +kernel
theorem dX0_addStep_8 : decode cX0_addStep 8 = .ok (.arraylength, 1) := by decide +kernel
theorem dX0_addStep_9 : decode cX0_addStep 9 = .ok (.if_icmp .ge 23, 3) := by decide +kernel
theorem dX0_addStep_12 : decode cX0_addStep 12 = .ok (.aload_n 0, 1) := by decide +kernel
theorem dX0_addStep_13 : decode cX0_addStep 13 = .ok (.getfield 9, 3) := by decide +kernel
theorem dX0_addStep_16 : decode cX0_addStep 16 = .ok (.aload_n 0, 1) := by decide +kernel
theorem dX0_addStep_17 : decode cX0_addStep 17 = .ok (.getfield 18, 3) := by decide +kernel
theorem dX0_addStep_20 : decode cX0_addStep 20 = .ok (.iload_n 1, 1) := by decide +kernel
theorem dX0_addStep_21 : decode cX0_addStep 21 = .ok (.iastore, 1) := by decide +kernel
theorem dX0_addStep_22 : decode cX0_addStep 22 = .ok (.aload_n 0, 1) := by decide +kernel
theorem dX0_addStep_23 : decode cX0_addStep 23 = .ok (.dup, 1) := by decide +kernel
theorem dX0_addStep_24 : decode cX0_addStep 24 = .ok (.getfield 18, 3) := by decide +kernel
theorem dX0_addStep_27 : decode cX0_addStep 27 = .ok (.iconst 1, 1) := by decide +kernel
theorem dX0_addStep_28 : decode cX0_addStep 28 = .ok (.iadd, 1) := by decide +kernel
theorem dX0_addStep_29 : decode cX0_addStep 29 = .ok (.putfield 18, 3) := by decide +kernel
theorem dX0_addStep_32 : decode cX0_addStep 32 = .ok (.return_, 1) := by decide +kernel
theorem dX0_value_0 : decode cX0_value 0 = .ok (.iconst 0, 1) := by decide +kernel
theorem dX0_value_1 : decode cX0_value 1 = .ok (.istore 5, 2) := by decide +kernel
theorem dX0_value_3 : decode cX0_value 3 = .ok (.iconst 0, 1) := by decide +kernel
theorem dX0_value_4 : decode cX0_value 4 = .ok (.istore 6, 2) := by decide +kernel
theorem dX0_value_6 : decode cX0_value 6 = .ok (.iload 6, 2) := by decide +kernel
theorem dX0_value_8 : decode cX0_value 8 = .ok (.aload_n 0, 1) := by decide +kernel
theorem dX0_value_9 : decode cX0_value 9 = .ok (.getfield 18, 3) := by decide +kernel
theorem dX0_value_12 : decode cX0_value 12 = .ok (.if_icmp .ge 152, 3) := by decide +kernel
theorem dX0_value_15 : decode cX0_value 15 = .ok (.aload_n 0, 1) := by decide +kernel
theorem dX0_value_16 : decode cX0_value 16 = .ok (.getfield 9, 3) := by decide +kernel
theorem dX0_value_19 : decode cX0_value 19 = .ok (.iload 6, 2) := by decide +kernel
theorem dX0_value_21 : decode cX0_value 21 = .ok (.iaload, 1) := by decide +kernel
theorem dX0_value_22 : decode cX0_value 22 = .ok (.istore 7, 2) := by decide +kernel
theorem dX0_value_24 : decode cX0_value 24 = .ok (.iload 7, 2) := by decide +kernel
theorem dX0_value_26 : decode cX0_value 26 = .ok (.bipush (-6), 2) := by decide +kernel
theorem dX0_value_28 : decode cX0_value 28 = .ok (.if_icmp .gt 65, 3) := by decide +kernel
theorem dX0_value_31 : decode cX0_value 31 = .ok (.iload 7, 2) := by decide +kernel
theorem dX0_value_33 : decode cX0_value 33 = .ok (.bipush (-9), 2) := by decide +kernel
theorem dX0_value_35 : decode cX0_value 35 = .ok (.if_icmp .lt 58, 3) := by decide +kernel
theorem dX0_value_38 : decode cX0_value 38 = .ok (.iload 5, 2) := by decide +kernel
theorem dX0_value_40 : decode cX0_value 40 = .ok (.iconst 2, 1) := by decide +kernel
theorem dX0_value_41 : decode cX0_value 41 = .ok (.if_icmp .lt 117, 3) := by decide +kernel
theorem dX0_value_44 : decode cX0_value 44 = .ok (.iload 5, 2) := by decide +kernel
theorem dX0_value_46 : decode cX0_value 46 = .ok (.aload_n 0, 1) := by decide +kernel
theorem dX0_value_47 : decode cX0_value 47 = .ok (.getfield 15, 3) := by decide +kernel
theorem dX0_value_50 : decode cX0_value 50 = .ok (.arraylength, 1) := by decide +kernel
theorem dX0_value_51 : decode cX0_value 51 = .ok (.if_icmp .gt 107, 3) := by decide +kernel
theorem dX0_value_54 : decode cX0_value 54 = .ok (.aload_n 0, 1) := by decide +kernel
theorem dX0_value_55 : decode cX0_value 55 = .ok (.getfield 15, 3) := by decide +kernel
theorem dX0_value_58 : decode cX0_value 58 = .ok (.iload 5, 2) := by decide +kernel
theorem dX0_value_60 : decode cX0_value 60 = .ok (.iconst 2, 1) := by decide +kernel
theorem dX0_value_61 : decode cX0_value 61 = .ok (.isub, 1) := by decide +kernel
theorem dX0_value_62 : decode cX0_value 62 = .ok (.iload 7, 2) := by decide +kernel
theorem dX0_value_64 : decode cX0_value 64 = .ok (.ineg, 1) := by decide +kernel
theorem dX0_value_65 : decode cX0_value 65 = .ok (.aload_n 0, 1) := by decide +kernel
theorem dX0_value_66 : decode cX0_value 66 = .ok (.getfield 15, 3) := by decide +kernel
theorem dX0_value_69 : decode cX0_value 69 = .ok (.iload 5, 2) := by decide +kernel
theorem dX0_value_71 : decode cX0_value 71 = .ok (.iconst 2, 1) := by decide +kernel
theorem dX0_value_72 : decode cX0_value 72 = .ok (.isub, 1) := by decide +kernel
theorem dX0_value_73 : decode cX0_value 73 = .ok (.iaload, 1) := by decide +kernel
theorem dX0_value_74 : decode cX0_value 74 = .ok (.aload_n 0, 1) := by decide +kernel
theorem dX0_value_75 : decode cX0_value 75 = .ok (.getfield 15, 3) := by decide +kernel
theorem dX0_value_78 : decode cX0_value 78 = .ok (.iload 5, 2) := by decide +kernel
theorem dX0_value_80 : decode cX0_value 80 = .ok (.iconst 1, 1) := by decide +kernel
theorem dX0_value_81 : decode cX0_value 81 = .ok (.isub, 1) := by decide +kernel
theorem dX0_value_82 : decode cX0_value 82 = .ok (.iaload, 1) := by decide +kernel
theorem dX0_value_83 : decode cX0_value 83 = .ok (.invokestatic 22, 3) := by decide +kernel
theorem dX0_value_86 : decode cX0_value 86 = .ok (.iastore, 1) := by decide +kernel
theorem dX0_value_87 : decode cX0_value 87 = .ok (.iinc 5 (-1), 3) := by decide +kernel
theorem dX0_value_90 : decode cX0_value 90 = .ok (.goto 68, 3) := by decide +kernel
theorem dX0_value_93 : decode cX0_value 93 = .ok (.iload 5, 2) := by decide +kernel
theorem dX0_value_95 : decode cX0_value 95 = .ok (.aload_n 0, 1) := by decide +kernel
theorem dX0_value_96 : decode cX0_value 96 = .ok (.getfield 15, 3) := by decide +kernel
theorem dX0_value_99 : decode cX0_value 99 = .ok (.arraylength, 1) := by decide +kernel
theorem dX0_value_100 : decode cX0_value 100 = .ok (.if_icmp .ge 58, 3) := by decide +kernel
theorem dX0_value_103 : decode cX0_value 103 = .ok (.aload_n 0, 1) := by decide +kernel
theorem dX0_value_104 : decode cX0_value 104 = .ok (.getfield 15, 3) := by decide +kernel
theorem dX0_value_107 : decode cX0_value 107 = .ok (.iload 5, 2) := by decide +kernel
theorem dX0_value_109 : decode cX0_value 109 = .ok (.iload 7, 2) := by decide +kernel
theorem dX0_value_111 : decode cX0_value 111 = .ok (.ifCond .lt 8, 3) := by decide +kernel
theorem dX0_value_114 : decode cX0_value 114 = .ok (.iload 7, 2) := by decide +kernel
theorem dX0_value_116 : decode cX0_value 116 = .ok (.goto 38, 3) := by decide +kernel
theorem dX0_value_119 : decode cX0_value 119 = .ok (.iload 7, 2) := by decide +kernel
theorem dX0_value_121 : decode cX0_value 121 = .ok (.bipush (-12), 2) := by decide +kernel
theorem dX0_value_123 : decode cX0_value 123 = .ok (.if_icmp .ne 7, 3) := by decide +kernel
theorem dX0_value_126 : decode cX0_value 126 = .ok (.iload_n 1, 1) := by decide +kernel
theorem dX0_value_127 : decode cX0_value 127 = .ok (.goto 27, 3) := by decide +kernel
theorem dX0_value_130 : decode cX0_value 130 = .ok (.iload 7, 2) := by decide +kernel
theorem dX0_value_132 : decode cX0_value 132 = .ok (.bipush (-20), 2) := by decide +kernel
theorem dX0_value_134 : decode cX0_value 134 = .ok (.if_icmp .ne 7, 3) := by decide +kernel
theorem dX0_value_137 : decode cX0_value 137 = .ok (.iload_n 2, 1) := by decide +kernel
theorem dX0_value_138 : decode cX0_value 138 = .ok (.goto 16, 3) := by decide +kernel
theorem dX0_value_141 : decode cX0_value 141 = .ok (.iload 7, 2) := by decide +kernel
theorem dX0_value_143 : decode cX0_value 143 = .ok (.bipush (-21), 2) := by decide +kernel
theorem dX0_value_145 : decode cX0_value 145 = .ok (.if_icmp .ne 7, 3) := by decide +kernel
theorem dX0_value_148 : decode cX0_value 148 = .ok (.iload_n 3, 1) := by decide +kernel
theorem dX0_value_149 : decode cX0_value 149 = .ok (.goto 5, 3) := by decide +kernel
theorem dX0_value_152 : decode cX0_value 152 = .ok (.iload 4, 2) := by decide +kernel
theorem dX0_value_154 : decode cX0_value 154 = .ok (.iastore, 1) := by decide +kernel
theorem dX0_value_155 : decode cX0_value 155 = .ok (.iinc 5 1, 3) := by decide +kernel
theorem dX0_value_158 : decode cX0_value 158 = .ok (.iinc 6 1, 3) := by decide +kernel
theorem dX0_value_161 : decode cX0_value 161 = .ok (.goto (-155), 3) := by decide +kernel
theorem dX0_value_164 : decode cX0_value 164 = .ok (.aload_n 0, 1) := by decide +kernel
theorem dX0_value_165 : decode cX0_value 165 = .ok (.getfield 18, 3) := by decide +kernel
theorem dX0_value_168 : decode cX0_value 168 = .ok (.ifCond .ne 7, 3) := by decide +kernel
theorem dX0_value_171 : decode cX0_value 171 = .ok (.iload_n 2, 1) := by decide +kernel
theorem dX0_value_172 : decode cX0_value 172 = .ok (.goto 9, 3) := by decide +kernel
theorem dX0_value_175 : decode cX0_value 175 = .ok (.aload_n 0, 1) := by decide +kernel
theorem dX0_value_176 : decode cX0_value 176 = .ok (.getfield 15, 3) := by decide +kernel
theorem dX0_value_179 : decode cX0_value 179 = .ok (.iconst 0, 1) := by decide +kernel
theorem dX0_value_180 : decode cX0_value 180 = .ok (.iaload, 1) := by decide +kernel
theorem dX0_value_181 : decode cX0_value 181 = .ok (.istore 6, 2) := by decide +kernel
theorem dX0_value_183 : decode cX0_value 183 = .ok (.iload 6, 2) := by decide +kernel
theorem dX0_value_185 : decode cX0_value 185 = .ok (.ifCond .ge 7, 3) := by decide +kernel
theorem dX0_value_188 : decode cX0_value 188 = .ok (.iconst 0, 1) := by decide +kernel
theorem dX0_value_189 : decode cX0_value 189 = .ok (.goto 19, 3) := by decide +kernel
theorem dX0_value_192 : decode cX0_value 192 = .ok (.iload 6, 2) := by decide +kernel
theorem dX0_value_194 : decode cX0_value 194 = .ok (.sipush 9999, 3) := by decide +kernel
theorem dX0_value_197 : decode cX0_value 197 = .ok (.if_icmp .le 9, 3) := by decide +kernel
theorem dX0_value_200 : decode cX0_value 200 = .ok (.sipush 9999, 3) := by decide +kernel
theorem dX0_value_203 : decode cX0_value 203 = .ok (.goto 5, 3) := by decide +kernel
theorem dX0_value_206 : decode cX0_value 206 = .ok (.iload 6, 2) := by decide +kernel
theorem dX0_value_208 : decode cX0_value 208 = .ok (.ireturn, 1) := by decide +kernel
theorem dX0_result_0 : decode cX0_result 0 = .ok (.iload_n 0, 1) := by decide +kernel
theorem dX0_result_1 : decode cX0_result 1 = .ok (.bipush 6, 2) := by decide +kernel
theorem dX0_result_3 : decode cX0_result 3 = .ok (.if_icmp .ne 12, 3) := by decide +kernel
theorem dX0_result_6 : decode cX0_result 6 = .ok (.iload_n 1, 1) := by decide +kernel
theorem dX0_result_7 : decode cX0_result 7 = .ok (.i2l, 1) := by decide +kernel
theorem dX0_result_8 : decode cX0_result 8 = .ok (.iload_n 2, 1) := by decide +kernel
theorem dX0_result_9 : decode cX0_result 9 = .ok (.i2l, 1) := by decide +kernel
theorem dX0_result_10 : decode cX0_result 10 = .ok (.ladd, 1) := by decide +kernel
theorem dX0_result_11 : decode cX0_result 11 = .ok (.lstore_n 3, 1) := by decide +kernel
theorem dX0_result_12 : decode cX0_result 12 = .ok (.goto 46, 3) := by decide +kernel
theorem dX0_result_15 : decode cX0_result 15 = .ok (.iload_n 0, 1) := by decide +kernel
theorem dX0_result_16 : decode cX0_result 16 = .ok (.bipush 7, 2) := by decide +kernel
theorem dX0_result_18 : decode cX0_result 18 = .ok (.if_icmp .ne 12, 3) := by decide +kernel
theorem dX0_result_21 : decode cX0_result 21 = .ok (.iload_n 1, 1) := by decide +kernel
theorem dX0_result_22 : decode cX0_result 22 = .ok (.i2l, 1) := by decide +kernel
theorem dX0_result_23 : decode cX0_result 23 = .ok (.iload_n 2, 1) := by decide +kernel
theorem dX0_result_24 : decode cX0_result 24 = .ok (.i2l, 1) := by decide +kernel
theorem dX0_result_25 : decode cX0_result 25 = .ok (.lsub, 1) := by decide +kernel
theorem dX0_result_26 : decode cX0_result 26 = .ok (.lstore_n 3, 1) := by decide +kernel
theorem dX0_result_27 : decode cX0_result 27 = .ok (.goto 31, 3) := by decide +kernel
theorem dX0_result_30 : decode cX0_result 30 = .ok (.iload_n 0, 1) := by decide +kernel
theorem dX0_result_31 : decode cX0_result 31 = .ok (.bipush 8, 2) := by decide +kernel
theorem dX0_result_33 : decode cX0_result 33 = .ok (.if_icmp .ne 12, 3) := by decide +kernel
theorem dX0_result_36 : decode cX0_result 36 = .ok (.iload_n 1, 1) := by decide +kernel
theorem dX0_result_37 : decode cX0_result 37 = .ok (.i2l, 1) := by decide +kernel
theorem dX0_result_38 : decode cX0_result 38 = .ok (.iload_n 2, 1) := by decide +kernel
theorem dX0_result_39 : decode cX0_result 39 = .ok (.i2l, 1) := by decide +kernel
theorem dX0_result_40 : decode cX0_result 40 = .ok (.lmul, 1) := by decide +kernel
theorem dX0_result_41 : decode cX0_result 41 = .ok (.lstore_n 3, 1) := by decide +kernel
theorem dX0_result_42 : decode cX0_result 42 = .ok (.goto 16, 3) := by decide +kernel
theorem dX0_result_45 : decode cX0_result 45 = .ok (.iload_n 2, 1) := by decide +kernel
theorem dX0_result_46 : decode cX0_result 46 = .ok (.ifCond .ne 7, 3) := by decide +kernel
theorem dX0_result_49 : decode cX0_result 49 = .ok (.lconst 0, 1) := by decide +kernel
theorem dX0_result_50 : decode cX0_result 50 = .ok (.goto 7, 3) := by decide +kernel
theorem dX0_result_53 : decode cX0_result 53 = .ok (.iload_n 1, 1) := by decide +kernel
theorem dX0_result_54 : decode cX0_result 54 = .ok (.iload_n 2, 1) := by decide +kernel
theorem dX0_result_55 : decode cX0_result 55 = .ok (.idiv, 1) := by decide +kernel
theorem dX0_result_56 : decode cX0_result 56 = .ok (.i2l, 1) := by decide +kernel
theorem dX0_result_57 : decode cX0_result 57 = .ok (.lstore_n 3, 1) := by decide +kernel
theorem dX0_result_58 : decode cX0_result 58 = .ok (.lload_n 3, 1) := by decide +kernel
theorem dX0_result_59 : decode cX0_result 59 = .ok (.ldc2_w 26, 3) := by decide +kernel
theorem dX0_result_62 : decode cX0_result 62 = .ok (.lcmp, 1) := by decide +kernel
theorem dX0_result_63 : decode cX0_result 63 = .ok (.ifCond .ge 9, 3) := by decide +kernel
theorem dX0_result_66 : decode cX0_result 66 = .ok (.ldc2_w 26, 3) := by decide +kernel
theorem dX0_result_69 : decode cX0_result 69 = .ok (.goto 18, 3) := by decide +kernel
theorem dX0_result_72 : decode cX0_result 72 = .ok (.lload_n 3, 1) := by decide +kernel
theorem dX0_result_73 : decode cX0_result 73 = .ok (.ldc2_w 28, 3) := by decide +kernel
theorem dX0_result_76 : decode cX0_result 76 = .ok (.lcmp, 1) := by decide +kernel
theorem dX0_result_77 : decode cX0_result 77 = .ok (.ifCond .le 9, 3) := by decide +kernel
theorem dX0_result_80 : decode cX0_result 80 = .ok (.ldc2_w 28, 3) := by decide +kernel
theorem dX0_result_83 : decode cX0_result 83 = .ok (.goto 4, 3) := by decide +kernel
theorem dX0_result_86 : decode cX0_result 86 = .ok (.lload_n 3, 1) := by decide +kernel
theorem dX0_result_87 : decode cX0_result 87 = .ok (.l2i, 1) := by decide +kernel
theorem dX0_result_88 : decode cX0_result 88 = .ok (.ireturn, 1) := by decide +kernel
theorem dX1_init_0 : decode cX1_init 0 = .ok (.aload_n 0, 1) := by decide +kernel
theorem dX1_init_1 : decode cX1_init 1 = .ok (.invokespecial 1, 3) := by decide +kernel
theorem dX1_init_4 : decode cX1_init 4 = .ok (.return_, 1) := by decide +kernel
theorem dX1_begin_0 : decode cX1_begin 0 = .ok (.aload_n 0, 1) := by decide +kernel
theorem dX1_begin_1 : decode cX1_begin 1 = .ok (.iload_n 1, 1) := by decide +kernel
theorem dX1_begin_2 : decode cX1_begin 2 = .ok (.putfield 7, 3) := by decide +kernel
theorem dX1_begin_5 : decode cX1_begin 5 = .ok (.aload_n 0, 1) := by decide +kernel
theorem dX1_begin_6 : decode cX1_begin 6 = .ok (.iload_n 2, 1) := by decide +kernel
theorem dX1_begin_7 : decode cX1_begin 7 = .ok (.putfield 13, 3) := by decide +kernel
theorem dX1_begin_10 : decode cX1_begin 10 = .ok (.aload_n 0, 1) := by decide +kernel
theorem dX1_begin_11 : decode cX1_begin 11 = .ok (.iconst 0, 1) := by decide +kernel
theorem dX1_begin_12 : decode cX1_begin 12 = .ok (.putfield 16, 3) := by decide +kernel
theorem dX1_begin_15 : decode cX1_begin 15 = .ok (.aload_n 0, 1) := by decide +kernel
theorem dX1_begin_16 : decode cX1_begin 16 = .ok (.iconst 0, 1) := by decide +kernel
theorem dX1_begin_17 : decode cX1_begin 17 = .ok (.putfield 20, 3) := by decide +kernel
theorem dX1_begin_20 : decode cX1_begin 20 = .ok (.aload_n 0, 1) := by decide +kernel
theorem dX1_begin_21 : decode cX1_begin 21 = .ok (.iconst 0, 1) := by decide +kernel
theorem dX1_begin_22 : decode cX1_begin 22 = .ok (.putfield 23, 3) := by decide +kernel
theorem dX1_begin_25 : decode cX1_begin 25 = .ok (.aload_n 0, 1) := by decide +kernel
theorem dX1_begin_26 : decode cX1_begin 26 = .ok (.iconst 0, 1) := by decide +kernel
theorem dX1_begin_27 : decode cX1_begin 27 = .ok (.putfield 26, 3) := by decide +kernel
theorem dX1_begin_30 : decode cX1_begin 30 = .ok (.aload_n 0, 1) := by decide +kernel
theorem dX1_begin_31 : decode cX1_begin 31 = .ok (.iconst 0, 1) := by decide +kernel
theorem dX1_begin_32 : decode cX1_begin 32 = .ok (.putfield 29, 3) := by decide +kernel
theorem dX1_begin_35 : decode cX1_begin 35 = .ok (.return_, 1) := by decide +kernel
theorem dX1_copyOf_0 : decode cX1_copyOf 0 = .ok (.aload_n 0, 1) := by decide +kernel
theorem dX1_copyOf_1 : decode cX1_copyOf 1 = .ok (.aload_n 1, 1) := by decide +kernel
theorem dX1_copyOf_2 : decode cX1_copyOf 2 = .ok (.getfield 7, 3) := by decide +kernel
theorem dX1_copyOf_5 : decode cX1_copyOf 5 = .ok (.putfield 7, 3) := by decide +kernel
theorem dX1_copyOf_8 : decode cX1_copyOf 8 = .ok (.aload_n 0, 1) := by decide +kernel
theorem dX1_copyOf_9 : decode cX1_copyOf 9 = .ok (.aload_n 1, 1) := by decide +kernel
theorem dX1_copyOf_10 : decode cX1_copyOf 10 = .ok (.getfield 13, 3) := by decide +kernel
theorem dX1_copyOf_13 : decode cX1_copyOf 13 = .ok (.putfield 13, 3) := by decide +kernel
theorem dX1_copyOf_16 : decode cX1_copyOf 16 = .ok (.aload_n 0, 1) := by decide +kernel
theorem dX1_copyOf_17 : decode cX1_copyOf 17 = .ok (.aload_n 1, 1) := by decide +kernel
theorem dX1_copyOf_18 : decode cX1_copyOf 18 = .ok (.getfield 16, 3) := by decide +kernel
theorem dX1_copyOf_21 : decode cX1_copyOf 21 = .ok (.putfield 16, 3) := by decide +kernel
theorem dX1_copyOf_24 : decode cX1_copyOf 24 = .ok (.aload_n 0, 1) := by decide +kernel
theorem dX1_copyOf_25 : decode cX1_copyOf 25 = .ok (.aload_n 1, 1) := by decide +kernel
theorem dX1_copyOf_26 : decode cX1_copyOf 26 = .ok (.getfield 20, 3) := by decide +kernel
theorem dX1_copyOf_29 : decode cX1_copyOf 29 = .ok (.putfield 20, 3) := by decide +kernel
theorem dX1_copyOf_32 : decode cX1_copyOf 32 = .ok (.aload_n 0, 1) := by decide +kernel
theorem dX1_copyOf_33 : decode cX1_copyOf 33 = .ok (.aload_n 1, 1) := by decide +kernel
theorem dX1_copyOf_34 : decode cX1_copyOf 34 = .ok (.getfield 23, 3) := by decide +kernel
theorem dX1_copyOf_37 : decode cX1_copyOf 37 = .ok (.putfield 23, 3) := by decide +kernel
theorem dX1_copyOf_40 : decode cX1_copyOf 40 = .ok (.aload_n 0, 1) := by decide +kernel
theorem dX1_copyOf_41 : decode cX1_copyOf 41 = .ok (.aload_n 1, 1) := by decide +kernel
theorem dX1_copyOf_42 : decode cX1_copyOf 42 = .ok (.getfield 26, 3) := by decide +kernel
theorem dX1_copyOf_45 : decode cX1_copyOf 45 = .ok (.putfield 26, 3) := by decide +kernel
theorem dX1_copyOf_48 : decode cX1_copyOf 48 = .ok (.aload_n 0, 1) := by decide +kernel
theorem dX1_copyOf_49 : decode cX1_copyOf 49 = .ok (.aload_n 1, 1) := by decide +kernel
theorem dX1_copyOf_50 : decode cX1_copyOf 50 = .ok (.getfield 29, 3) := by decide +kernel
theorem dX1_copyOf_53 : decode cX1_copyOf 53 = .ok (.putfield 29, 3) := by decide +kernel
theorem dX1_copyOf_56 : decode cX1_copyOf 56 = .ok (.return_, 1) := by decide +kernel
theorem dX2_init_0 : decode cX2_init 0 = .ok (.aload_n 0, 1) := by decide +kernel
theorem dX2_init_1 : decode cX2_init 1 = .ok (.invokespecial 3, 3) := by decide +kernel
theorem dX2_init_4 : decode cX2_init 4 = .ok (.aload_n 0, 1) := by decide +kernel
theorem dX2_init_5 : decode cX2_init 5 = .ok (.iconst 3, 1) := by decide +kernel
theorem dX2_init_6 : decode cX2_init 6 = .ok (.newarray .int, 2) := by decide +kernel
theorem dX2_init_8 : decode cX2_init 8 = .ok (.putfield 9, 3) := by decide +kernel
theorem dX2_init_11 : decode cX2_init 11 = .ok (.return_, 1) := by decide +kernel
theorem dX2_begin_0 : decode cX2_begin 0 = .ok (.aload_n 0, 1) := by decide +kernel
theorem dX2_begin_1 : decode cX2_begin 1 = .ok (.iload_n 1, 1) := by decide +kernel
theorem dX2_begin_2 : decode cX2_begin 2 = .ok (.putfield 15, 3) := by decide +kernel
theorem dX2_begin_5 : decode cX2_begin 5 = .ok (.aload_n 0, 1) := by decide +kernel
theorem dX2_begin_6 : decode cX2_begin 6 = .ok (.iload_n 2, 1) := by decide +kernel
theorem dX2_begin_7 : decode cX2_begin 7 = .ok (.putfield 19, 3) := by decide +kernel
theorem dX2_begin_10 : decode cX2_begin 10 = .ok (.aload_n 0, 1) := by decide +kernel
theorem dX2_begin_11 : decode cX2_begin 11 = .ok (.iload_n 3, 1) := by decide +kernel
theorem dX2_begin_12 : decode cX2_begin 12 = .ok (.putfield 22, 3) := by decide +kernel
theorem dX2_begin_15 : decode cX2_begin 15 = .ok (.aload_n 0, 1) := by decide +kernel
theorem dX2_begin_16 : decode cX2_begin 16 = .ok (.iconst 0, 1) := by decide +kernel
theorem dX2_begin_17 : decode cX2_begin 17 = .ok (.putfield 25, 3) := by decide +kernel
theorem dX2_begin_20 : decode cX2_begin 20 = .ok (.return_, 1) := by decide +kernel
theorem dX2_copyOf_0 : decode cX2_copyOf 0 = .ok (.aload_n 0, 1) := by decide +kernel
theorem dX2_copyOf_1 : decode cX2_copyOf 1 = .ok (.aload_n 1, 1) := by decide +kernel
theorem dX2_copyOf_2 : decode cX2_copyOf 2 = .ok (.getfield 15, 3) := by decide +kernel
theorem dX2_copyOf_5 : decode cX2_copyOf 5 = .ok (.putfield 15, 3) := by decide +kernel
theorem dX2_copyOf_8 : decode cX2_copyOf 8 = .ok (.aload_n 0, 1) := by decide +kernel
theorem dX2_copyOf_9 : decode cX2_copyOf 9 = .ok (.aload_n 1, 1) := by decide +kernel
theorem dX2_copyOf_10 : decode cX2_copyOf 10 = .ok (.getfield 19, 3) := by decide +kernel
theorem dX2_copyOf_13 : decode cX2_copyOf 13 = .ok (.putfield 19, 3) := by decide +kernel
theorem dX2_copyOf_16 : decode cX2_copyOf 16 = .ok (.aload_n 0, 1) := by decide +kernel
theorem dX2_copyOf_17 : decode cX2_copyOf 17 = .ok (.aload_n 1, 1) := by decide +kernel
theorem dX2_copyOf_18 : decode cX2_copyOf 18 = .ok (.getfield 22, 3) := by decide +kernel
theorem dX2_copyOf_21 : decode cX2_copyOf 21 = .ok (.putfield 22, 3) := by decide +kernel
theorem dX2_copyOf_24 : decode cX2_copyOf 24 = .ok (.aload_n 0, 1) := by decide +kernel
theorem dX2_copyOf_25 : decode cX2_copyOf 25 = .ok (.aload_n 1, 1) := by decide +kernel
theorem dX2_copyOf_26 : decode cX2_copyOf 26 = .ok (.getfield 25, 3) := by decide +kernel
theorem dX2_copyOf_29 : decode cX2_copyOf 29 = .ok (.putfield 25, 3) := by decide +kernel
theorem dX2_copyOf_32 : decode cX2_copyOf 32 = .ok (.iconst 0, 1) := by decide +kernel
theorem dX2_copyOf_33 : decode cX2_copyOf 33 = .ok (.istore_n 2, 1) := by decide +kernel
theorem dX2_copyOf_34 : decode cX2_copyOf 34 = .ok (.iload_n 2, 1) := by decide +kernel
theorem dX2_copyOf_35 : decode cX2_copyOf 35 = .ok (.aload_n 0, 1) := by decide +kernel
theorem dX2_copyOf_36 : decode cX2_copyOf 36 = .ok (.getfield 9, 3) := by decide +kernel
theorem dX2_copyOf_39 : decode cX2_copyOf 39 = .ok (.arraylength, 1) := by decide +kernel
theorem dX2_copyOf_40 : decode cX2_copyOf 40 = .ok (.if_icmp .ge 21, 3) := by decide +kernel
theorem dX2_copyOf_43 : decode cX2_copyOf 43 = .ok (.aload_n 0, 1) := by decide +kernel
theorem dX2_copyOf_44 : decode cX2_copyOf 44 = .ok (.getfield 9, 3) := by decide +kernel
theorem dX2_copyOf_47 : decode cX2_copyOf 47 = .ok (.iload_n 2, 1) := by decide +kernel
theorem dX2_copyOf_48 : decode cX2_copyOf 48 = .ok (.aload_n 1, 1) := by decide +kernel
theorem dX2_copyOf_49 : decode cX2_copyOf 49 = .ok (.getfield 9, 3) := by decide +kernel
theorem dX2_copyOf_52 : decode cX2_copyOf 52 = .ok (.iload_n 2, 1) := by decide +kernel
theorem dX2_copyOf_53 : decode cX2_copyOf 53 = .ok (.iaload, 1) := by decide +kernel
theorem dX2_copyOf_54 : decode cX2_copyOf 54 = .ok (.iastore, 1) := by decide +kernel
theorem dX2_copyOf_55 : decode cX2_copyOf 55 = .ok (.iinc 2 1, 3) := by decide +kernel
theorem dX2_copyOf_58 : decode cX2_copyOf 58 = .ok (.goto (-24), 3) := by decide +kernel
theorem dX2_copyOf_61 : decode cX2_copyOf 61 = .ok (.return_, 1) := by decide +kernel
theorem dX2_placeOf_0 : decode cX2_placeOf 0 = .ok (.iconst 0, 1) := by decide +kernel
theorem dX2_placeOf_1 : decode cX2_placeOf 1 = .ok (.istore_n 2, 1) := by decide +kernel
theorem dX2_placeOf_2 : decode cX2_placeOf 2 = .ok (.iload_n 2, 1) := by decide +kernel
theorem dX2_placeOf_3 : decode cX2_placeOf 3 = .ok (.aload_n 0, 1) := by decide +kernel
theorem dX2_placeOf_4 : decode cX2_placeOf 4 = .ok (.getfield 25, 3) := by decide +kernel
theorem dX2_placeOf_7 : decode cX2_placeOf 7 = .ok (.if_icmp .ge 21, 3) := by decide +kernel
theorem dX2_placeOf_10 : decode cX2_placeOf 10 = .ok (.aload_n 0, 1) := by decide +kernel
theorem dX2_placeOf_11 : decode cX2_placeOf 11 = .ok (.getfield 9, 3) := by decide +kernel
theorem dX2_placeOf_14 : decode cX2_placeOf 14 = .ok (.iload_n 2, 1) := by decide +kernel
theorem dX2_placeOf_15 : decode cX2_placeOf 15 = .ok (.iaload, 1) := by decide +kernel
theorem dX2_placeOf_16 : decode cX2_placeOf 16 = .ok (.iload_n 1, 1) := by decide +kernel
theorem dX2_placeOf_17 : decode cX2_placeOf 17 = .ok (.if_icmp .ne 5, 3) := by decide +kernel
theorem dX2_placeOf_20 : decode cX2_placeOf 20 = .ok (.iload_n 2, 1) := by decide +kernel
theorem dX2_placeOf_21 : decode cX2_placeOf 21 = .ok (.ireturn, 1) := by decide +kernel
theorem dX2_placeOf_22 : decode cX2_placeOf 22 = .ok (.iinc 2 1, 3) := by decide +kernel
theorem dX2_placeOf_25 : decode cX2_placeOf 25 = .ok (.goto (-23), 3) := by decide +kernel
theorem dX2_placeOf_28 : decode cX2_placeOf 28 = .ok (.iconst (-1), 1) := by decide +kernel
theorem dX2_placeOf_29 : decode cX2_placeOf 29 = .ok (.ireturn, 1) := by decide +kernel
theorem dX2_addTenant_0 : decode cX2_addTenant 0 = .ok (.aload_n 0, 1) := by decide +kernel
theorem dX2_addTenant_1 : decode cX2_addTenant 1 = .ok (.getfield 25, 3) := by decide +kernel
theorem dX2_addTenant_4 : decode cX2_addTenant 4 = .ok (.aload_n 0, 1) := by decide +kernel
theorem dX2_addTenant_5 : decode cX2_addTenant 5 = .ok (.getfield 9, 3) := by decide +kernel
theorem dX2_addTenant_8 : decode cX2_addTenant 8 = .ok (.arraylength, 1) := by decide +kernel
theorem dX2_addTenant_9 : decode cX2_addTenant 9 = .ok (.if_icmp .ge 23, 3) := by decide +kernel
theorem dX2_addTenant_12 : decode cX2_addTenant 12 = .ok (.aload_n 0, 1) := by decide +kernel
theorem dX2_addTenant_13 : decode cX2_addTenant 13 = .ok (.getfield 9, 3) := by decide +kernel
theorem dX2_addTenant_16 : decode cX2_addTenant 16 = .ok (.aload_n 0, 1) := by decide +kernel
theorem dX2_addTenant_17 : decode cX2_addTenant 17 = .ok (.getfield 25, 3) := by decide +kernel
theorem dX2_addTenant_20 : decode cX2_addTenant 20 = .ok (.iload_n 1, 1) := by decide +kernel
theorem dX2_addTenant_21 : decode cX2_addTenant 21 = .ok (.iastore, 1) := by decide +kernel
theorem dX2_addTenant_22 : decode cX2_addTenant 22 = .ok (.aload_n 0, 1) := by decide +kernel
theorem dX2_addTenant_23 : decode cX2_addTenant 23 = .ok (.dup, 1) := by decide +kernel
theorem dX2_addTenant_24 : decode cX2_addTenant 24 = .ok (.getfield 25, 3) := by decide +kernel
theorem dX2_addTenant_27 : decode cX2_addTenant 27 = .ok (.iconst 1, 1) := by decide +kernel
theorem dX2_addTenant_28 : decode cX2_addTenant 28 = .ok (.iadd, 1) := by decide +kernel
theorem dX2_addTenant_29 : decode cX2_addTenant 29 = .ok (.putfield 25, 3) := by decide +kernel
theorem dX2_addTenant_32 : decode cX2_addTenant 32 = .ok (.return_, 1) := by decide +kernel
theorem dX2_removeTenant_0 : decode cX2_removeTenant 0 = .ok (.iconst 0, 1) := by decide +kernel
theorem dX2_removeTenant_1 : decode cX2_removeTenant 1 = .ok (.istore_n 2, 1) := by decide +kernel
theorem dX2_removeTenant_2 : decode cX2_removeTenant 2 = .ok (.iconst 0, 1) := by decide +kernel
theorem dX2_removeTenant_3 : decode cX2_removeTenant 3 = .ok (.istore_n 3, 1) := by decide +kernel
theorem dX2_removeTenant_4 : decode cX2_removeTenant 4 = .ok (.iload_n 3, 1) := by decide +kernel
theorem dX2_removeTenant_5 : decode cX2_removeTenant 5 = .ok (.aload_n 0, 1) := by decide +kernel
theorem dX2_removeTenant_6 : decode cX2_removeTenant 6 = .ok (.getfield 25, 3) := by decide +kernel
theorem dX2_removeTenant_9 : decode cX2_removeTenant 9 = .ok (.if_icmp .ge 34, 3) := by decide +kernel
theorem dX2_removeTenant_12 : decode cX2_removeTenant 12 = .ok (.aload_n 0, 1) := by decide +kernel
theorem dX2_removeTenant_13 : decode cX2_removeTenant 13 = .ok (.getfield 9, 3) := by decide +kernel
theorem dX2_removeTenant_16 : decode cX2_removeTenant 16 = .ok (.iload_n 3, 1) := by decide +kernel
theorem dX2_removeTenant_17 : decode cX2_removeTenant 17 = .ok (.iaload, 1) := by decide +kernel
theorem dX2_removeTenant_18 : decode cX2_removeTenant 18 = .ok (.iload_n 1, 1) := by decide +kernel
theorem dX2_removeTenant_19 : decode cX2_removeTenant 19 = .ok (.if_icmp .eq 18, 3) := by decide +kernel
theorem dX2_removeTenant_22 : decode cX2_removeTenant 22 = .ok (.aload_n 0, 1) := by decide +kernel
theorem dX2_removeTenant_23 : decode cX2_removeTenant 23 = .ok (.getfield 9, 3) := by decide +kernel
theorem dX2_removeTenant_26 : decode cX2_removeTenant 26 = .ok (.iload_n 2, 1) := by decide +kernel
theorem dX2_removeTenant_27 : decode cX2_removeTenant 27 = .ok (.aload_n 0, 1) := by decide +kernel
theorem dX2_removeTenant_28 : decode cX2_removeTenant 28 = .ok (.getfield 9, 3) := by decide +kernel
theorem dX2_removeTenant_31 : decode cX2_removeTenant 31 = .ok (.iload_n 3, 1) := by decide +kernel
theorem dX2_removeTenant_32 : decode cX2_removeTenant 32 = .ok (.iaload, 1) := by decide +kernel
theorem dX2_removeTenant_33 : decode cX2_removeTenant 33 = .ok (.iastore, 1) := by decide +kernel
theorem dX2_removeTenant_34 : decode cX2_removeTenant 34 = .ok (.iinc 2 1, 3) := by decide +kernel
theorem dX2_removeTenant_37 : decode cX2_removeTenant 37 = .ok (.iinc 3 1, 3) := by decide +kernel
theorem dX2_removeTenant_40 : decode cX2_removeTenant 40 = .ok (.goto (-36), 3) := by decide +kernel
theorem dX2_removeTenant_43 : decode cX2_removeTenant 43 = .ok (.aload_n 0, 1) := by decide +kernel
theorem dX2_removeTenant_44 : decode cX2_removeTenant 44 = .ok (.iload_n 2, 1) := by decide +kernel
theorem dX2_removeTenant_45 : decode cX2_removeTenant 45 = .ok (.putfield 25, 3) := by decide +kernel
theorem dX2_removeTenant_48 : decode cX2_removeTenant 48 = .ok (.return_, 1) := by decide +kernel
theorem dX2_payAtMost_0 : decode cX2_payAtMost 0 = .ok (.iload_n 1, 1) := by decide +kernel
theorem dX2_payAtMost_1 : decode cX2_payAtMost 1 = .ok (.aload_n 0, 1) := by decide +kernel
theorem dX2_payAtMost_2 : decode cX2_payAtMost 2 = .ok (.getfield 22, 3) := by decide +kernel
theorem dX2_payAtMost_5 : decode cX2_payAtMost 5 = .ok (.if_icmp .ge 7, 3) := by decide +kernel
theorem dX2_payAtMost_8 : decode cX2_payAtMost 8 = .ok (.iload_n 1, 1) := by decide +kernel
theorem dX2_payAtMost_9 : decode cX2_payAtMost 9 = .ok (.goto 7, 3) := by decide +kernel
theorem dX2_payAtMost_12 : decode cX2_payAtMost 12 = .ok (.aload_n 0, 1) := by decide +kernel
theorem dX2_payAtMost_13 : decode cX2_payAtMost 13 = .ok (.getfield 22, 3) := by decide +kernel
theorem dX2_payAtMost_16 : decode cX2_payAtMost 16 = .ok (.istore_n 2, 1) := by decide +kernel
theorem dX2_payAtMost_17 : decode cX2_payAtMost 17 = .ok (.aload_n 0, 1) := by decide +kernel
theorem dX2_payAtMost_18 : decode cX2_payAtMost 18 = .ok (.dup, 1) := by decide +kernel
theorem dX2_payAtMost_19 : decode cX2_payAtMost 19 = .ok (.getfield 22, 3) := by decide +kernel
theorem dX2_payAtMost_22 : decode cX2_payAtMost 22 = .ok (.iload_n 2, 1) := by decide +kernel
theorem dX2_payAtMost_23 : decode cX2_payAtMost 23 = .ok (.isub, 1) := by decide +kernel
theorem dX2_payAtMost_24 : decode cX2_payAtMost 24 = .ok (.putfield 22, 3) := by decide +kernel
theorem dX2_payAtMost_27 : decode cX2_payAtMost 27 = .ok (.iload_n 2, 1) := by decide +kernel
theorem dX2_payAtMost_28 : decode cX2_payAtMost 28 = .ok (.ireturn, 1) := by decide +kernel
theorem dX3_init_0 : decode cX3_init 0 = .ok (.aload_n 0, 1) := by decide +kernel
theorem dX3_init_1 : decode cX3_init 1 = .ok (.invokespecial 3, 3) := by decide +kernel
theorem dX3_init_4 : decode cX3_init 4 = .ok (.return_, 1) := by decide +kernel
theorem dX3_begin_0 : decode cX3_begin 0 = .ok (.aload_n 0, 1) := by decide +kernel
theorem dX3_begin_1 : decode cX3_begin 1 = .ok (.iload_n 1, 1) := by decide +kernel
theorem dX3_begin_2 : decode cX3_begin 2 = .ok (.putfield 9, 3) := by decide +kernel
theorem dX3_begin_5 : decode cX3_begin 5 = .ok (.aload_n 0, 1) := by decide +kernel
theorem dX3_begin_6 : decode cX3_begin 6 = .ok (.iload_n 2, 1) := by decide +kernel
theorem dX3_begin_7 : decode cX3_begin 7 = .ok (.putfield 15, 3) := by decide +kernel
theorem dX3_begin_10 : decode cX3_begin 10 = .ok (.aload_n 0, 1) := by decide +kernel
theorem dX3_begin_11 : decode cX3_begin 11 = .ok (.iload_n 3, 1) := by decide +kernel
theorem dX3_begin_12 : decode cX3_begin 12 = .ok (.putfield 18, 3) := by decide +kernel
theorem dX3_begin_15 : decode cX3_begin 15 = .ok (.aload_n 0, 1) := by decide +kernel
theorem dX3_begin_16 : decode cX3_begin 16 = .ok (.iconst 0, 1) := by decide +kernel
theorem dX3_begin_17 : decode cX3_begin 17 = .ok (.putfield 21, 3) := by decide +kernel
theorem dX3_begin_20 : decode cX3_begin 20 = .ok (.aload_n 0, 1) := by decide +kernel
theorem dX3_begin_21 : decode cX3_begin 21 = .ok (.iconst (-1), 1) := by decide +kernel
theorem dX3_begin_22 : decode cX3_begin 22 = .ok (.putfield 24, 3) := by decide +kernel
theorem dX3_begin_25 : decode cX3_begin 25 = .ok (.aload_n 0, 1) := by decide +kernel
theorem dX3_begin_26 : decode cX3_begin 26 = .ok (.iconst 0, 1) := by decide +kernel
theorem dX3_begin_27 : decode cX3_begin 27 = .ok (.putfield 27, 3) := by decide +kernel
theorem dX3_begin_30 : decode cX3_begin 30 = .ok (.aload_n 0, 1) := by decide +kernel
theorem dX3_begin_31 : decode cX3_begin 31 = .ok (.iconst 0, 1) := by decide +kernel
theorem dX3_begin_32 : decode cX3_begin 32 = .ok (.putfield 30, 3) := by decide +kernel
theorem dX3_begin_35 : decode cX3_begin 35 = .ok (.aload_n 0, 1) := by decide +kernel
theorem dX3_begin_36 : decode cX3_begin 36 = .ok (.iconst (-1), 1) := by decide +kernel
theorem dX3_begin_37 : decode cX3_begin 37 = .ok (.putfield 33, 3) := by decide +kernel
theorem dX3_begin_40 : decode cX3_begin 40 = .ok (.return_, 1) := by decide +kernel
theorem dX3_copyOf_0 : decode cX3_copyOf 0 = .ok (.aload_n 0, 1) := by decide +kernel
theorem dX3_copyOf_1 : decode cX3_copyOf 1 = .ok (.aload_n 1, 1) := by decide +kernel
theorem dX3_copyOf_2 : decode cX3_copyOf 2 = .ok (.getfield 9, 3) := by decide +kernel
theorem dX3_copyOf_5 : decode cX3_copyOf 5 = .ok (.putfield 9, 3) := by decide +kernel
theorem dX3_copyOf_8 : decode cX3_copyOf 8 = .ok (.aload_n 0, 1) := by decide +kernel
theorem dX3_copyOf_9 : decode cX3_copyOf 9 = .ok (.aload_n 1, 1) := by decide +kernel
theorem dX3_copyOf_10 : decode cX3_copyOf 10 = .ok (.getfield 15, 3) := by decide +kernel
theorem dX3_copyOf_13 : decode cX3_copyOf 13 = .ok (.putfield 15, 3) := by decide +kernel
theorem dX3_copyOf_16 : decode cX3_copyOf 16 = .ok (.aload_n 0, 1) := by decide +kernel
theorem dX3_copyOf_17 : decode cX3_copyOf 17 = .ok (.aload_n 1, 1) := by decide +kernel
theorem dX3_copyOf_18 : decode cX3_copyOf 18 = .ok (.getfield 18, 3) := by decide +kernel
theorem dX3_copyOf_21 : decode cX3_copyOf 21 = .ok (.putfield 18, 3) := by decide +kernel
theorem dX3_copyOf_24 : decode cX3_copyOf 24 = .ok (.aload_n 0, 1) := by decide +kernel
theorem dX3_copyOf_25 : decode cX3_copyOf 25 = .ok (.aload_n 1, 1) := by decide +kernel
theorem dX3_copyOf_26 : decode cX3_copyOf 26 = .ok (.getfield 21, 3) := by decide +kernel
theorem dX3_copyOf_29 : decode cX3_copyOf 29 = .ok (.putfield 21, 3) := by decide +kernel
theorem dX3_copyOf_32 : decode cX3_copyOf 32 = .ok (.aload_n 0, 1) := by decide +kernel
theorem dX3_copyOf_33 : decode cX3_copyOf 33 = .ok (.aload_n 1, 1) := by decide +kernel
theorem dX3_copyOf_34 : decode cX3_copyOf 34 = .ok (.getfield 24, 3) := by decide +kernel
theorem dX3_copyOf_37 : decode cX3_copyOf 37 = .ok (.putfield 24, 3) := by decide +kernel
theorem dX3_copyOf_40 : decode cX3_copyOf 40 = .ok (.aload_n 0, 1) := by decide +kernel
theorem dX3_copyOf_41 : decode cX3_copyOf 41 = .ok (.aload_n 1, 1) := by decide +kernel
theorem dX3_copyOf_42 : decode cX3_copyOf 42 = .ok (.getfield 27, 3) := by decide +kernel
theorem dX3_copyOf_45 : decode cX3_copyOf 45 = .ok (.putfield 27, 3) := by decide +kernel
theorem dX3_copyOf_48 : decode cX3_copyOf 48 = .ok (.aload_n 0, 1) := by decide +kernel
theorem dX3_copyOf_49 : decode cX3_copyOf 49 = .ok (.aload_n 1, 1) := by decide +kernel
theorem dX3_copyOf_50 : decode cX3_copyOf 50 = .ok (.getfield 30, 3) := by decide +kernel
theorem dX3_copyOf_53 : decode cX3_copyOf 53 = .ok (.putfield 30, 3) := by decide +kernel
theorem dX3_copyOf_56 : decode cX3_copyOf 56 = .ok (.aload_n 0, 1) := by decide +kernel
theorem dX3_copyOf_57 : decode cX3_copyOf 57 = .ok (.aload_n 1, 1) := by decide +kernel
theorem dX3_copyOf_58 : decode cX3_copyOf 58 = .ok (.getfield 33, 3) := by decide +kernel
theorem dX3_copyOf_61 : decode cX3_copyOf 61 = .ok (.putfield 33, 3) := by decide +kernel
theorem dX3_copyOf_64 : decode cX3_copyOf 64 = .ok (.return_, 1) := by decide +kernel
theorem dX4_init_0 : decode cX4_init 0 = .ok (.aload_n 0, 1) := by decide +kernel
theorem dX4_init_1 : decode cX4_init 1 = .ok (.invokespecial 3, 3) := by decide +kernel
theorem dX4_init_4 : decode cX4_init 4 = .ok (.return_, 1) := by decide +kernel
theorem dX4_reads_0 : decode cX4_reads 0 = .ok (.aload_n 0, 1) := by decide +kernel
theorem dX4_reads_1 : decode cX4_reads 1 = .ok (.aload_n 1, 1) := by decide +kernel
theorem dX4_reads_2 : decode cX4_reads 2 = .ok (.putfield 9, 3) := by decide +kernel
theorem dX4_reads_5 : decode cX4_reads 5 = .ok (.aload_n 0, 1) := by decide +kernel
theorem dX4_reads_6 : decode cX4_reads 6 = .ok (.aload_n 2, 1) := by decide +kernel
theorem dX4_reads_7 : decode cX4_reads 7 = .ok (.putfield 15, 3) := by decide +kernel
theorem dX4_reads_10 : decode cX4_reads 10 = .ok (.aload_n 0, 1) := by decide +kernel
theorem dX4_reads_11 : decode cX4_reads 11 = .ok (.getfield 15, 3) := by decide +kernel
theorem dX4_reads_14 : decode cX4_reads 14 = .ok (.invokevirtual 19, 3) := by decide +kernel
theorem dX4_reads_17 : decode cX4_reads 17 = .ok (.aload_n 0, 1) := by decide +kernel
theorem dX4_reads_18 : decode cX4_reads 18 = .ok (.iconst 0, 1) := by decide +kernel
theorem dX4_reads_19 : decode cX4_reads 19 = .ok (.putfield 24, 3) := by decide +kernel
theorem dX4_reads_22 : decode cX4_reads 22 = .ok (.aload_n 0, 1) := by decide +kernel
theorem dX4_reads_23 : decode cX4_reads 23 = .ok (.iconst 0, 1) := by decide +kernel
theorem dX4_reads_24 : decode cX4_reads 24 = .ok (.putfield 28, 3) := by decide +kernel
theorem dX4_reads_27 : decode cX4_reads 27 = .ok (.aload_n 0, 1) := by decide +kernel
theorem dX4_reads_28 : decode cX4_reads 28 = .ok (.iconst 0, 1) := by decide +kernel
theorem dX4_reads_29 : decode cX4_reads 29 = .ok (.putfield 31, 3) := by decide +kernel
theorem dX4_reads_32 : decode cX4_reads 32 = .ok (.aload_n 0, 1) := by decide +kernel
theorem dX4_reads_33 : decode cX4_reads 33 = .ok (.iconst (-1), 1) := by decide +kernel
theorem dX4_reads_34 : decode cX4_reads 34 = .ok (.putfield 34, 3) := by decide +kernel
theorem dX4_reads_37 : decode cX4_reads 37 = .ok (.aload_n 0, 1) := by decide +kernel
theorem dX4_reads_38 : decode cX4_reads 38 = .ok (.bipush 10, 2) := by decide +kernel
theorem dX4_reads_40 : decode cX4_reads 40 = .ok (.invokevirtual 37, 3) := by decide +kernel
theorem dX4_reads_43 : decode cX4_reads 43 = .ok (.ifCond .eq 15, 3) := by decide +kernel
theorem dX4_reads_46 : decode cX4_reads 46 = .ok (.aload_n 0, 1) := by decide +kernel
theorem dX4_reads_47 : decode cX4_reads 47 = .ok (.iconst 3, 1) := by decide +kernel
theorem dX4_reads_48 : decode cX4_reads 48 = .ok (.invokevirtual 37, 3) := by decide +kernel
theorem dX4_reads_51 : decode cX4_reads 51 = .ok (.ifCond .eq 7, 3) := by decide +kernel
theorem dX4_reads_54 : decode cX4_reads 54 = .ok (.iconst 1, 1) := by decide +kernel
theorem dX4_reads_55 : decode cX4_reads 55 = .ok (.goto 4, 3) := by decide +kernel
theorem dX4_reads_58 : decode cX4_reads 58 = .ok (.iconst 0, 1) := by decide +kernel
theorem dX4_reads_59 : decode cX4_reads 59 = .ok (.istore_n 3, 1) := by decide +kernel
theorem dX4_reads_60 : decode cX4_reads 60 = .ok (.iconst 0, 1) := by decide +kernel
theorem dX4_reads_61 : decode cX4_reads 61 = .ok (.istore 4, 2) := by decide +kernel
theorem dX4_reads_63 : decode cX4_reads 63 = .ok (.iload 4, 2) := by decide +kernel
theorem dX4_reads_65 : decode cX4_reads 65 = .ok (.sipush 700, 3) := by decide +kernel
theorem dX4_reads_68 : decode cX4_reads 68 = .ok (.if_icmp .ge 41, 3) := by decide +kernel
theorem dX4_reads_71 : decode cX4_reads 71 = .ok (.iload_n 3, 1) := by decide +kernel
theorem dX4_reads_72 : decode cX4_reads 72 = .ok (.ifCond .eq 37, 3) := by decide +kernel
theorem dX4_reads_75 : decode cX4_reads 75 = .ok (.aload_n 0, 1) := by decide +kernel
theorem dX4_reads_76 : decode cX4_reads 76 = .ok (.invokevirtual 41, 3) := by decide +kernel
theorem dX4_reads_79 : decode cX4_reads 79 = .ok (.ifCond .eq 30, 3) := by decide +kernel
theorem dX4_reads_82 : decode cX4_reads 82 = .ok (.aload_n 0, 1) := by decide +kernel
theorem dX4_reads_83 : decode cX4_reads 83 = .ok (.invokevirtual 45, 3) := by decide +kernel
theorem dX4_reads_86 : decode cX4_reads 86 = .ok (.ifCond .eq 15, 3) := by decide +kernel
theorem dX4_reads_89 : decode cX4_reads 89 = .ok (.aload_n 0, 1) := by decide +kernel
theorem dX4_reads_90 : decode cX4_reads 90 = .ok (.iconst 3, 1) := by decide +kernel
theorem dX4_reads_91 : decode cX4_reads 91 = .ok (.invokevirtual 37, 3) := by decide +kernel
theorem dX4_reads_94 : decode cX4_reads 94 = .ok (.ifCond .eq 7, 3) := by decide +kernel
theorem dX4_reads_97 : decode cX4_reads 97 = .ok (.iconst 1, 1) := by decide +kernel
theorem dX4_reads_98 : decode cX4_reads 98 = .ok (.goto 4, 3) := by decide +kernel
theorem dX4_reads_101 : decode cX4_reads 101 = .ok (.iconst 0, 1) := by decide +kernel
theorem dX4_reads_102 : decode cX4_reads 102 = .ok (.istore_n 3, 1) := by decide +kernel
theorem dX4_reads_103 : decode cX4_reads 103 = .ok (.iinc 4 1, 3) := by decide +kernel
theorem dX4_reads_106 : decode cX4_reads 106 = .ok (.goto (-43), 3) := by decide +kernel
theorem dX4_reads_109 : decode cX4_reads 109 = .ok (.iload_n 3, 1) := by decide +kernel
theorem dX4_reads_110 : decode cX4_reads 110 = .ok (.ireturn, 1) := by decide +kernel
theorem dX4_kind_0 : decode cX4_kind 0 = .ok (.aload_n 0, 1) := by decide +kernel
theorem dX4_kind_1 : decode cX4_kind 1 = .ok (.getfield 24, 3) := by decide +kernel
theorem dX4_kind_4 : decode cX4_kind 4 = .ok (.aload_n 0, 1) := by decide +kernel
theorem dX4_kind_5 : decode cX4_kind 5 = .ok (.getfield 9, 3) := by decide +kernel
theorem dX4_kind_8 : decode cX4_kind 8 = .ok (.getfield 49, 3) := by decide +kernel
theorem dX4_kind_11 : decode cX4_kind 11 = .ok (.if_icmp .ge 18, 3) := by decide +kernel
theorem dX4_kind_14 : decode cX4_kind 14 = .ok (.aload_n 0, 1) := by decide +kernel
theorem dX4_kind_15 : decode cX4_kind 15 = .ok (.getfield 9, 3) := by decide +kernel
theorem dX4_kind_18 : decode cX4_kind 18 = .ok (.getfield 54, 3) := by decide +kernel
theorem dX4_kind_21 : decode cX4_kind 21 = .ok (.aload_n 0, 1) := by decide +kernel
theorem dX4_kind_22 : decode cX4_kind 22 = .ok (.getfield 24, 3) := by decide +kernel
theorem dX4_kind_25 : decode cX4_kind 25 = .ok (.iaload, 1) := by decide +kernel
theorem dX4_kind_26 : decode cX4_kind 26 = .ok (.goto 4, 3) := by decide +kernel
theorem dX4_kind_29 : decode cX4_kind 29 = .ok (.iconst 0, 1) := by decide +kernel
theorem dX4_kind_30 : decode cX4_kind 30 = .ok (.ireturn, 1) := by decide +kernel
theorem dX4_fails_0 : decode cX4_fails 0 = .ok (.aload_n 0, 1) := by decide +kernel
theorem dX4_fails_1 : decode cX4_fails 1 = .ok (.iload_n 1, 1) := by decide +kernel
theorem dX4_fails_2 : decode cX4_fails 2 = .ok (.putfield 31, 3) := by decide +kernel
theorem dX4_fails_5 : decode cX4_fails 5 = .ok (.aload_n 0, 1) := by decide +kernel
theorem dX4_fails_6 : decode cX4_fails 6 = .ok (.aload_n 0, 1) := by decide +kernel
theorem dX4_fails_7 : decode cX4_fails 7 = .ok (.getfield 24, 3) := by decide +kernel
theorem dX4_fails_10 : decode cX4_fails 10 = .ok (.aload_n 0, 1) := by decide +kernel
theorem dX4_fails_11 : decode cX4_fails 11 = .ok (.getfield 9, 3) := by decide +kernel
theorem dX4_fails_14 : decode cX4_fails 14 = .ok (.getfield 49, 3) := by decide +kernel
theorem dX4_fails_17 : decode cX4_fails 17 = .ok (.if_icmp .ge 18, 3) := by decide +kernel
theorem dX4_fails_20 : decode cX4_fails 20 = .ok (.aload_n 0, 1) := by decide +kernel
theorem dX4_fails_21 : decode cX4_fails 21 = .ok (.getfield 9, 3) := by decide +kernel
theorem dX4_fails_24 : decode cX4_fails 24 = .ok (.getfield 58, 3) := by decide +kernel
theorem dX4_fails_27 : decode cX4_fails 27 = .ok (.aload_n 0, 1) := by decide +kernel
theorem dX4_fails_28 : decode cX4_fails 28 = .ok (.getfield 24, 3) := by decide +kernel
theorem dX4_fails_31 : decode cX4_fails 31 = .ok (.iaload, 1) := by decide +kernel
theorem dX4_fails_32 : decode cX4_fails 32 = .ok (.goto 4, 3) := by decide +kernel
theorem dX4_fails_35 : decode cX4_fails 35 = .ok (.iconst 0, 1) := by decide +kernel
theorem dX4_fails_36 : decode cX4_fails 36 = .ok (.putfield 34, 3) := by decide +kernel
theorem dX4_fails_39 : decode cX4_fails 39 = .ok (.iconst 0, 1) := by decide +kernel
theorem dX4_fails_40 : decode cX4_fails 40 = .ok (.ireturn, 1) := by decide +kernel
theorem dX4_takes_0 : decode cX4_takes 0 = .ok (.aload_n 0, 1) := by decide +kernel
theorem dX4_takes_1 : decode cX4_takes 1 = .ok (.invokevirtual 41, 3) := by decide +kernel
theorem dX4_takes_4 : decode cX4_takes 4 = .ok (.iload_n 1, 1) := by decide +kernel
theorem dX4_takes_5 : decode cX4_takes 5 = .ok (.if_icmp .eq 10, 3) := by decide +kernel
theorem dX4_takes_8 : decode cX4_takes 8 = .ok (.aload_n 0, 1) := by decide +kernel
theorem dX4_takes_9 : decode cX4_takes 9 = .ok (.bipush (-2), 2) := by decide +kernel
theorem dX4_takes_11 : decode cX4_takes 11 = .ok (.invokevirtual 61, 3) := by decide +kernel
theorem dX4_takes_14 : decode cX4_takes 14 = .ok (.ireturn, 1) := by decide +kernel
theorem dX4_takes_15 : decode cX4_takes 15 = .ok (.aload_n 0, 1) := by decide +kernel
theorem dX4_takes_16 : decode cX4_takes 16 = .ok (.dup, 1) := by decide +kernel
theorem dX4_takes_17 : decode cX4_takes 17 = .ok (.getfield 24, 3) := by decide +kernel
theorem dX4_takes_20 : decode cX4_takes 20 = .ok (.iconst 1, 1) := by decide +kernel
theorem dX4_takes_21 : decode cX4_takes 21 = .ok (.iadd, 1) := by decide +kernel
theorem dX4_takes_22 : decode cX4_takes 22 = .ok (.putfield 24, 3) := by decide +kernel
theorem dX4_takes_25 : decode cX4_takes 25 = .ok (.iconst 1, 1) := by decide +kernel
theorem dX4_takes_26 : decode cX4_takes 26 = .ok (.ireturn, 1) := by decide +kernel
theorem dX4_readsNumber_0 : decode cX4_readsNumber 0 = .ok (.aload_n 0, 1) := by decide +kernel
theorem dX4_readsNumber_1 : decode cX4_readsNumber 1 = .ok (.invokevirtual 41, 3) := by decide +kernel
theorem dX4_readsNumber_4 : decode cX4_readsNumber 4 = .ok (.iconst 2, 1) := by decide +kernel
theorem dX4_readsNumber_5 : decode cX4_readsNumber 5 = .ok (.if_icmp .ne 17, 3) := by decide +kernel
theorem dX4_readsNumber_8 : decode cX4_readsNumber 8 = .ok (.aload_n 0, 1) := by decide +kernel
theorem dX4_readsNumber_9 : decode cX4_readsNumber 9 = .ok (.getfield 24, 3) := by decide +kernel
theorem dX4_readsNumber_12 : decode cX4_readsNumber 12 = .ok (.aload_n 0, 1) := by decide +kernel
theorem dX4_readsNumber_13 : decode cX4_readsNumber 13 = .ok (.getfield 9, 3) := by decide +kernel
theorem dX4_readsNumber_16 : decode cX4_readsNumber 16 = .ok (.getfield 49, 3) := by decide +kernel
theorem dX4_readsNumber_19 : decode cX4_readsNumber 19 = .ok (.if_icmp .lt 10, 3) := by decide +kernel
theorem dX4_readsNumber_22 : decode cX4_readsNumber 22 = .ok (.aload_n 0, 1) := by decide +kernel
theorem dX4_readsNumber_23 : decode cX4_readsNumber 23 = .ok (.bipush (-2), 2) := by decide +kernel
theorem dX4_readsNumber_25 : decode cX4_readsNumber 25 = .ok (.invokevirtual 61, 3) := by decide +kernel
theorem dX4_readsNumber_28 : decode cX4_readsNumber 28 = .ok (.ireturn, 1) := by decide +kernel
theorem dX4_readsNumber_29 : decode cX4_readsNumber 29 = .ok (.aload_n 0, 1) := by decide +kernel
theorem dX4_readsNumber_30 : decode cX4_readsNumber 30 = .ok (.aload_n 0, 1) := by decide +kernel
theorem dX4_readsNumber_31 : decode cX4_readsNumber 31 = .ok (.getfield 9, 3) := by decide +kernel
theorem dX4_readsNumber_34 : decode cX4_readsNumber 34 = .ok (.getfield 64, 3) := by decide +kernel
theorem dX4_readsNumber_37 : decode cX4_readsNumber 37 = .ok (.aload_n 0, 1) := by decide +kernel
theorem dX4_readsNumber_38 : decode cX4_readsNumber 38 = .ok (.getfield 24, 3) := by decide +kernel
theorem dX4_readsNumber_41 : decode cX4_readsNumber 41 = .ok (.iaload, 1) := by decide +kernel
theorem dX4_readsNumber_42 : decode cX4_readsNumber 42 = .ok (.putfield 67, 3) := by decide +kernel
theorem dX4_readsNumber_45 : decode cX4_readsNumber 45 = .ok (.aload_n 0, 1) := by decide +kernel
theorem dX4_readsNumber_46 : decode cX4_readsNumber 46 = .ok (.getfield 67, 3) := by decide +kernel
theorem dX4_readsNumber_49 : decode cX4_readsNumber 49 = .ok (.iload_n 1, 1) := by decide +kernel
theorem dX4_readsNumber_50 : decode cX4_readsNumber 50 = .ok (.if_icmp .lt 11, 3) := by decide +kernel
theorem dX4_readsNumber_53 : decode cX4_readsNumber 53 = .ok (.aload_n 0, 1) := by decide +kernel
theorem dX4_readsNumber_54 : decode cX4_readsNumber 54 = .ok (.getfield 67, 3) := by decide +kernel
theorem dX4_readsNumber_57 : decode cX4_readsNumber 57 = .ok (.iload_n 2, 1) := by decide +kernel
theorem dX4_readsNumber_58 : decode cX4_readsNumber 58 = .ok (.if_icmp .le 10, 3) := by decide +kernel
theorem dX4_readsNumber_61 : decode cX4_readsNumber 61 = .ok (.aload_n 0, 1) := by decide +kernel
theorem dX4_readsNumber_62 : decode cX4_readsNumber 62 = .ok (.bipush (-3), 2) := by decide +kernel
theorem dX4_readsNumber_64 : decode cX4_readsNumber 64 = .ok (.invokevirtual 61, 3) := by decide +kernel
theorem dX4_readsNumber_67 : decode cX4_readsNumber 67 = .ok (.ireturn, 1) := by decide +kernel
theorem dX4_readsNumber_68 : decode cX4_readsNumber 68 = .ok (.aload_n 0, 1) := by decide +kernel
theorem dX4_readsNumber_69 : decode cX4_readsNumber 69 = .ok (.dup, 1) := by decide +kernel
theorem dX4_readsNumber_70 : decode cX4_readsNumber 70 = .ok (.getfield 24, 3) := by decide +kernel
theorem dX4_readsNumber_73 : decode cX4_readsNumber 73 = .ok (.iconst 1, 1) := by decide +kernel
theorem dX4_readsNumber_74 : decode cX4_readsNumber 74 = .ok (.iadd, 1) := by decide +kernel
theorem dX4_readsNumber_75 : decode cX4_readsNumber 75 = .ok (.putfield 24, 3) := by decide +kernel
theorem dX4_readsNumber_78 : decode cX4_readsNumber 78 = .ok (.iconst 1, 1) := by decide +kernel
theorem dX4_readsNumber_79 : decode cX4_readsNumber 79 = .ok (.ireturn, 1) := by decide +kernel
theorem dX4_readsStatement_0 : decode cX4_readsStatement 0 = .ok (.aload_n 0, 1) := by decide +kernel
theorem dX4_readsStatement_1 : decode cX4_readsStatement 1 = .ok (.invokevirtual 41, 3) := by decide +kernel
theorem dX4_readsStatement_4 : decode cX4_readsStatement 4 = .ok (.istore_n 1, 1) := by decide +kernel
theorem dX4_readsStatement_5 : decode cX4_readsStatement 5 = .ok (.iload_n 1, 1) := by decide +kernel
theorem dX4_readsStatement_6 : decode cX4_readsStatement 6 = .ok (.tableswitch 109 11 19 #[50, 55, 60, 65, 65, 65, 65, 65, 87], 50) := by decide +kernel
theorem dX4_readsStatement_56 : decode cX4_readsStatement 56 = .ok (.aload_n 0, 1) := by decide +kernel
theorem dX4_readsStatement_57 : decode cX4_readsStatement 57 = .ok (.invokevirtual 70, 3) := by decide +kernel
theorem dX4_readsStatement_60 : decode cX4_readsStatement 60 = .ok (.ireturn, 1) := by decide +kernel
theorem dX4_readsStatement_61 : decode cX4_readsStatement 61 = .ok (.aload_n 0, 1) := by decide +kernel
theorem dX4_readsStatement_62 : decode cX4_readsStatement 62 = .ok (.invokevirtual 73, 3) := by decide +kernel
theorem dX4_readsStatement_65 : decode cX4_readsStatement 65 = .ok (.ireturn, 1) := by decide +kernel
theorem dX4_readsStatement_66 : decode cX4_readsStatement 66 = .ok (.aload_n 0, 1) := by decide +kernel
theorem dX4_readsStatement_67 : decode cX4_readsStatement 67 = .ok (.invokevirtual 76, 3) := by decide +kernel
theorem dX4_readsStatement_70 : decode cX4_readsStatement 70 = .ok (.ireturn, 1) := by decide +kernel
theorem dX4_readsStatement_71 : decode cX4_readsStatement 71 = .ok (.aload_n 0, 1) := by decide +kernel
theorem dX4_readsStatement_72 : decode cX4_readsStatement 72 = .ok (.iload_n 1, 1) := by decide +kernel
theorem dX4_readsStatement_73 : decode cX4_readsStatement 73 = .ok (.invokevirtual 79, 3) := by decide +kernel
theorem dX4_readsStatement_76 : decode cX4_readsStatement 76 = .ok (.ifCond .eq 15, 3) := by decide +kernel
theorem dX4_readsStatement_79 : decode cX4_readsStatement 79 = .ok (.aload_n 0, 1) := by decide +kernel
theorem dX4_readsStatement_80 : decode cX4_readsStatement 80 = .ok (.iload_n 1, 1) := by decide +kernel
theorem dX4_readsStatement_81 : decode cX4_readsStatement 81 = .ok (.invokevirtual 82, 3) := by decide +kernel
theorem dX4_readsStatement_84 : decode cX4_readsStatement 84 = .ok (.ifCond .eq 7, 3) := by decide +kernel
theorem dX4_readsStatement_87 : decode cX4_readsStatement 87 = .ok (.iconst 1, 1) := by decide +kernel
theorem dX4_readsStatement_88 : decode cX4_readsStatement 88 = .ok (.goto 4, 3) := by decide +kernel
theorem dX4_readsStatement_91 : decode cX4_readsStatement 91 = .ok (.iconst 0, 1) := by decide +kernel
theorem dX4_readsStatement_92 : decode cX4_readsStatement 92 = .ok (.ireturn, 1) := by decide +kernel
theorem dX4_readsStatement_93 : decode cX4_readsStatement 93 = .ok (.aload_n 0, 1) := by decide +kernel
theorem dX4_readsStatement_94 : decode cX4_readsStatement 94 = .ok (.iload_n 1, 1) := by decide +kernel
theorem dX4_readsStatement_95 : decode cX4_readsStatement 95 = .ok (.invokevirtual 79, 3) := by decide +kernel
theorem dX4_readsStatement_98 : decode cX4_readsStatement 98 = .ok (.ifCond .eq 15, 3) := by decide +kernel
theorem dX4_readsStatement_101 : decode cX4_readsStatement 101 = .ok (.aload_n 0, 1) := by decide +kernel
theorem dX4_readsStatement_102 : decode cX4_readsStatement 102 = .ok (.iconst 0, 1) := by decide +kernel
theorem dX4_readsStatement_103 : decode cX4_readsStatement 103 = .ok (.invokevirtual 85, 3) := by decide +kernel
theorem dX4_readsStatement_106 : decode cX4_readsStatement 106 = .ok (.ifCond .eq 7, 3) := by decide +kernel
theorem dX4_readsStatement_109 : decode cX4_readsStatement 109 = .ok (.iconst 1, 1) := by decide +kernel
theorem dX4_readsStatement_110 : decode cX4_readsStatement 110 = .ok (.goto 4, 3) := by decide +kernel
theorem dX4_readsStatement_113 : decode cX4_readsStatement 113 = .ok (.iconst 0, 1) := by decide +kernel
theorem dX4_readsStatement_114 : decode cX4_readsStatement 114 = .ok (.ireturn, 1) := by decide +kernel
theorem dX4_readsStatement_115 : decode cX4_readsStatement 115 = .ok (.aload_n 0, 1) := by decide +kernel
theorem dX4_readsStatement_116 : decode cX4_readsStatement 116 = .ok (.bipush (-2), 2) := by decide +kernel
theorem dX4_readsStatement_118 : decode cX4_readsStatement 118 = .ok (.invokevirtual 61, 3) := by decide +kernel
theorem dX4_readsStatement_121 : decode cX4_readsStatement 121 = .ok (.ireturn, 1) := by decide +kernel
theorem dX4_beginsOnce_0 : decode cX4_beginsOnce 0 = .ok (.aload_n 0, 1) := by decide +kernel
theorem dX4_beginsOnce_1 : decode cX4_beginsOnce 1 = .ok (.getfield 28, 3) := by decide +kernel
theorem dX4_beginsOnce_4 : decode cX4_beginsOnce 4 = .ok (.iconst 1, 1) := by decide +kernel
theorem dX4_beginsOnce_5 : decode cX4_beginsOnce 5 = .ok (.iload_n 1, 1) := by decide +kernel
theorem dX4_beginsOnce_6 : decode cX4_beginsOnce 6 = .ok (.ishl, 1) := by decide +kernel
theorem dX4_beginsOnce_7 : decode cX4_beginsOnce 7 = .ok (.iand, 1) := by decide +kernel
theorem dX4_beginsOnce_8 : decode cX4_beginsOnce 8 = .ok (.ifCond .eq 10, 3) := by decide +kernel
theorem dX4_beginsOnce_11 : decode cX4_beginsOnce 11 = .ok (.aload_n 0, 1) := by decide +kernel
theorem dX4_beginsOnce_12 : decode cX4_beginsOnce 12 = .ok (.bipush (-2), 2) := by decide +kernel
theorem dX4_beginsOnce_14 : decode cX4_beginsOnce 14 = .ok (.invokevirtual 61, 3) := by decide +kernel
theorem dX4_beginsOnce_17 : decode cX4_beginsOnce 17 = .ok (.ireturn, 1) := by decide +kernel
theorem dX4_beginsOnce_18 : decode cX4_beginsOnce 18 = .ok (.aload_n 0, 1) := by decide +kernel
theorem dX4_beginsOnce_19 : decode cX4_beginsOnce 19 = .ok (.dup, 1) := by decide +kernel
theorem dX4_beginsOnce_20 : decode cX4_beginsOnce 20 = .ok (.getfield 28, 3) := by decide +kernel
theorem dX4_beginsOnce_23 : decode cX4_beginsOnce 23 = .ok (.iconst 1, 1) := by decide +kernel
theorem dX4_beginsOnce_24 : decode cX4_beginsOnce 24 = .ok (.iload_n 1, 1) := by decide +kernel
theorem dX4_beginsOnce_25 : decode cX4_beginsOnce 25 = .ok (.ishl, 1) := by decide +kernel
theorem dX4_beginsOnce_26 : decode cX4_beginsOnce 26 = .ok (.ior, 1) := by decide +kernel
theorem dX4_beginsOnce_27 : decode cX4_beginsOnce 27 = .ok (.putfield 28, 3) := by decide +kernel
theorem dX4_beginsOnce_30 : decode cX4_beginsOnce 30 = .ok (.aload_n 0, 1) := by decide +kernel
theorem dX4_beginsOnce_31 : decode cX4_beginsOnce 31 = .ok (.dup, 1) := by decide +kernel
theorem dX4_beginsOnce_32 : decode cX4_beginsOnce 32 = .ok (.getfield 24, 3) := by decide +kernel
theorem dX4_beginsOnce_35 : decode cX4_beginsOnce 35 = .ok (.iconst 1, 1) := by decide +kernel
theorem dX4_beginsOnce_36 : decode cX4_beginsOnce 36 = .ok (.iadd, 1) := by decide +kernel
theorem dX4_beginsOnce_37 : decode cX4_beginsOnce 37 = .ok (.putfield 24, 3) := by decide +kernel
theorem dX4_beginsOnce_40 : decode cX4_beginsOnce 40 = .ok (.iconst 1, 1) := by decide +kernel
theorem dX4_beginsOnce_41 : decode cX4_beginsOnce 41 = .ok (.ireturn, 1) := by decide +kernel
theorem dX4_readsRule_0 : decode cX4_readsRule 0 = .ok (.iload_n 1, 1) := by decide +kernel
theorem dX4_readsRule_1 : decode cX4_readsRule 1 = .ok (.bipush 16, 2) := by decide +kernel
theorem dX4_readsRule_3 : decode cX4_readsRule 3 = .ok (.if_icmp .eq 9, 3) := by decide +kernel
theorem dX4_readsRule_6 : decode cX4_readsRule 6 = .ok (.iload_n 1, 1) := by decide +kernel
theorem dX4_readsRule_7 : decode cX4_readsRule 7 = .ok (.bipush 18, 2) := by decide +kernel
theorem dX4_readsRule_9 : decode cX4_readsRule 9 = .ok (.if_icmp .ne 7, 3) := by decide +kernel
theorem dX4_readsRule_12 : decode cX4_readsRule 12 = .ok (.iconst 0, 1) := by decide +kernel
theorem dX4_readsRule_13 : decode cX4_readsRule 13 = .ok (.goto 4, 3) := by decide +kernel
theorem dX4_readsRule_16 : decode cX4_readsRule 16 = .ok (.iconst 1, 1) := by decide +kernel
theorem dX4_readsRule_17 : decode cX4_readsRule 17 = .ok (.istore_n 2, 1) := by decide +kernel
theorem dX4_readsRule_18 : decode cX4_readsRule 18 = .ok (.iload_n 1, 1) := by decide +kernel
theorem dX4_readsRule_19 : decode cX4_readsRule 19 = .ok (.bipush 16, 2) := by decide +kernel
theorem dX4_readsRule_21 : decode cX4_readsRule 21 = .ok (.if_icmp .ne 9, 3) := by decide +kernel
theorem dX4_readsRule_24 : decode cX4_readsRule 24 = .ok (.sipush 999, 3) := by decide +kernel
theorem dX4_readsRule_27 : decode cX4_readsRule 27 = .ok (.goto 5, 3) := by decide +kernel
theorem dX4_readsRule_30 : decode cX4_readsRule 30 = .ok (.bipush 99, 2) := by decide +kernel
theorem dX4_readsRule_32 : decode cX4_readsRule 32 = .ok (.istore_n 3, 1) := by decide +kernel
theorem dX4_readsRule_33 : decode cX4_readsRule 33 = .ok (.aload_n 0, 1) := by decide +kernel
theorem dX4_readsRule_34 : decode cX4_readsRule 34 = .ok (.iload_n 2, 1) := by decide +kernel
theorem dX4_readsRule_35 : decode cX4_readsRule 35 = .ok (.iload_n 3, 1) := by decide +kernel
theorem dX4_readsRule_36 : decode cX4_readsRule 36 = .ok (.invokevirtual 88, 3) := by decide +kernel
theorem dX4_readsRule_39 : decode cX4_readsRule 39 = .ok (.ifCond .ne 5, 3) := by decide +kernel
theorem dX4_readsRule_42 : decode cX4_readsRule 42 = .ok (.iconst 0, 1) := by decide +kernel
theorem dX4_readsRule_43 : decode cX4_readsRule 43 = .ok (.ireturn, 1) := by decide +kernel
theorem dX4_readsRule_44 : decode cX4_readsRule 44 = .ok (.iload_n 1, 1) := by decide +kernel
theorem dX4_readsRule_45 : decode cX4_readsRule 45 = .ok (.bipush 14, 2) := by decide +kernel
theorem dX4_readsRule_47 : decode cX4_readsRule 47 = .ok (.if_icmp .ne 17, 3) := by decide +kernel
theorem dX4_readsRule_50 : decode cX4_readsRule 50 = .ok (.aload_n 0, 1) := by decide +kernel
theorem dX4_readsRule_51 : decode cX4_readsRule 51 = .ok (.getfield 15, 3) := by decide +kernel
theorem dX4_readsRule_54 : decode cX4_readsRule 54 = .ok (.aload_n 0, 1) := by decide +kernel
theorem dX4_readsRule_55 : decode cX4_readsRule 55 = .ok (.getfield 67, 3) := by decide +kernel
theorem dX4_readsRule_58 : decode cX4_readsRule 58 = .ok (.putfield 92, 3) := by decide +kernel
theorem dX4_readsRule_61 : decode cX4_readsRule 61 = .ok (.goto 74, 3) := by decide +kernel
theorem dX4_readsRule_64 : decode cX4_readsRule 64 = .ok (.iload_n 1, 1) := by decide +kernel
theorem dX4_readsRule_65 : decode cX4_readsRule 65 = .ok (.bipush 15, 2) := by decide +kernel
theorem dX4_readsRule_67 : decode cX4_readsRule 67 = .ok (.if_icmp .ne 17, 3) := by decide +kernel
theorem dX4_readsRule_70 : decode cX4_readsRule 70 = .ok (.aload_n 0, 1) := by decide +kernel
theorem dX4_readsRule_71 : decode cX4_readsRule 71 = .ok (.getfield 15, 3) := by decide +kernel
theorem dX4_readsRule_74 : decode cX4_readsRule 74 = .ok (.aload_n 0, 1) := by decide +kernel
theorem dX4_readsRule_75 : decode cX4_readsRule 75 = .ok (.getfield 67, 3) := by decide +kernel
theorem dX4_readsRule_78 : decode cX4_readsRule 78 = .ok (.putfield 95, 3) := by decide +kernel
theorem dX4_readsRule_81 : decode cX4_readsRule 81 = .ok (.goto 54, 3) := by decide +kernel
theorem dX4_readsRule_84 : decode cX4_readsRule 84 = .ok (.iload_n 1, 1) := by decide +kernel
theorem dX4_readsRule_85 : decode cX4_readsRule 85 = .ok (.bipush 16, 2) := by decide +kernel
theorem dX4_readsRule_87 : decode cX4_readsRule 87 = .ok (.if_icmp .ne 17, 3) := by decide +kernel
theorem dX4_readsRule_90 : decode cX4_readsRule 90 = .ok (.aload_n 0, 1) := by decide +kernel
theorem dX4_readsRule_91 : decode cX4_readsRule 91 = .ok (.getfield 15, 3) := by decide +kernel
theorem dX4_readsRule_94 : decode cX4_readsRule 94 = .ok (.aload_n 0, 1) := by decide +kernel
theorem dX4_readsRule_95 : decode cX4_readsRule 95 = .ok (.getfield 67, 3) := by decide +kernel
theorem dX4_readsRule_98 : decode cX4_readsRule 98 = .ok (.putfield 98, 3) := by decide +kernel
theorem dX4_readsRule_101 : decode cX4_readsRule 101 = .ok (.goto 34, 3) := by decide +kernel
theorem dX4_readsRule_104 : decode cX4_readsRule 104 = .ok (.iload_n 1, 1) := by decide +kernel
theorem dX4_readsRule_105 : decode cX4_readsRule 105 = .ok (.bipush 17, 2) := by decide +kernel
theorem dX4_readsRule_107 : decode cX4_readsRule 107 = .ok (.if_icmp .ne 17, 3) := by decide +kernel
theorem dX4_readsRule_110 : decode cX4_readsRule 110 = .ok (.aload_n 0, 1) := by decide +kernel
theorem dX4_readsRule_111 : decode cX4_readsRule 111 = .ok (.getfield 15, 3) := by decide +kernel
theorem dX4_readsRule_114 : decode cX4_readsRule 114 = .ok (.aload_n 0, 1) := by decide +kernel
theorem dX4_readsRule_115 : decode cX4_readsRule 115 = .ok (.getfield 67, 3) := by decide +kernel
theorem dX4_readsRule_118 : decode cX4_readsRule 118 = .ok (.putfield 101, 3) := by decide +kernel
theorem dX4_readsRule_121 : decode cX4_readsRule 121 = .ok (.goto 14, 3) := by decide +kernel
theorem dX4_readsRule_124 : decode cX4_readsRule 124 = .ok (.aload_n 0, 1) := by decide +kernel
theorem dX4_readsRule_125 : decode cX4_readsRule 125 = .ok (.getfield 15, 3) := by decide +kernel
theorem dX4_readsRule_128 : decode cX4_readsRule 128 = .ok (.aload_n 0, 1) := by decide +kernel
theorem dX4_readsRule_129 : decode cX4_readsRule 129 = .ok (.getfield 67, 3) := by decide +kernel
theorem dX4_readsRule_132 : decode cX4_readsRule 132 = .ok (.putfield 104, 3) := by decide +kernel
theorem dX4_readsRule_135 : decode cX4_readsRule 135 = .ok (.iconst 1, 1) := by decide +kernel
theorem dX4_readsRule_136 : decode cX4_readsRule 136 = .ok (.ireturn, 1) := by decide +kernel
theorem dX4_readsHandler_0 : decode cX4_readsHandler 0 = .ok (.aload_n 0, 1) := by decide +kernel
theorem dX4_readsHandler_1 : decode cX4_readsHandler 1 = .ok (.getfield 15, 3) := by decide +kernel
theorem dX4_readsHandler_4 : decode cX4_readsHandler 4 = .ok (.getfield 107, 3) := by decide +kernel
theorem dX4_readsHandler_7 : decode cX4_readsHandler 7 = .ok (.bipush 6, 2) := by decide +kernel
theorem dX4_readsHandler_9 : decode cX4_readsHandler 9 = .ok (.if_icmp .lt 10, 3) := by decide +kernel
theorem dX4_readsHandler_12 : decode cX4_readsHandler 12 = .ok (.aload_n 0, 1) := by decide +kernel
theorem dX4_readsHandler_13 : decode cX4_readsHandler 13 = .ok (.bipush (-5), 2) := by decide +kernel
theorem dX4_readsHandler_15 : decode cX4_readsHandler 15 = .ok (.invokevirtual 61, 3) := by decide +kernel
theorem dX4_readsHandler_18 : decode cX4_readsHandler 18 = .ok (.ireturn, 1) := by decide +kernel
theorem dX4_readsHandler_19 : decode cX4_readsHandler 19 = .ok (.aload_n 0, 1) := by decide +kernel
theorem dX4_readsHandler_20 : decode cX4_readsHandler 20 = .ok (.dup, 1) := by decide +kernel
theorem dX4_readsHandler_21 : decode cX4_readsHandler 21 = .ok (.getfield 24, 3) := by decide +kernel
theorem dX4_readsHandler_24 : decode cX4_readsHandler 24 = .ok (.iconst 1, 1) := by decide +kernel
theorem dX4_readsHandler_25 : decode cX4_readsHandler 25 = .ok (.iadd, 1) := by decide +kernel
theorem dX4_readsHandler_26 : decode cX4_readsHandler 26 = .ok (.putfield 24, 3) := by decide +kernel
theorem dX4_readsHandler_29 : decode cX4_readsHandler 29 = .ok (.aload_n 0, 1) := by decide +kernel
theorem dX4_readsHandler_30 : decode cX4_readsHandler 30 = .ok (.iconst 0, 1) := by decide +kernel
theorem dX4_readsHandler_31 : decode cX4_readsHandler 31 = .ok (.sipush 9999, 3) := by decide +kernel
theorem dX4_readsHandler_34 : decode cX4_readsHandler 34 = .ok (.invokevirtual 88, 3) := by decide +kernel
theorem dX4_readsHandler_37 : decode cX4_readsHandler 37 = .ok (.ifCond .ne 5, 3) := by decide +kernel
theorem dX4_readsHandler_40 : decode cX4_readsHandler 40 = .ok (.iconst 0, 1) := by decide +kernel
theorem dX4_readsHandler_41 : decode cX4_readsHandler 41 = .ok (.ireturn, 1) := by decide +kernel
theorem dX4_readsHandler_42 : decode cX4_readsHandler 42 = .ok (.aload_n 0, 1) := by decide +kernel
theorem dX4_readsHandler_43 : decode cX4_readsHandler 43 = .ok (.getfield 67, 3) := by decide +kernel
theorem dX4_readsHandler_46 : decode cX4_readsHandler 46 = .ok (.istore_n 1, 1) := by decide +kernel
theorem dX4_readsHandler_47 : decode cX4_readsHandler 47 = .ok (.aload_n 0, 1) := by decide +kernel
theorem dX4_readsHandler_48 : decode cX4_readsHandler 48 = .ok (.iconst 1, 1) := by decide +kernel
theorem dX4_readsHandler_49 : decode cX4_readsHandler 49 = .ok (.bipush 20, 2) := by decide +kernel
theorem dX4_readsHandler_51 : decode cX4_readsHandler 51 = .ok (.invokevirtual 88, 3) := by decide +kernel
theorem dX4_readsHandler_54 : decode cX4_readsHandler 54 = .ok (.ifCond .ne 5, 3) := by decide +kernel
theorem dX4_readsHandler_57 : decode cX4_readsHandler 57 = .ok (.iconst 0, 1) := by decide +kernel
theorem dX4_readsHandler_58 : decode cX4_readsHandler 58 = .ok (.ireturn, 1) := by decide +kernel
theorem dX4_readsHandler_59 : decode cX4_readsHandler 59 = .ok (.aload_n 0, 1) := by decide +kernel
theorem dX4_readsHandler_60 : decode cX4_readsHandler 60 = .ok (.getfield 15, 3) := by decide +kernel
theorem dX4_readsHandler_63 : decode cX4_readsHandler 63 = .ok (.iload_n 1, 1) := by decide +kernel
theorem dX4_readsHandler_64 : decode cX4_readsHandler 64 = .ok (.aload_n 0, 1) := by decide +kernel
theorem dX4_readsHandler_65 : decode cX4_readsHandler 65 = .ok (.getfield 67, 3) := by decide +kernel
theorem dX4_readsHandler_68 : decode cX4_readsHandler 68 = .ok (.invokevirtual 110, 3) := by decide +kernel
theorem dX4_readsHandler_71 : decode cX4_readsHandler 71 = .ok (.iconst 1, 1) := by decide +kernel
theorem dX4_readsHandler_72 : decode cX4_readsHandler 72 = .ok (.ireturn, 1) := by decide +kernel
theorem dX4_readsLine_0 : decode cX4_readsLine 0 = .ok (.aload_n 0, 1) := by decide +kernel
theorem dX4_readsLine_1 : decode cX4_readsLine 1 = .ok (.getfield 15, 3) := by decide +kernel
theorem dX4_readsLine_4 : decode cX4_readsLine 4 = .ok (.getfield 114, 3) := by decide +kernel
theorem dX4_readsLine_7 : decode cX4_readsLine 7 = .ok (.bipush 8, 2) := by decide +kernel
theorem dX4_readsLine_9 : decode cX4_readsLine 9 = .ok (.if_icmp .lt 10, 3) := by decide +kernel
theorem dX4_readsLine_12 : decode cX4_readsLine 12 = .ok (.aload_n 0, 1) := by decide +kernel
theorem dX4_readsLine_13 : decode cX4_readsLine 13 = .ok (.bipush (-5), 2) := by decide +kernel
theorem dX4_readsLine_15 : decode cX4_readsLine 15 = .ok (.invokevirtual 61, 3) := by decide +kernel
theorem dX4_readsLine_18 : decode cX4_readsLine 18 = .ok (.ireturn, 1) := by decide +kernel
theorem dX4_readsLine_19 : decode cX4_readsLine 19 = .ok (.aload_n 0, 1) := by decide +kernel
theorem dX4_readsLine_20 : decode cX4_readsLine 20 = .ok (.dup, 1) := by decide +kernel
theorem dX4_readsLine_21 : decode cX4_readsLine 21 = .ok (.getfield 24, 3) := by decide +kernel
theorem dX4_readsLine_24 : decode cX4_readsLine 24 = .ok (.iconst 1, 1) := by decide +kernel
theorem dX4_readsLine_25 : decode cX4_readsLine 25 = .ok (.iadd, 1) := by decide +kernel
theorem dX4_readsLine_26 : decode cX4_readsLine 26 = .ok (.putfield 24, 3) := by decide +kernel
theorem dX4_readsLine_29 : decode cX4_readsLine 29 = .ok (.aload_n 0, 1) := by decide +kernel
theorem dX4_readsLine_30 : decode cX4_readsLine 30 = .ok (.iconst 0, 1) := by decide +kernel
theorem dX4_readsLine_31 : decode cX4_readsLine 31 = .ok (.bipush 99, 2) := by decide +kernel
theorem dX4_readsLine_33 : decode cX4_readsLine 33 = .ok (.invokevirtual 88, 3) := by decide +kernel
theorem dX4_readsLine_36 : decode cX4_readsLine 36 = .ok (.ifCond .ne 5, 3) := by decide +kernel
theorem dX4_readsLine_39 : decode cX4_readsLine 39 = .ok (.iconst 0, 1) := by decide +kernel
theorem dX4_readsLine_40 : decode cX4_readsLine 40 = .ok (.ireturn, 1) := by decide +kernel
theorem dX4_readsLine_41 : decode cX4_readsLine 41 = .ok (.aload_n 0, 1) := by decide +kernel
theorem dX4_readsLine_42 : decode cX4_readsLine 42 = .ok (.getfield 67, 3) := by decide +kernel
theorem dX4_readsLine_45 : decode cX4_readsLine 45 = .ok (.istore_n 1, 1) := by decide +kernel
theorem dX4_readsLine_46 : decode cX4_readsLine 46 = .ok (.aload_n 0, 1) := by decide +kernel
theorem dX4_readsLine_47 : decode cX4_readsLine 47 = .ok (.iconst 1, 1) := by decide +kernel
theorem dX4_readsLine_48 : decode cX4_readsLine 48 = .ok (.bipush 20, 2) := by decide +kernel
theorem dX4_readsLine_50 : decode cX4_readsLine 50 = .ok (.invokevirtual 88, 3) := by decide +kernel
theorem dX4_readsLine_53 : decode cX4_readsLine 53 = .ok (.ifCond .ne 5, 3) := by decide +kernel
theorem dX4_readsLine_56 : decode cX4_readsLine 56 = .ok (.iconst 0, 1) := by decide +kernel
theorem dX4_readsLine_57 : decode cX4_readsLine 57 = .ok (.ireturn, 1) := by decide +kernel
theorem dX4_readsLine_58 : decode cX4_readsLine 58 = .ok (.aload_n 0, 1) := by decide +kernel
theorem dX4_readsLine_59 : decode cX4_readsLine 59 = .ok (.getfield 67, 3) := by decide +kernel
theorem dX4_readsLine_62 : decode cX4_readsLine 62 = .ok (.istore_n 2, 1) := by decide +kernel
theorem dX4_readsLine_63 : decode cX4_readsLine 63 = .ok (.aload_n 0, 1) := by decide +kernel
theorem dX4_readsLine_64 : decode cX4_readsLine 64 = .ok (.iconst 0, 1) := by decide +kernel
theorem dX4_readsLine_65 : decode cX4_readsLine 65 = .ok (.sipush 9999, 3) := by decide +kernel
theorem dX4_readsLine_68 : decode cX4_readsLine 68 = .ok (.invokevirtual 88, 3) := by decide +kernel
theorem dX4_readsLine_71 : decode cX4_readsLine 71 = .ok (.ifCond .ne 5, 3) := by decide +kernel
theorem dX4_readsLine_74 : decode cX4_readsLine 74 = .ok (.iconst 0, 1) := by decide +kernel
theorem dX4_readsLine_75 : decode cX4_readsLine 75 = .ok (.ireturn, 1) := by decide +kernel
theorem dX4_readsLine_76 : decode cX4_readsLine 76 = .ok (.aload_n 0, 1) := by decide +kernel
theorem dX4_readsLine_77 : decode cX4_readsLine 77 = .ok (.getfield 15, 3) := by decide +kernel
theorem dX4_readsLine_80 : decode cX4_readsLine 80 = .ok (.getfield 117, 3) := by decide +kernel
theorem dX4_readsLine_83 : decode cX4_readsLine 83 = .ok (.aload_n 0, 1) := by decide +kernel
theorem dX4_readsLine_84 : decode cX4_readsLine 84 = .ok (.getfield 15, 3) := by decide +kernel
theorem dX4_readsLine_87 : decode cX4_readsLine 87 = .ok (.getfield 114, 3) := by decide +kernel
theorem dX4_readsLine_90 : decode cX4_readsLine 90 = .ok (.aaload, 1) := by decide +kernel
theorem dX4_readsLine_91 : decode cX4_readsLine 91 = .ok (.astore_n 3, 1) := by decide +kernel
theorem dX4_readsLine_92 : decode cX4_readsLine 92 = .ok (.aload_n 0, 1) := by decide +kernel
theorem dX4_readsLine_93 : decode cX4_readsLine 93 = .ok (.getfield 15, 3) := by decide +kernel
theorem dX4_readsLine_96 : decode cX4_readsLine 96 = .ok (.iload_n 1, 1) := by decide +kernel
theorem dX4_readsLine_97 : decode cX4_readsLine 97 = .ok (.iload_n 2, 1) := by decide +kernel
theorem dX4_readsLine_98 : decode cX4_readsLine 98 = .ok (.aload_n 0, 1) := by decide +kernel
theorem dX4_readsLine_99 : decode cX4_readsLine 99 = .ok (.getfield 67, 3) := by decide +kernel
theorem dX4_readsLine_102 : decode cX4_readsLine 102 = .ok (.invokevirtual 121, 3) := by decide +kernel
theorem dX4_readsLine_105 : decode cX4_readsLine 105 = .ok (.iconst 1, 1) := by decide +kernel
theorem dX4_readsLine_106 : decode cX4_readsLine 106 = .ok (.istore 4, 2) := by decide +kernel
theorem dX4_readsLine_108 : decode cX4_readsLine 108 = .ok (.iconst 0, 1) := by decide +kernel
theorem dX4_readsLine_109 : decode cX4_readsLine 109 = .ok (.istore 5, 2) := by decide +kernel
theorem dX4_readsLine_111 : decode cX4_readsLine 111 = .ok (.iload 5, 2) := by decide +kernel
theorem dX4_readsLine_113 : decode cX4_readsLine 113 = .ok (.sipush 700, 3) := by decide +kernel
theorem dX4_readsLine_116 : decode cX4_readsLine 116 = .ok (.if_icmp .ge 29, 3) := by decide +kernel
theorem dX4_readsLine_119 : decode cX4_readsLine 119 = .ok (.iload 4, 2) := by decide +kernel
theorem dX4_readsLine_121 : decode cX4_readsLine 121 = .ok (.ifCond .eq 24, 3) := by decide +kernel
theorem dX4_readsLine_124 : decode cX4_readsLine 124 = .ok (.aload_n 0, 1) := by decide +kernel
theorem dX4_readsLine_125 : decode cX4_readsLine 125 = .ok (.invokevirtual 41, 3) := by decide +kernel
theorem dX4_readsLine_128 : decode cX4_readsLine 128 = .ok (.iconst 2, 1) := by decide +kernel
theorem dX4_readsLine_129 : decode cX4_readsLine 129 = .ok (.if_icmp .ne 16, 3) := by decide +kernel
theorem dX4_readsLine_132 : decode cX4_readsLine 132 = .ok (.aload_n 0, 1) := by decide +kernel
theorem dX4_readsLine_133 : decode cX4_readsLine 133 = .ok (.aload_n 3, 1) := by decide +kernel
theorem dX4_readsLine_134 : decode cX4_readsLine 134 = .ok (.invokevirtual 125, 3) := by decide +kernel
theorem dX4_readsLine_137 : decode cX4_readsLine 137 = .ok (.istore 4, 2) := by decide +kernel
theorem dX4_readsLine_139 : decode cX4_readsLine 139 = .ok (.iinc 5 1, 3) := by decide +kernel
theorem dX4_readsLine_142 : decode cX4_readsLine 142 = .ok (.goto (-31), 3) := by decide +kernel
theorem dX4_readsLine_145 : decode cX4_readsLine 145 = .ok (.iload 4, 2) := by decide +kernel
theorem dX4_readsLine_147 : decode cX4_readsLine 147 = .ok (.ireturn, 1) := by decide +kernel
theorem dX4_readsTenant_0 : decode cX4_readsTenant 0 = .ok (.aload_n 0, 1) := by decide +kernel
theorem dX4_readsTenant_1 : decode cX4_readsTenant 1 = .ok (.getfield 24, 3) := by decide +kernel
theorem dX4_readsTenant_4 : decode cX4_readsTenant 4 = .ok (.istore_n 2, 1) := by decide +kernel
theorem dX4_readsTenant_5 : decode cX4_readsTenant 5 = .ok (.aload_n 0, 1) := by decide +kernel
theorem dX4_readsTenant_6 : decode cX4_readsTenant 6 = .ok (.iconst 0, 1) := by decide +kernel
theorem dX4_readsTenant_7 : decode cX4_readsTenant 7 = .ok (.aload_n 0, 1) := by decide +kernel
theorem dX4_readsTenant_8 : decode cX4_readsTenant 8 = .ok (.getfield 15, 3) := by decide +kernel
theorem dX4_readsTenant_11 : decode cX4_readsTenant 11 = .ok (.getfield 107, 3) := by decide +kernel
theorem dX4_readsTenant_14 : decode cX4_readsTenant 14 = .ok (.iconst 1, 1) := by decide +kernel
theorem dX4_readsTenant_15 : decode cX4_readsTenant 15 = .ok (.isub, 1) := by decide +kernel
theorem dX4_readsTenant_16 : decode cX4_readsTenant 16 = .ok (.invokevirtual 88, 3) := by decide +kernel
theorem dX4_readsTenant_19 : decode cX4_readsTenant 19 = .ok (.ifCond .ne 5, 3) := by decide +kernel
theorem dX4_readsTenant_22 : decode cX4_readsTenant 22 = .ok (.iconst 0, 1) := by decide +kernel
theorem dX4_readsTenant_23 : decode cX4_readsTenant 23 = .ok (.ireturn, 1) := by decide +kernel
theorem dX4_readsTenant_24 : decode cX4_readsTenant 24 = .ok (.aload_n 1, 1) := by decide +kernel
theorem dX4_readsTenant_25 : decode cX4_readsTenant 25 = .ok (.aload_n 0, 1) := by decide +kernel
theorem dX4_readsTenant_26 : decode cX4_readsTenant 26 = .ok (.getfield 67, 3) := by decide +kernel
theorem dX4_readsTenant_29 : decode cX4_readsTenant 29 = .ok (.invokevirtual 129, 3) := by decide +kernel
theorem dX4_readsTenant_32 : decode cX4_readsTenant 32 = .ok (.ifCond .lt 7, 3) := by decide +kernel
theorem dX4_readsTenant_35 : decode cX4_readsTenant 35 = .ok (.iconst 1, 1) := by decide +kernel
theorem dX4_readsTenant_36 : decode cX4_readsTenant 36 = .ok (.goto 4, 3) := by decide +kernel
theorem dX4_readsTenant_39 : decode cX4_readsTenant 39 = .ok (.iconst 0, 1) := by decide +kernel
theorem dX4_readsTenant_40 : decode cX4_readsTenant 40 = .ok (.istore_n 3, 1) := by decide +kernel
theorem dX4_readsTenant_41 : decode cX4_readsTenant 41 = .ok (.iload_n 3, 1) := by decide +kernel
theorem dX4_readsTenant_42 : decode cX4_readsTenant 42 = .ok (.ifCond .ne 11, 3) := by decide +kernel
theorem dX4_readsTenant_45 : decode cX4_readsTenant 45 = .ok (.aload_n 1, 1) := by decide +kernel
theorem dX4_readsTenant_46 : decode cX4_readsTenant 46 = .ok (.getfield 135, 3) := by decide +kernel
theorem dX4_readsTenant_49 : decode cX4_readsTenant 49 = .ok (.iconst 3, 1) := by decide +kernel
theorem dX4_readsTenant_50 : decode cX4_readsTenant 50 = .ok (.if_icmp .lt 24, 3) := by decide +kernel
theorem dX4_readsTenant_53 : decode cX4_readsTenant 53 = .ok (.aload_n 0, 1) := by decide +kernel
theorem dX4_readsTenant_54 : decode cX4_readsTenant 54 = .ok (.iload_n 2, 1) := by decide +kernel
theorem dX4_readsTenant_55 : decode cX4_readsTenant 55 = .ok (.putfield 24, 3) := by decide +kernel
theorem dX4_readsTenant_58 : decode cX4_readsTenant 58 = .ok (.aload_n 0, 1) := by decide +kernel
theorem dX4_readsTenant_59 : decode cX4_readsTenant 59 = .ok (.iload_n 3, 1) := by decide +kernel
theorem dX4_readsTenant_60 : decode cX4_readsTenant 60 = .ok (.ifCond .eq 8, 3) := by decide +kernel
theorem dX4_readsTenant_63 : decode cX4_readsTenant 63 = .ok (.bipush (-4), 2) := by decide +kernel
theorem dX4_readsTenant_65 : decode cX4_readsTenant 65 = .ok (.goto 5, 3) := by decide +kernel
theorem dX4_readsTenant_68 : decode cX4_readsTenant 68 = .ok (.bipush (-5), 2) := by decide +kernel
theorem dX4_readsTenant_70 : decode cX4_readsTenant 70 = .ok (.invokevirtual 61, 3) := by decide +kernel
theorem dX4_readsTenant_73 : decode cX4_readsTenant 73 = .ok (.ireturn, 1) := by decide +kernel
theorem dX4_readsTenant_74 : decode cX4_readsTenant 74 = .ok (.aload_n 1, 1) := by decide +kernel
theorem dX4_readsTenant_75 : decode cX4_readsTenant 75 = .ok (.aload_n 0, 1) := by decide +kernel
theorem dX4_readsTenant_76 : decode cX4_readsTenant 76 = .ok (.getfield 67, 3) := by decide +kernel
theorem dX4_readsTenant_79 : decode cX4_readsTenant 79 = .ok (.invokevirtual 138, 3) := by decide +kernel
theorem dX4_readsTenant_82 : decode cX4_readsTenant 82 = .ok (.iconst 1, 1) := by decide +kernel
theorem dX4_readsTenant_83 : decode cX4_readsTenant 83 = .ok (.ireturn, 1) := by decide +kernel
theorem dX4_readsRaise_0 : decode cX4_readsRaise 0 = .ok (.aload_n 0, 1) := by decide +kernel
theorem dX4_readsRaise_1 : decode cX4_readsRaise 1 = .ok (.getfield 15, 3) := by decide +kernel
theorem dX4_readsRaise_4 : decode cX4_readsRaise 4 = .ok (.getfield 142, 3) := by decide +kernel
theorem dX4_readsRaise_7 : decode cX4_readsRaise 7 = .ok (.bipush 60, 2) := by decide +kernel
theorem dX4_readsRaise_9 : decode cX4_readsRaise 9 = .ok (.if_icmp .lt 10, 3) := by decide +kernel
theorem dX4_readsRaise_12 : decode cX4_readsRaise 12 = .ok (.aload_n 0, 1) := by decide +kernel
theorem dX4_readsRaise_13 : decode cX4_readsRaise 13 = .ok (.bipush (-5), 2) := by decide +kernel
theorem dX4_readsRaise_15 : decode cX4_readsRaise 15 = .ok (.invokevirtual 61, 3) := by decide +kernel
theorem dX4_readsRaise_18 : decode cX4_readsRaise 18 = .ok (.ireturn, 1) := by decide +kernel
theorem dX4_readsRaise_19 : decode cX4_readsRaise 19 = .ok (.aload_n 0, 1) := by decide +kernel
theorem dX4_readsRaise_20 : decode cX4_readsRaise 20 = .ok (.dup, 1) := by decide +kernel
theorem dX4_readsRaise_21 : decode cX4_readsRaise 21 = .ok (.getfield 24, 3) := by decide +kernel
theorem dX4_readsRaise_24 : decode cX4_readsRaise 24 = .ok (.iconst 1, 1) := by decide +kernel
theorem dX4_readsRaise_25 : decode cX4_readsRaise 25 = .ok (.iadd, 1) := by decide +kernel
theorem dX4_readsRaise_26 : decode cX4_readsRaise 26 = .ok (.putfield 24, 3) := by decide +kernel
theorem dX4_readsRaise_29 : decode cX4_readsRaise 29 = .ok (.aload_n 0, 1) := by decide +kernel
theorem dX4_readsRaise_30 : decode cX4_readsRaise 30 = .ok (.iconst 0, 1) := by decide +kernel
theorem dX4_readsRaise_31 : decode cX4_readsRaise 31 = .ok (.aload_n 0, 1) := by decide +kernel
theorem dX4_readsRaise_32 : decode cX4_readsRaise 32 = .ok (.getfield 15, 3) := by decide +kernel
theorem dX4_readsRaise_35 : decode cX4_readsRaise 35 = .ok (.getfield 114, 3) := by decide +kernel
theorem dX4_readsRaise_38 : decode cX4_readsRaise 38 = .ok (.iconst 1, 1) := by decide +kernel
theorem dX4_readsRaise_39 : decode cX4_readsRaise 39 = .ok (.isub, 1) := by decide +kernel
theorem dX4_readsRaise_40 : decode cX4_readsRaise 40 = .ok (.invokevirtual 88, 3) := by decide +kernel
theorem dX4_readsRaise_43 : decode cX4_readsRaise 43 = .ok (.ifCond .ne 5, 3) := by decide +kernel
theorem dX4_readsRaise_46 : decode cX4_readsRaise 46 = .ok (.iconst 0, 1) := by decide +kernel
theorem dX4_readsRaise_47 : decode cX4_readsRaise 47 = .ok (.ireturn, 1) := by decide +kernel
theorem dX4_readsRaise_48 : decode cX4_readsRaise 48 = .ok (.aload_n 0, 1) := by decide +kernel
theorem dX4_readsRaise_49 : decode cX4_readsRaise 49 = .ok (.getfield 67, 3) := by decide +kernel
theorem dX4_readsRaise_52 : decode cX4_readsRaise 52 = .ok (.istore_n 1, 1) := by decide +kernel
theorem dX4_readsRaise_53 : decode cX4_readsRaise 53 = .ok (.aload_n 0, 1) := by decide +kernel
theorem dX4_readsRaise_54 : decode cX4_readsRaise 54 = .ok (.iconst 0, 1) := by decide +kernel
theorem dX4_readsRaise_55 : decode cX4_readsRaise 55 = .ok (.sipush 999, 3) := by decide +kernel
theorem dX4_readsRaise_58 : decode cX4_readsRaise 58 = .ok (.invokevirtual 88, 3) := by decide +kernel
theorem dX4_readsRaise_61 : decode cX4_readsRaise 61 = .ok (.ifCond .ne 5, 3) := by decide +kernel
theorem dX4_readsRaise_64 : decode cX4_readsRaise 64 = .ok (.iconst 0, 1) := by decide +kernel
theorem dX4_readsRaise_65 : decode cX4_readsRaise 65 = .ok (.ireturn, 1) := by decide +kernel
theorem dX4_readsRaise_66 : decode cX4_readsRaise 66 = .ok (.aload_n 0, 1) := by decide +kernel
theorem dX4_readsRaise_67 : decode cX4_readsRaise 67 = .ok (.getfield 67, 3) := by decide +kernel
theorem dX4_readsRaise_70 : decode cX4_readsRaise 70 = .ok (.istore_n 2, 1) := by decide +kernel
theorem dX4_readsRaise_71 : decode cX4_readsRaise 71 = .ok (.aload_n 0, 1) := by decide +kernel
theorem dX4_readsRaise_72 : decode cX4_readsRaise 72 = .ok (.iconst 1, 1) := by decide +kernel
theorem dX4_readsRaise_73 : decode cX4_readsRaise 73 = .ok (.bipush 99, 2) := by decide +kernel
theorem dX4_readsRaise_75 : decode cX4_readsRaise 75 = .ok (.invokevirtual 88, 3) := by decide +kernel
theorem dX4_readsRaise_78 : decode cX4_readsRaise 78 = .ok (.ifCond .ne 5, 3) := by decide +kernel
theorem dX4_readsRaise_81 : decode cX4_readsRaise 81 = .ok (.iconst 0, 1) := by decide +kernel
theorem dX4_readsRaise_82 : decode cX4_readsRaise 82 = .ok (.ireturn, 1) := by decide +kernel
theorem dX4_readsRaise_83 : decode cX4_readsRaise 83 = .ok (.aload_n 0, 1) := by decide +kernel
theorem dX4_readsRaise_84 : decode cX4_readsRaise 84 = .ok (.getfield 15, 3) := by decide +kernel
theorem dX4_readsRaise_87 : decode cX4_readsRaise 87 = .ok (.iload_n 1, 1) := by decide +kernel
theorem dX4_readsRaise_88 : decode cX4_readsRaise 88 = .ok (.iload_n 2, 1) := by decide +kernel
theorem dX4_readsRaise_89 : decode cX4_readsRaise 89 = .ok (.aload_n 0, 1) := by decide +kernel
theorem dX4_readsRaise_90 : decode cX4_readsRaise 90 = .ok (.getfield 67, 3) := by decide +kernel
theorem dX4_readsRaise_93 : decode cX4_readsRaise 93 = .ok (.invokevirtual 145, 3) := by decide +kernel
theorem dX4_readsRaise_96 : decode cX4_readsRaise 96 = .ok (.iconst 1, 1) := by decide +kernel
theorem dX4_readsRaise_97 : decode cX4_readsRaise 97 = .ok (.ireturn, 1) := by decide +kernel
theorem dX4_readsSum_0 : decode cX4_readsSum 0 = .ok (.aload_n 0, 1) := by decide +kernel
theorem dX4_readsSum_1 : decode cX4_readsSum 1 = .ok (.iload_n 1, 1) := by decide +kernel
theorem dX4_readsSum_2 : decode cX4_readsSum 2 = .ok (.invokevirtual 148, 3) := by decide +kernel
theorem dX4_readsSum_5 : decode cX4_readsSum 5 = .ok (.istore_n 2, 1) := by decide +kernel
theorem dX4_readsSum_6 : decode cX4_readsSum 6 = .ok (.iconst 0, 1) := by decide +kernel
theorem dX4_readsSum_7 : decode cX4_readsSum 7 = .ok (.istore_n 3, 1) := by decide +kernel
theorem dX4_readsSum_8 : decode cX4_readsSum 8 = .ok (.iload_n 3, 1) := by decide +kernel
theorem dX4_readsSum_9 : decode cX4_readsSum 9 = .ok (.sipush 700, 3) := by decide +kernel
theorem dX4_readsSum_12 : decode cX4_readsSum 12 = .ok (.if_icmp .ge 66, 3) := by decide +kernel
theorem dX4_readsSum_15 : decode cX4_readsSum 15 = .ok (.iload_n 2, 1) := by decide +kernel
theorem dX4_readsSum_16 : decode cX4_readsSum 16 = .ok (.ifCond .eq 62, 3) := by decide +kernel
theorem dX4_readsSum_19 : decode cX4_readsSum 19 = .ok (.aload_n 0, 1) := by decide +kernel
theorem dX4_readsSum_20 : decode cX4_readsSum 20 = .ok (.invokevirtual 41, 3) := by decide +kernel
theorem dX4_readsSum_23 : decode cX4_readsSum 23 = .ok (.bipush 6, 2) := by decide +kernel
theorem dX4_readsSum_25 : decode cX4_readsSum 25 = .ok (.if_icmp .eq 12, 3) := by decide +kernel
theorem dX4_readsSum_28 : decode cX4_readsSum 28 = .ok (.aload_n 0, 1) := by decide +kernel
theorem dX4_readsSum_29 : decode cX4_readsSum 29 = .ok (.invokevirtual 41, 3) := by decide +kernel
theorem dX4_readsSum_32 : decode cX4_readsSum 32 = .ok (.bipush 7, 2) := by decide +kernel
theorem dX4_readsSum_34 : decode cX4_readsSum 34 = .ok (.if_icmp .ne 44, 3) := by decide +kernel
theorem dX4_readsSum_37 : decode cX4_readsSum 37 = .ok (.aload_n 0, 1) := by decide +kernel
theorem dX4_readsSum_38 : decode cX4_readsSum 38 = .ok (.invokevirtual 41, 3) := by decide +kernel
theorem dX4_readsSum_41 : decode cX4_readsSum 41 = .ok (.istore 4, 2) := by decide +kernel
theorem dX4_readsSum_43 : decode cX4_readsSum 43 = .ok (.aload_n 0, 1) := by decide +kernel
theorem dX4_readsSum_44 : decode cX4_readsSum 44 = .ok (.dup, 1) := by decide +kernel
theorem dX4_readsSum_45 : decode cX4_readsSum 45 = .ok (.getfield 24, 3) := by decide +kernel
theorem dX4_readsSum_48 : decode cX4_readsSum 48 = .ok (.iconst 1, 1) := by decide +kernel
theorem dX4_readsSum_49 : decode cX4_readsSum 49 = .ok (.iadd, 1) := by decide +kernel
theorem dX4_readsSum_50 : decode cX4_readsSum 50 = .ok (.putfield 24, 3) := by decide +kernel
theorem dX4_readsSum_53 : decode cX4_readsSum 53 = .ok (.aload_n 0, 1) := by decide +kernel
theorem dX4_readsSum_54 : decode cX4_readsSum 54 = .ok (.iload_n 1, 1) := by decide +kernel
theorem dX4_readsSum_55 : decode cX4_readsSum 55 = .ok (.invokevirtual 148, 3) := by decide +kernel
theorem dX4_readsSum_58 : decode cX4_readsSum 58 = .ok (.istore_n 2, 1) := by decide +kernel
theorem dX4_readsSum_59 : decode cX4_readsSum 59 = .ok (.aload_n 0, 1) := by decide +kernel
theorem dX4_readsSum_60 : decode cX4_readsSum 60 = .ok (.getfield 15, 3) := by decide +kernel
theorem dX4_readsSum_63 : decode cX4_readsSum 63 = .ok (.getfield 151, 3) := by decide +kernel
theorem dX4_readsSum_66 : decode cX4_readsSum 66 = .ok (.iload 4, 2) := by decide +kernel
theorem dX4_readsSum_68 : decode cX4_readsSum 68 = .ok (.ineg, 1) := by decide +kernel
theorem dX4_readsSum_69 : decode cX4_readsSum 69 = .ok (.invokevirtual 155, 3) := by decide +kernel
theorem dX4_readsSum_72 : decode cX4_readsSum 72 = .ok (.iinc 3 1, 3) := by decide +kernel
theorem dX4_readsSum_75 : decode cX4_readsSum 75 = .ok (.goto (-67), 3) := by decide +kernel
theorem dX4_readsSum_78 : decode cX4_readsSum 78 = .ok (.iload_n 2, 1) := by decide +kernel
theorem dX4_readsSum_79 : decode cX4_readsSum 79 = .ok (.ireturn, 1) := by decide +kernel
theorem dX4_readsTerm_0 : decode cX4_readsTerm 0 = .ok (.aload_n 0, 1) := by decide +kernel
theorem dX4_readsTerm_1 : decode cX4_readsTerm 1 = .ok (.iload_n 1, 1) := by decide +kernel
theorem dX4_readsTerm_2 : decode cX4_readsTerm 2 = .ok (.invokevirtual 160, 3) := by decide +kernel
theorem dX4_readsTerm_5 : decode cX4_readsTerm 5 = .ok (.istore_n 2, 1) := by decide +kernel
theorem dX4_readsTerm_6 : decode cX4_readsTerm 6 = .ok (.iconst 0, 1) := by decide +kernel
theorem dX4_readsTerm_7 : decode cX4_readsTerm 7 = .ok (.istore_n 3, 1) := by decide +kernel
theorem dX4_readsTerm_8 : decode cX4_readsTerm 8 = .ok (.iload_n 3, 1) := by decide +kernel
theorem dX4_readsTerm_9 : decode cX4_readsTerm 9 = .ok (.sipush 700, 3) := by decide +kernel
theorem dX4_readsTerm_12 : decode cX4_readsTerm 12 = .ok (.if_icmp .ge 66, 3) := by decide +kernel
theorem dX4_readsTerm_15 : decode cX4_readsTerm 15 = .ok (.iload_n 2, 1) := by decide +kernel
theorem dX4_readsTerm_16 : decode cX4_readsTerm 16 = .ok (.ifCond .eq 62, 3) := by decide +kernel
theorem dX4_readsTerm_19 : decode cX4_readsTerm 19 = .ok (.aload_n 0, 1) := by decide +kernel
theorem dX4_readsTerm_20 : decode cX4_readsTerm 20 = .ok (.invokevirtual 41, 3) := by decide +kernel
theorem dX4_readsTerm_23 : decode cX4_readsTerm 23 = .ok (.bipush 8, 2) := by decide +kernel
theorem dX4_readsTerm_25 : decode cX4_readsTerm 25 = .ok (.if_icmp .eq 12, 3) := by decide +kernel
theorem dX4_readsTerm_28 : decode cX4_readsTerm 28 = .ok (.aload_n 0, 1) := by decide +kernel
theorem dX4_readsTerm_29 : decode cX4_readsTerm 29 = .ok (.invokevirtual 41, 3) := by decide +kernel
theorem dX4_readsTerm_32 : decode cX4_readsTerm 32 = .ok (.bipush 9, 2) := by decide +kernel
theorem dX4_readsTerm_34 : decode cX4_readsTerm 34 = .ok (.if_icmp .ne 44, 3) := by decide +kernel
theorem dX4_readsTerm_37 : decode cX4_readsTerm 37 = .ok (.aload_n 0, 1) := by decide +kernel
theorem dX4_readsTerm_38 : decode cX4_readsTerm 38 = .ok (.invokevirtual 41, 3) := by decide +kernel
theorem dX4_readsTerm_41 : decode cX4_readsTerm 41 = .ok (.istore 4, 2) := by decide +kernel
theorem dX4_readsTerm_43 : decode cX4_readsTerm 43 = .ok (.aload_n 0, 1) := by decide +kernel
theorem dX4_readsTerm_44 : decode cX4_readsTerm 44 = .ok (.dup, 1) := by decide +kernel
theorem dX4_readsTerm_45 : decode cX4_readsTerm 45 = .ok (.getfield 24, 3) := by decide +kernel
theorem dX4_readsTerm_48 : decode cX4_readsTerm 48 = .ok (.iconst 1, 1) := by decide +kernel
theorem dX4_readsTerm_49 : decode cX4_readsTerm 49 = .ok (.iadd, 1) := by decide +kernel
theorem dX4_readsTerm_50 : decode cX4_readsTerm 50 = .ok (.putfield 24, 3) := by decide +kernel
theorem dX4_readsTerm_53 : decode cX4_readsTerm 53 = .ok (.aload_n 0, 1) := by decide +kernel
theorem dX4_readsTerm_54 : decode cX4_readsTerm 54 = .ok (.iload_n 1, 1) := by decide +kernel
theorem dX4_readsTerm_55 : decode cX4_readsTerm 55 = .ok (.invokevirtual 160, 3) := by decide +kernel
theorem dX4_readsTerm_58 : decode cX4_readsTerm 58 = .ok (.istore_n 2, 1) := by decide +kernel
theorem dX4_readsTerm_59 : decode cX4_readsTerm 59 = .ok (.aload_n 0, 1) := by decide +kernel
theorem dX4_readsTerm_60 : decode cX4_readsTerm 60 = .ok (.getfield 15, 3) := by decide +kernel
theorem dX4_readsTerm_63 : decode cX4_readsTerm 63 = .ok (.getfield 151, 3) := by decide +kernel
theorem dX4_readsTerm_66 : decode cX4_readsTerm 66 = .ok (.iload 4, 2) := by decide +kernel
theorem dX4_readsTerm_68 : decode cX4_readsTerm 68 = .ok (.ineg, 1) := by decide +kernel
theorem dX4_readsTerm_69 : decode cX4_readsTerm 69 = .ok (.invokevirtual 155, 3) := by decide +kernel
theorem dX4_readsTerm_72 : decode cX4_readsTerm 72 = .ok (.iinc 3 1, 3) := by decide +kernel
theorem dX4_readsTerm_75 : decode cX4_readsTerm 75 = .ok (.goto (-67), 3) := by decide +kernel
theorem dX4_readsTerm_78 : decode cX4_readsTerm 78 = .ok (.iload_n 2, 1) := by decide +kernel
theorem dX4_readsTerm_79 : decode cX4_readsTerm 79 = .ok (.ireturn, 1) := by decide +kernel
theorem dX4_readsFactor_0 : decode cX4_readsFactor 0 = .ok (.aload_n 0, 1) := by decide +kernel
theorem dX4_readsFactor_1 : decode cX4_readsFactor 1 = .ok (.invokevirtual 41, 3) := by decide +kernel
theorem dX4_readsFactor_4 : decode cX4_readsFactor 4 = .ok (.istore_n 2, 1) := by decide +kernel
theorem dX4_readsFactor_5 : decode cX4_readsFactor 5 = .ok (.iload_n 2, 1) := by decide +kernel
theorem dX4_readsFactor_6 : decode cX4_readsFactor 6 = .ok (.lookupswitch 157 #[(2, 58), (4, 111), (12, 87), (20, 87), (21, 87), (22, 87)], 58) := by decide +kernel
theorem dX4_readsFactor_64 : decode cX4_readsFactor 64 = .ok (.aload_n 0, 1) := by decide +kernel
theorem dX4_readsFactor_65 : decode cX4_readsFactor 65 = .ok (.iconst 0, 1) := by decide +kernel
theorem dX4_readsFactor_66 : decode cX4_readsFactor 66 = .ok (.sipush 9999, 3) := by decide +kernel
theorem dX4_readsFactor_69 : decode cX4_readsFactor 69 = .ok (.invokevirtual 88, 3) := by decide +kernel
theorem dX4_readsFactor_72 : decode cX4_readsFactor 72 = .ok (.ifCond .ne 5, 3) := by decide +kernel
theorem dX4_readsFactor_75 : decode cX4_readsFactor 75 = .ok (.iconst 0, 1) := by decide +kernel
theorem dX4_readsFactor_76 : decode cX4_readsFactor 76 = .ok (.ireturn, 1) := by decide +kernel
theorem dX4_readsFactor_77 : decode cX4_readsFactor 77 = .ok (.aload_n 0, 1) := by decide +kernel
theorem dX4_readsFactor_78 : decode cX4_readsFactor 78 = .ok (.getfield 15, 3) := by decide +kernel
theorem dX4_readsFactor_81 : decode cX4_readsFactor 81 = .ok (.getfield 151, 3) := by decide +kernel
theorem dX4_readsFactor_84 : decode cX4_readsFactor 84 = .ok (.aload_n 0, 1) := by decide +kernel
theorem dX4_readsFactor_85 : decode cX4_readsFactor 85 = .ok (.getfield 67, 3) := by decide +kernel
theorem dX4_readsFactor_88 : decode cX4_readsFactor 88 = .ok (.invokevirtual 155, 3) := by decide +kernel
theorem dX4_readsFactor_91 : decode cX4_readsFactor 91 = .ok (.iconst 1, 1) := by decide +kernel
theorem dX4_readsFactor_92 : decode cX4_readsFactor 92 = .ok (.ireturn, 1) := by decide +kernel
theorem dX4_readsFactor_93 : decode cX4_readsFactor 93 = .ok (.aload_n 0, 1) := by decide +kernel
theorem dX4_readsFactor_94 : decode cX4_readsFactor 94 = .ok (.getfield 15, 3) := by decide +kernel
theorem dX4_readsFactor_97 : decode cX4_readsFactor 97 = .ok (.getfield 151, 3) := by decide +kernel
theorem dX4_readsFactor_100 : decode cX4_readsFactor 100 = .ok (.iload_n 2, 1) := by decide +kernel
theorem dX4_readsFactor_101 : decode cX4_readsFactor 101 = .ok (.ineg, 1) := by decide +kernel
theorem dX4_readsFactor_102 : decode cX4_readsFactor 102 = .ok (.invokevirtual 155, 3) := by decide +kernel
theorem dX4_readsFactor_105 : decode cX4_readsFactor 105 = .ok (.aload_n 0, 1) := by decide +kernel
theorem dX4_readsFactor_106 : decode cX4_readsFactor 106 = .ok (.dup, 1) := by decide +kernel
theorem dX4_readsFactor_107 : decode cX4_readsFactor 107 = .ok (.getfield 24, 3) := by decide +kernel
theorem dX4_readsFactor_110 : decode cX4_readsFactor 110 = .ok (.iconst 1, 1) := by decide +kernel
theorem dX4_readsFactor_111 : decode cX4_readsFactor 111 = .ok (.iadd, 1) := by decide +kernel
theorem dX4_readsFactor_112 : decode cX4_readsFactor 112 = .ok (.putfield 24, 3) := by decide +kernel
theorem dX4_readsFactor_115 : decode cX4_readsFactor 115 = .ok (.iconst 1, 1) := by decide +kernel
theorem dX4_readsFactor_116 : decode cX4_readsFactor 116 = .ok (.ireturn, 1) := by decide +kernel
theorem dX4_readsFactor_117 : decode cX4_readsFactor 117 = .ok (.iload_n 1, 1) := by decide +kernel
theorem dX4_readsFactor_118 : decode cX4_readsFactor 118 = .ok (.iconst 4, 1) := by decide +kernel
theorem dX4_readsFactor_119 : decode cX4_readsFactor 119 = .ok (.if_icmp .lt 10, 3) := by decide +kernel
theorem dX4_readsFactor_122 : decode cX4_readsFactor 122 = .ok (.aload_n 0, 1) := by decide +kernel
theorem dX4_readsFactor_123 : decode cX4_readsFactor 123 = .ok (.bipush (-6), 2) := by decide +kernel
theorem dX4_readsFactor_125 : decode cX4_readsFactor 125 = .ok (.invokevirtual 61, 3) := by decide +kernel
theorem dX4_readsFactor_128 : decode cX4_readsFactor 128 = .ok (.ireturn, 1) := by decide +kernel
theorem dX4_readsFactor_129 : decode cX4_readsFactor 129 = .ok (.aload_n 0, 1) := by decide +kernel
theorem dX4_readsFactor_130 : decode cX4_readsFactor 130 = .ok (.dup, 1) := by decide +kernel
theorem dX4_readsFactor_131 : decode cX4_readsFactor 131 = .ok (.getfield 24, 3) := by decide +kernel
theorem dX4_readsFactor_134 : decode cX4_readsFactor 134 = .ok (.iconst 1, 1) := by decide +kernel
theorem dX4_readsFactor_135 : decode cX4_readsFactor 135 = .ok (.iadd, 1) := by decide +kernel
theorem dX4_readsFactor_136 : decode cX4_readsFactor 136 = .ok (.putfield 24, 3) := by decide +kernel
theorem dX4_readsFactor_139 : decode cX4_readsFactor 139 = .ok (.aload_n 0, 1) := by decide +kernel
theorem dX4_readsFactor_140 : decode cX4_readsFactor 140 = .ok (.iload_n 1, 1) := by decide +kernel
theorem dX4_readsFactor_141 : decode cX4_readsFactor 141 = .ok (.iconst 1, 1) := by decide +kernel
theorem dX4_readsFactor_142 : decode cX4_readsFactor 142 = .ok (.iadd, 1) := by decide +kernel
theorem dX4_readsFactor_143 : decode cX4_readsFactor 143 = .ok (.invokevirtual 85, 3) := by decide +kernel
theorem dX4_readsFactor_146 : decode cX4_readsFactor 146 = .ok (.ifCond .eq 15, 3) := by decide +kernel
theorem dX4_readsFactor_149 : decode cX4_readsFactor 149 = .ok (.aload_n 0, 1) := by decide +kernel
theorem dX4_readsFactor_150 : decode cX4_readsFactor 150 = .ok (.iconst 5, 1) := by decide +kernel
theorem dX4_readsFactor_151 : decode cX4_readsFactor 151 = .ok (.invokevirtual 37, 3) := by decide +kernel
theorem dX4_readsFactor_154 : decode cX4_readsFactor 154 = .ok (.ifCond .eq 7, 3) := by decide +kernel
theorem dX4_readsFactor_157 : decode cX4_readsFactor 157 = .ok (.iconst 1, 1) := by decide +kernel
theorem dX4_readsFactor_158 : decode cX4_readsFactor 158 = .ok (.goto 4, 3) := by decide +kernel
theorem dX4_readsFactor_161 : decode cX4_readsFactor 161 = .ok (.iconst 0, 1) := by decide +kernel
theorem dX4_readsFactor_162 : decode cX4_readsFactor 162 = .ok (.ireturn, 1) := by decide +kernel
theorem dX4_readsFactor_163 : decode cX4_readsFactor 163 = .ok (.aload_n 0, 1) := by decide +kernel
theorem dX4_readsFactor_164 : decode cX4_readsFactor 164 = .ok (.bipush (-2), 2) := by decide +kernel
theorem dX4_readsFactor_166 : decode cX4_readsFactor 166 = .ok (.invokevirtual 61, 3) := by decide +kernel
theorem dX4_readsFactor_169 : decode cX4_readsFactor 169 = .ok (.ireturn, 1) := by decide +kernel
theorem dX5_init_0 : decode cX5_init 0 = .ok (.aload_n 0, 1) := by decide +kernel
theorem dX5_init_1 : decode cX5_init 1 = .ok (.invokespecial 3, 3) := by decide +kernel
theorem dX5_init_4 : decode cX5_init 4 = .ok (.aload_n 0, 1) := by decide +kernel
theorem dX5_init_5 : decode cX5_init 5 = .ok (.sipush 701, 3) := by decide +kernel
theorem dX5_init_8 : decode cX5_init 8 = .ok (.newarray .int, 2) := by decide +kernel
theorem dX5_init_10 : decode cX5_init 10 = .ok (.putfield 9, 3) := by decide +kernel
theorem dX5_init_13 : decode cX5_init 13 = .ok (.aload_n 0, 1) := by decide +kernel
theorem dX5_init_14 : decode cX5_init 14 = .ok (.sipush 701, 3) := by decide +kernel
theorem dX5_init_17 : decode cX5_init 17 = .ok (.newarray .int, 2) := by decide +kernel
theorem dX5_init_19 : decode cX5_init 19 = .ok (.putfield 15, 3) := by decide +kernel
theorem dX5_init_22 : decode cX5_init 22 = .ok (.aload_n 0, 1) := by decide +kernel
theorem dX5_init_23 : decode cX5_init 23 = .ok (.sipush 701, 3) := by decide +kernel
theorem dX5_init_26 : decode cX5_init 26 = .ok (.newarray .int, 2) := by decide +kernel
theorem dX5_init_28 : decode cX5_init 28 = .ok (.putfield 18, 3) := by decide +kernel
theorem dX5_init_31 : decode cX5_init 31 = .ok (.return_, 1) := by decide +kernel
theorem dX5_split_0 : decode cX5_split 0 = .ok (.aload_n 0, 1) := by decide +kernel
theorem dX5_split_1 : decode cX5_split 1 = .ok (.iconst 0, 1) := by decide +kernel
theorem dX5_split_2 : decode cX5_split 2 = .ok (.putfield 21, 3) := by decide +kernel
theorem dX5_split_5 : decode cX5_split 5 = .ok (.iconst 0, 1) := by decide +kernel
theorem dX5_split_6 : decode cX5_split 6 = .ok (.istore_n 3, 1) := by decide +kernel
theorem dX5_split_7 : decode cX5_split 7 = .ok (.iconst 0, 1) := by decide +kernel
theorem dX5_split_8 : decode cX5_split 8 = .ok (.istore 4, 2) := by decide +kernel
theorem dX5_split_10 : decode cX5_split 10 = .ok (.iload 4, 2) := by decide +kernel
theorem dX5_split_12 : decode cX5_split 12 = .ok (.sipush 700, 3) := by decide +kernel
theorem dX5_split_15 : decode cX5_split 15 = .ok (.if_icmp .ge 136, 3) := by decide +kernel
theorem dX5_split_18 : decode cX5_split 18 = .ok (.iload_n 3, 1) := by decide +kernel
theorem dX5_split_19 : decode cX5_split 19 = .ok (.iload_n 2, 1) := by decide +kernel
theorem dX5_split_20 : decode cX5_split 20 = .ok (.if_icmp .ge 131, 3) := by decide +kernel
theorem dX5_split_23 : decode cX5_split 23 = .ok (.iload_n 3, 1) := by decide +kernel
theorem dX5_split_24 : decode cX5_split 24 = .ok (.aload_n 1, 1) := by decide +kernel
theorem dX5_split_25 : decode cX5_split 25 = .ok (.arraylength, 1) := by decide +kernel
theorem dX5_split_26 : decode cX5_split 26 = .ok (.if_icmp .ge 125, 3) := by decide +kernel
theorem dX5_split_29 : decode cX5_split 29 = .ok (.iload_n 3, 1) := by decide +kernel
theorem dX5_split_30 : decode cX5_split 30 = .ok (.iconst 1, 1) := by decide +kernel
theorem dX5_split_31 : decode cX5_split 31 = .ok (.iadd, 1) := by decide +kernel
theorem dX5_split_32 : decode cX5_split 32 = .ok (.istore 5, 2) := by decide +kernel
theorem dX5_split_34 : decode cX5_split 34 = .ok (.aload_n 1, 1) := by decide +kernel
theorem dX5_split_35 : decode cX5_split 35 = .ok (.iload_n 3, 1) := by decide +kernel
theorem dX5_split_36 : decode cX5_split 36 = .ok (.baload, 1) := by decide +kernel
theorem dX5_split_37 : decode cX5_split 37 = .ok (.bipush 97, 2) := by decide +kernel
theorem dX5_split_39 : decode cX5_split 39 = .ok (.if_icmp .lt 39, 3) := by decide +kernel
theorem dX5_split_42 : decode cX5_split 42 = .ok (.aload_n 1, 1) := by decide +kernel
theorem dX5_split_43 : decode cX5_split 43 = .ok (.iload_n 3, 1) := by decide +kernel
theorem dX5_split_44 : decode cX5_split 44 = .ok (.baload, 1) := by decide +kernel
theorem dX5_split_45 : decode cX5_split 45 = .ok (.bipush 122, 2) := by decide +kernel
theorem dX5_split_47 : decode cX5_split 47 = .ok (.if_icmp .gt 31, 3) := by decide +kernel
theorem dX5_split_50 : decode cX5_split 50 = .ok (.aload_n 1, 1) := by decide +kernel
theorem dX5_split_51 : decode cX5_split 51 = .ok (.iload_n 2, 1) := by decide +kernel
theorem dX5_split_52 : decode cX5_split 52 = .ok (.iload_n 3, 1) := by decide +kernel
theorem dX5_split_53 : decode cX5_split 53 = .ok (.bipush 97, 2) := by decide +kernel
theorem dX5_split_55 : decode cX5_split 55 = .ok (.bipush 122, 2) := by decide +kernel
theorem dX5_split_57 : decode cX5_split 57 = .ok (.invokestatic 25, 3) := by decide +kernel
theorem dX5_split_60 : decode cX5_split 60 = .ok (.istore 5, 2) := by decide +kernel
theorem dX5_split_62 : decode cX5_split 62 = .ok (.aload_n 0, 1) := by decide +kernel
theorem dX5_split_63 : decode cX5_split 63 = .ok (.aload_n 1, 1) := by decide +kernel
theorem dX5_split_64 : decode cX5_split 64 = .ok (.iload_n 3, 1) := by decide +kernel
theorem dX5_split_65 : decode cX5_split 65 = .ok (.iload 5, 2) := by decide +kernel
theorem dX5_split_67 : decode cX5_split 67 = .ok (.invokestatic 29, 3) := by decide +kernel
theorem dX5_split_70 : decode cX5_split 70 = .ok (.iload_n 3, 1) := by decide +kernel
theorem dX5_split_71 : decode cX5_split 71 = .ok (.iconst 0, 1) := by decide +kernel
theorem dX5_split_72 : decode cX5_split 72 = .ok (.invokevirtual 33, 3) := by decide +kernel
theorem dX5_split_75 : decode cX5_split 75 = .ok (.goto 67, 3) := by decide +kernel
theorem dX5_split_78 : decode cX5_split 78 = .ok (.aload_n 1, 1) := by decide +kernel
theorem dX5_split_79 : decode cX5_split 79 = .ok (.iload_n 3, 1) := by decide +kernel
theorem dX5_split_80 : decode cX5_split 80 = .ok (.baload, 1) := by decide +kernel
theorem dX5_split_81 : decode cX5_split 81 = .ok (.bipush 48, 2) := by decide +kernel
theorem dX5_split_83 : decode cX5_split 83 = .ok (.if_icmp .lt 39, 3) := by decide +kernel
theorem dX5_split_86 : decode cX5_split 86 = .ok (.aload_n 1, 1) := by decide +kernel
theorem dX5_split_87 : decode cX5_split 87 = .ok (.iload_n 3, 1) := by decide +kernel
theorem dX5_split_88 : decode cX5_split 88 = .ok (.baload, 1) := by decide +kernel
theorem dX5_split_89 : decode cX5_split 89 = .ok (.bipush 57, 2) := by decide +kernel
theorem dX5_split_91 : decode cX5_split 91 = .ok (.if_icmp .gt 31, 3) := by decide +kernel
theorem dX5_split_94 : decode cX5_split 94 = .ok (.aload_n 1, 1) := by decide +kernel
theorem dX5_split_95 : decode cX5_split 95 = .ok (.iload_n 2, 1) := by decide +kernel
theorem dX5_split_96 : decode cX5_split 96 = .ok (.iload_n 3, 1) := by decide +kernel
theorem dX5_split_97 : decode cX5_split 97 = .ok (.bipush 48, 2) := by decide +kernel
theorem dX5_split_99 : decode cX5_split 99 = .ok (.bipush 57, 2) := by decide +kernel
theorem dX5_split_101 : decode cX5_split 101 = .ok (.invokestatic 25, 3) := by decide +kernel
theorem dX5_split_104 : decode cX5_split 104 = .ok (.istore 5, 2) := by decide +kernel
theorem dX5_split_106 : decode cX5_split 106 = .ok (.aload_n 0, 1) := by decide +kernel
theorem dX5_split_107 : decode cX5_split 107 = .ok (.iconst 2, 1) := by decide +kernel
theorem dX5_split_108 : decode cX5_split 108 = .ok (.iload_n 3, 1) := by decide +kernel
theorem dX5_split_109 : decode cX5_split 109 = .ok (.aload_n 1, 1) := by decide +kernel
theorem dX5_split_110 : decode cX5_split 110 = .ok (.iload_n 3, 1) := by decide +kernel
theorem dX5_split_111 : decode cX5_split 111 = .ok (.iload 5, 2) := by decide +kernel
theorem dX5_split_113 : decode cX5_split 113 = .ok (.invokestatic 37, 3) := by decide +kernel
theorem dX5_split_116 : decode cX5_split 116 = .ok (.invokevirtual 33, 3) := by decide +kernel
theorem dX5_split_119 : decode cX5_split 119 = .ok (.goto 23, 3) := by decide +kernel
theorem dX5_split_122 : decode cX5_split 122 = .ok (.aload_n 1, 1) := by decide +kernel
theorem dX5_split_123 : decode cX5_split 123 = .ok (.iload_n 3, 1) := by decide +kernel
theorem dX5_split_124 : decode cX5_split 124 = .ok (.baload, 1) := by decide +kernel
theorem dX5_split_125 : decode cX5_split 125 = .ok (.bipush 32, 2) := by decide +kernel
theorem dX5_split_127 : decode cX5_split 127 = .ok (.if_icmp .eq 15, 3) := by decide +kernel
theorem dX5_split_130 : decode cX5_split 130 = .ok (.aload_n 0, 1) := by decide +kernel
theorem dX5_split_131 : decode cX5_split 131 = .ok (.aload_n 1, 1) := by decide +kernel
theorem dX5_split_132 : decode cX5_split 132 = .ok (.iload_n 3, 1) := by decide +kernel
theorem dX5_split_133 : decode cX5_split 133 = .ok (.baload, 1) := by decide +kernel
theorem dX5_split_134 : decode cX5_split 134 = .ok (.invokestatic 40, 3) := by decide +kernel
theorem dX5_split_137 : decode cX5_split 137 = .ok (.iload_n 3, 1) := by decide +kernel
theorem dX5_split_138 : decode cX5_split 138 = .ok (.iconst 0, 1) := by decide +kernel
theorem dX5_split_139 : decode cX5_split 139 = .ok (.invokevirtual 33, 3) := by decide +kernel
theorem dX5_split_142 : decode cX5_split 142 = .ok (.iload 5, 2) := by decide +kernel
theorem dX5_split_144 : decode cX5_split 144 = .ok (.istore_n 3, 1) := by decide +kernel
theorem dX5_split_145 : decode cX5_split 145 = .ok (.iinc 4 1, 3) := by decide +kernel
theorem dX5_split_148 : decode cX5_split 148 = .ok (.goto (-138), 3) := by decide +kernel
theorem dX5_split_151 : decode cX5_split 151 = .ok (.aload_n 0, 1) := by decide +kernel
theorem dX5_split_152 : decode cX5_split 152 = .ok (.iconst 0, 1) := by decide +kernel
theorem dX5_split_153 : decode cX5_split 153 = .ok (.iload_n 2, 1) := by decide +kernel
theorem dX5_split_154 : decode cX5_split 154 = .ok (.iconst 0, 1) := by decide +kernel
theorem dX5_split_155 : decode cX5_split 155 = .ok (.invokevirtual 33, 3) := by decide +kernel
theorem dX5_split_158 : decode cX5_split 158 = .ok (.return_, 1) := by decide +kernel
theorem dX5_addToken_0 : decode cX5_addToken 0 = .ok (.aload_n 0, 1) := by decide +kernel
theorem dX5_addToken_1 : decode cX5_addToken 1 = .ok (.getfield 21, 3) := by decide +kernel
theorem dX5_addToken_4 : decode cX5_addToken 4 = .ok (.aload_n 0, 1) := by decide +kernel
theorem dX5_addToken_5 : decode cX5_addToken 5 = .ok (.getfield 9, 3) := by decide +kernel
theorem dX5_addToken_8 : decode cX5_addToken 8 = .ok (.arraylength, 1) := by decide +kernel
theorem dX5_addToken_9 : decode cX5_addToken 9 = .ok (.if_icmp .ge 43, 3) := by decide +kernel
theorem dX5_addToken_12 : decode cX5_addToken 12 = .ok (.aload_n 0, 1) := by decide +kernel
theorem dX5_addToken_13 : decode cX5_addToken 13 = .ok (.getfield 9, 3) := by decide +kernel
theorem dX5_addToken_16 : decode cX5_addToken 16 = .ok (.aload_n 0, 1) := by decide +kernel
theorem dX5_addToken_17 : decode cX5_addToken 17 = .ok (.getfield 21, 3) := by decide +kernel
theorem dX5_addToken_20 : decode cX5_addToken 20 = .ok (.iload_n 1, 1) := by decide +kernel
theorem dX5_addToken_21 : decode cX5_addToken 21 = .ok (.iastore, 1) := by decide +kernel
theorem dX5_addToken_22 : decode cX5_addToken 22 = .ok (.aload_n 0, 1) := by decide +kernel
theorem dX5_addToken_23 : decode cX5_addToken 23 = .ok (.getfield 15, 3) := by decide +kernel
theorem dX5_addToken_26 : decode cX5_addToken 26 = .ok (.aload_n 0, 1) := by decide +kernel
theorem dX5_addToken_27 : decode cX5_addToken 27 = .ok (.getfield 21, 3) := by decide +kernel
theorem dX5_addToken_30 : decode cX5_addToken 30 = .ok (.iload_n 2, 1) := by decide +kernel
theorem dX5_addToken_31 : decode cX5_addToken 31 = .ok (.iastore, 1) := by decide +kernel
theorem dX5_addToken_32 : decode cX5_addToken 32 = .ok (.aload_n 0, 1) := by decide +kernel
theorem dX5_addToken_33 : decode cX5_addToken 33 = .ok (.getfield 18, 3) := by decide +kernel
theorem dX5_addToken_36 : decode cX5_addToken 36 = .ok (.aload_n 0, 1) := by decide +kernel
theorem dX5_addToken_37 : decode cX5_addToken 37 = .ok (.getfield 21, 3) := by decide +kernel
theorem dX5_addToken_40 : decode cX5_addToken 40 = .ok (.iload_n 3, 1) := by decide +kernel
theorem dX5_addToken_41 : decode cX5_addToken 41 = .ok (.iastore, 1) := by decide +kernel
theorem dX5_addToken_42 : decode cX5_addToken 42 = .ok (.aload_n 0, 1) := by decide +kernel
theorem dX5_addToken_43 : decode cX5_addToken 43 = .ok (.dup, 1) := by decide +kernel
theorem dX5_addToken_44 : decode cX5_addToken 44 = .ok (.getfield 21, 3) := by decide +kernel
theorem dX5_addToken_47 : decode cX5_addToken 47 = .ok (.iconst 1, 1) := by decide +kernel
theorem dX5_addToken_48 : decode cX5_addToken 48 = .ok (.iadd, 1) := by decide +kernel
theorem dX5_addToken_49 : decode cX5_addToken 49 = .ok (.putfield 21, 3) := by decide +kernel
theorem dX5_addToken_52 : decode cX5_addToken 52 = .ok (.return_, 1) := by decide +kernel
theorem dX5_endOfRun_0 : decode cX5_endOfRun 0 = .ok (.iload_n 2, 1) := by decide +kernel
theorem dX5_endOfRun_1 : decode cX5_endOfRun 1 = .ok (.iconst 1, 1) := by decide +kernel
theorem dX5_endOfRun_2 : decode cX5_endOfRun 2 = .ok (.iadd, 1) := by decide +kernel
theorem dX5_endOfRun_3 : decode cX5_endOfRun 3 = .ok (.istore 5, 2) := by decide +kernel
theorem dX5_endOfRun_5 : decode cX5_endOfRun 5 = .ok (.iload 5, 2) := by decide +kernel
theorem dX5_endOfRun_7 : decode cX5_endOfRun 7 = .ok (.iload_n 1, 1) := by decide +kernel
theorem dX5_endOfRun_8 : decode cX5_endOfRun 8 = .ok (.if_icmp .ge 33, 3) := by decide +kernel
theorem dX5_endOfRun_11 : decode cX5_endOfRun 11 = .ok (.iload 5, 2) := by decide +kernel
theorem dX5_endOfRun_13 : decode cX5_endOfRun 13 = .ok (.aload_n 0, 1) := by decide +kernel
theorem dX5_endOfRun_14 : decode cX5_endOfRun 14 = .ok (.arraylength, 1) := by decide +kernel
theorem dX5_endOfRun_15 : decode cX5_endOfRun 15 = .ok (.if_icmp .ge 26, 3) := by decide +kernel
theorem dX5_endOfRun_18 : decode cX5_endOfRun 18 = .ok (.aload_n 0, 1) := by decide +kernel
theorem dX5_endOfRun_19 : decode cX5_endOfRun 19 = .ok (.iload 5, 2) := by decide +kernel
theorem dX5_endOfRun_21 : decode cX5_endOfRun 21 = .ok (.baload, 1) := by decide +kernel
theorem dX5_endOfRun_22 : decode cX5_endOfRun 22 = .ok (.iload_n 3, 1) := by decide +kernel
theorem dX5_endOfRun_23 : decode cX5_endOfRun 23 = .ok (.if_icmp .lt 18, 3) := by decide +kernel
theorem dX5_endOfRun_26 : decode cX5_endOfRun 26 = .ok (.aload_n 0, 1) := by decide +kernel
theorem dX5_endOfRun_27 : decode cX5_endOfRun 27 = .ok (.iload 5, 2) := by decide +kernel
theorem dX5_endOfRun_29 : decode cX5_endOfRun 29 = .ok (.baload, 1) := by decide +kernel
theorem dX5_endOfRun_30 : decode cX5_endOfRun 30 = .ok (.iload 4, 2) := by decide +kernel
theorem dX5_endOfRun_32 : decode cX5_endOfRun 32 = .ok (.if_icmp .gt 9, 3) := by decide +kernel
theorem dX5_endOfRun_35 : decode cX5_endOfRun 35 = .ok (.iinc 5 1, 3) := by decide +kernel
theorem dX5_endOfRun_38 : decode cX5_endOfRun 38 = .ok (.goto (-33), 3) := by decide +kernel
theorem dX5_endOfRun_41 : decode cX5_endOfRun 41 = .ok (.iload 5, 2) := by decide +kernel
theorem dX5_endOfRun_43 : decode cX5_endOfRun 43 = .ok (.ireturn, 1) := by decide +kernel
theorem dX5_numberIn_0 : decode cX5_numberIn 0 = .ok (.iconst 0, 1) := by decide +kernel
theorem dX5_numberIn_1 : decode cX5_numberIn 1 = .ok (.istore_n 3, 1) := by decide +kernel
theorem dX5_numberIn_2 : decode cX5_numberIn 2 = .ok (.iload_n 1, 1) := by decide +kernel
theorem dX5_numberIn_3 : decode cX5_numberIn 3 = .ok (.istore 4, 2) := by decide +kernel
theorem dX5_numberIn_5 : decode cX5_numberIn 5 = .ok (.iload 4, 2) := by decide +kernel
theorem dX5_numberIn_7 : decode cX5_numberIn 7 = .ok (.iload_n 2, 1) := by decide +kernel
theorem dX5_numberIn_8 : decode cX5_numberIn 8 = .ok (.if_icmp .ge 31, 3) := by decide +kernel
theorem dX5_numberIn_11 : decode cX5_numberIn 11 = .ok (.iload_n 3, 1) := by decide +kernel
theorem dX5_numberIn_12 : decode cX5_numberIn 12 = .ok (.bipush 10, 2) := by decide +kernel
theorem dX5_numberIn_14 : decode cX5_numberIn 14 = .ok (.imul, 1) := by decide +kernel
theorem dX5_numberIn_15 : decode cX5_numberIn 15 = .ok (.aload_n 0, 1) := by decide +kernel
theorem dX5_numberIn_16 : decode cX5_numberIn 16 = .ok (.iload 4, 2) := by decide +kernel
theorem dX5_numberIn_18 : decode cX5_numberIn 18 = .ok (.baload, 1) := by decide +kernel
theorem dX5_numberIn_19 : decode cX5_numberIn 19 = .ok (.bipush 48, 2) := by decide +kernel
theorem dX5_numberIn_21 : decode cX5_numberIn 21 = .ok (.isub, 1) := by decide +kernel
theorem dX5_numberIn_22 : decode cX5_numberIn 22 = .ok (.iadd, 1) := by decide +kernel
theorem dX5_numberIn_23 : decode cX5_numberIn 23 = .ok (.istore_n 3, 1) := by decide +kernel
theorem dX5_numberIn_24 : decode cX5_numberIn 24 = .ok (.iload_n 3, 1) := by decide +kernel
theorem dX5_numberIn_25 : decode cX5_numberIn 25 = .ok (.ldc 44, 2) := by decide +kernel
theorem dX5_numberIn_27 : decode cX5_numberIn 27 = .ok (.if_icmp .le 6, 3) := by decide +kernel
theorem dX5_numberIn_30 : decode cX5_numberIn 30 = .ok (.ldc 44, 2) := by decide +kernel
theorem dX5_numberIn_32 : decode cX5_numberIn 32 = .ok (.istore_n 3, 1) := by decide +kernel
theorem dX5_numberIn_33 : decode cX5_numberIn 33 = .ok (.iinc 4 1, 3) := by decide +kernel
theorem dX5_numberIn_36 : decode cX5_numberIn 36 = .ok (.goto (-31), 3) := by decide +kernel
theorem dX5_numberIn_39 : decode cX5_numberIn 39 = .ok (.iload_n 3, 1) := by decide +kernel
theorem dX5_numberIn_40 : decode cX5_numberIn 40 = .ok (.ireturn, 1) := by decide +kernel
theorem dX5_signKind_0 : decode cX5_signKind 0 = .ok (.iload_n 0, 1) := by decide +kernel
theorem dX5_signKind_1 : decode cX5_signKind 1 = .ok (.tableswitch 113 40 59 #[97, 99, 107, 101, 113, 104, 113, 110, 113, 113, 113, 113, 113, 113, 113, 113, 113, 113, 113, 95], 95) := by decide +kernel
theorem dX5_signKind_96 : decode cX5_signKind 96 = .ok (.iconst 3, 1) := by decide +kernel
theorem dX5_signKind_97 : decode cX5_signKind 97 = .ok (.ireturn, 1) := by decide +kernel
theorem dX5_signKind_98 : decode cX5_signKind 98 = .ok (.iconst 4, 1) := by decide +kernel
theorem dX5_signKind_99 : decode cX5_signKind 99 = .ok (.ireturn, 1) := by decide +kernel
theorem dX5_signKind_100 : decode cX5_signKind 100 = .ok (.iconst 5, 1) := by decide +kernel
theorem dX5_signKind_101 : decode cX5_signKind 101 = .ok (.ireturn, 1) := by decide +kernel
theorem dX5_signKind_102 : decode cX5_signKind 102 = .ok (.bipush 6, 2) := by decide +kernel
theorem dX5_signKind_104 : decode cX5_signKind 104 = .ok (.ireturn, 1) := by decide +kernel
theorem dX5_signKind_105 : decode cX5_signKind 105 = .ok (.bipush 7, 2) := by decide +kernel
theorem dX5_signKind_107 : decode cX5_signKind 107 = .ok (.ireturn, 1) := by decide +kernel
theorem dX5_signKind_108 : decode cX5_signKind 108 = .ok (.bipush 8, 2) := by decide +kernel
theorem dX5_signKind_110 : decode cX5_signKind 110 = .ok (.ireturn, 1) := by decide +kernel
theorem dX5_signKind_111 : decode cX5_signKind 111 = .ok (.bipush 9, 2) := by decide +kernel
theorem dX5_signKind_113 : decode cX5_signKind 113 = .ok (.ireturn, 1) := by decide +kernel
theorem dX5_signKind_114 : decode cX5_signKind 114 = .ok (.iconst 1, 1) := by decide +kernel
theorem dX5_signKind_115 : decode cX5_signKind 115 = .ok (.ireturn, 1) := by decide +kernel
theorem dX5_wordKind_0 : decode cX5_wordKind 0 = .ok (.bipush 10, 2) := by decide +kernel
theorem dX5_wordKind_2 : decode cX5_wordKind 2 = .ok (.istore_n 3, 1) := by decide +kernel
theorem dX5_wordKind_3 : decode cX5_wordKind 3 = .ok (.iload_n 3, 1) := by decide +kernel
theorem dX5_wordKind_4 : decode cX5_wordKind 4 = .ok (.bipush 23, 2) := by decide +kernel
theorem dX5_wordKind_6 : decode cX5_wordKind 6 = .ok (.if_icmp .ge 24, 3) := by decide +kernel
theorem dX5_wordKind_9 : decode cX5_wordKind 9 = .ok (.aload_n 0, 1) := by decide +kernel
theorem dX5_wordKind_10 : decode cX5_wordKind 10 = .ok (.iload_n 1, 1) := by decide +kernel
theorem dX5_wordKind_11 : decode cX5_wordKind 11 = .ok (.iload_n 2, 1) := by decide +kernel
theorem dX5_wordKind_12 : decode cX5_wordKind 12 = .ok (.iload_n 3, 1) := by decide +kernel
theorem dX5_wordKind_13 : decode cX5_wordKind 13 = .ok (.invokestatic 45, 3) := by decide +kernel
theorem dX5_wordKind_16 : decode cX5_wordKind 16 = .ok (.invokestatic 49, 3) := by decide +kernel
theorem dX5_wordKind_19 : decode cX5_wordKind 19 = .ok (.ifCond .eq 5, 3) := by decide +kernel
theorem dX5_wordKind_22 : decode cX5_wordKind 22 = .ok (.iload_n 3, 1) := by decide +kernel
theorem dX5_wordKind_23 : decode cX5_wordKind 23 = .ok (.ireturn, 1) := by decide +kernel
theorem dX5_wordKind_24 : decode cX5_wordKind 24 = .ok (.iinc 3 1, 3) := by decide +kernel
theorem dX5_wordKind_27 : decode cX5_wordKind 27 = .ok (.goto (-24), 3) := by decide +kernel
theorem dX5_wordKind_30 : decode cX5_wordKind 30 = .ok (.bipush 23, 2) := by decide +kernel
theorem dX5_wordKind_32 : decode cX5_wordKind 32 = .ok (.ireturn, 1) := by decide +kernel
theorem dX5_isWord_0 : decode cX5_isWord 0 = .ok (.iload_n 2, 1) := by decide +kernel
theorem dX5_isWord_1 : decode cX5_isWord 1 = .ok (.iload_n 1, 1) := by decide +kernel
theorem dX5_isWord_2 : decode cX5_isWord 2 = .ok (.isub, 1) := by decide +kernel
theorem dX5_isWord_3 : decode cX5_isWord 3 = .ok (.aload_n 3, 1) := by decide +kernel
theorem dX5_isWord_4 : decode cX5_isWord 4 = .ok (.invokevirtual 53, 3) := by decide +kernel
theorem dX5_isWord_7 : decode cX5_isWord 7 = .ok (.if_icmp .eq 5, 3) := by decide +kernel
theorem dX5_isWord_10 : decode cX5_isWord 10 = .ok (.iconst 0, 1) := by decide +kernel
theorem dX5_isWord_11 : decode cX5_isWord 11 = .ok (.ireturn, 1) := by decide +kernel
theorem dX5_isWord_12 : decode cX5_isWord 12 = .ok (.iconst 0, 1) := by decide +kernel
theorem dX5_isWord_13 : decode cX5_isWord 13 = .ok (.istore 4, 2) := by decide +kernel
theorem dX5_isWord_15 : decode cX5_isWord 15 = .ok (.iload 4, 2) := by decide +kernel
theorem dX5_isWord_17 : decode cX5_isWord 17 = .ok (.aload_n 3, 1) := by decide +kernel
theorem dX5_isWord_18 : decode cX5_isWord 18 = .ok (.invokevirtual 53, 3) := by decide +kernel
theorem dX5_isWord_21 : decode cX5_isWord 21 = .ok (.if_icmp .ge 26, 3) := by decide +kernel
theorem dX5_isWord_24 : decode cX5_isWord 24 = .ok (.aload_n 0, 1) := by decide +kernel
theorem dX5_isWord_25 : decode cX5_isWord 25 = .ok (.iload_n 1, 1) := by decide +kernel
theorem dX5_isWord_26 : decode cX5_isWord 26 = .ok (.iload 4, 2) := by decide +kernel
theorem dX5_isWord_28 : decode cX5_isWord 28 = .ok (.iadd, 1) := by decide +kernel
theorem dX5_isWord_29 : decode cX5_isWord 29 = .ok (.baload, 1) := by decide +kernel
theorem dX5_isWord_30 : decode cX5_isWord 30 = .ok (.aload_n 3, 1) := by decide +kernel
theorem dX5_isWord_31 : decode cX5_isWord 31 = .ok (.iload 4, 2) := by decide +kernel
theorem dX5_isWord_33 : decode cX5_isWord 33 = .ok (.invokevirtual 59, 3) := by decide +kernel
theorem dX5_isWord_36 : decode cX5_isWord 36 = .ok (.if_icmp .eq 5, 3) := by decide +kernel
theorem dX5_isWord_39 : decode cX5_isWord 39 = .ok (.iconst 0, 1) := by decide +kernel
theorem dX5_isWord_40 : decode cX5_isWord 40 = .ok (.ireturn, 1) := by decide +kernel
theorem dX5_isWord_41 : decode cX5_isWord 41 = .ok (.iinc 4 1, 3) := by decide +kernel
theorem dX5_isWord_44 : decode cX5_isWord 44 = .ok (.goto (-29), 3) := by decide +kernel
theorem dX5_isWord_47 : decode cX5_isWord 47 = .ok (.iconst 1, 1) := by decide +kernel
theorem dX5_isWord_48 : decode cX5_isWord 48 = .ok (.ireturn, 1) := by decide +kernel
theorem dX5_spelling_0 : decode cX5_spelling 0 = .ok (.iload_n 0, 1) := by decide +kernel
theorem dX5_spelling_1 : decode cX5_spelling 1 = .ok (.tableswitch 99 10 21 #[63, 66, 69, 72, 75, 78, 81, 84, 87, 90, 93, 96], 63) := by decide +kernel
theorem dX5_spelling_64 : decode cX5_spelling 64 = .ok (.ldc 63, 2) := by decide +kernel
theorem dX5_spelling_66 : decode cX5_spelling 66 = .ok (.areturn, 1) := by decide +kernel
theorem dX5_spelling_67 : decode cX5_spelling 67 = .ok (.ldc 65, 2) := by decide +kernel
theorem dX5_spelling_69 : decode cX5_spelling 69 = .ok (.areturn, 1) := by decide +kernel
theorem dX5_spelling_70 : decode cX5_spelling 70 = .ok (.ldc 67, 2) := by decide +kernel
theorem dX5_spelling_72 : decode cX5_spelling 72 = .ok (.areturn, 1) := by decide +kernel
theorem dX5_spelling_73 : decode cX5_spelling 73 = .ok (.ldc 69, 2) := by decide +kernel
theorem dX5_spelling_75 : decode cX5_spelling 75 = .ok (.areturn, 1) := by decide +kernel
theorem dX5_spelling_76 : decode cX5_spelling 76 = .ok (.ldc 71, 2) := by decide +kernel
theorem dX5_spelling_78 : decode cX5_spelling 78 = .ok (.areturn, 1) := by decide +kernel
theorem dX5_spelling_79 : decode cX5_spelling 79 = .ok (.ldc 73, 2) := by decide +kernel
theorem dX5_spelling_81 : decode cX5_spelling 81 = .ok (.areturn, 1) := by decide +kernel
theorem dX5_spelling_82 : decode cX5_spelling 82 = .ok (.ldc 75, 2) := by decide +kernel
theorem dX5_spelling_84 : decode cX5_spelling 84 = .ok (.areturn, 1) := by decide +kernel
theorem dX5_spelling_85 : decode cX5_spelling 85 = .ok (.ldc 77, 2) := by decide +kernel
theorem dX5_spelling_87 : decode cX5_spelling 87 = .ok (.areturn, 1) := by decide +kernel
theorem dX5_spelling_88 : decode cX5_spelling 88 = .ok (.ldc 79, 2) := by decide +kernel
theorem dX5_spelling_90 : decode cX5_spelling 90 = .ok (.areturn, 1) := by decide +kernel
theorem dX5_spelling_91 : decode cX5_spelling 91 = .ok (.ldc 81, 2) := by decide +kernel
theorem dX5_spelling_93 : decode cX5_spelling 93 = .ok (.areturn, 1) := by decide +kernel
theorem dX5_spelling_94 : decode cX5_spelling 94 = .ok (.ldc 83, 2) := by decide +kernel
theorem dX5_spelling_96 : decode cX5_spelling 96 = .ok (.areturn, 1) := by decide +kernel
theorem dX5_spelling_97 : decode cX5_spelling 97 = .ok (.ldc 85, 2) := by decide +kernel
theorem dX5_spelling_99 : decode cX5_spelling 99 = .ok (.areturn, 1) := by decide +kernel
theorem dX5_spelling_100 : decode cX5_spelling 100 = .ok (.ldc 87, 2) := by decide +kernel
theorem dX5_spelling_102 : decode cX5_spelling 102 = .ok (.areturn, 1) := by decide +kernel
theorem dX6_init_0 : decode cX6_init 0 = .ok (.aload_n 0, 1) := by decide +kernel
theorem dX6_init_1 : decode cX6_init 1 = .ok (.invokespecial 3, 3) := by decide +kernel
theorem dX6_init_4 : decode cX6_init 4 = .ok (.aload_n 0, 1) := by decide +kernel
theorem dX6_init_5 : decode cX6_init 5 = .ok (.bipush 6, 2) := by decide +kernel
theorem dX6_init_7 : decode cX6_init 7 = .ok (.anewarray 9, 3) := by decide +kernel
theorem dX6_init_10 : decode cX6_init 10 = .ok (.putfield 11, 3) := by decide +kernel
theorem dX6_init_13 : decode cX6_init 13 = .ok (.aload_n 0, 1) := by decide +kernel
theorem dX6_init_14 : decode cX6_init 14 = .ok (.bipush 8, 2) := by decide +kernel
theorem dX6_init_16 : decode cX6_init 16 = .ok (.anewarray 17, 3) := by decide +kernel
theorem dX6_init_19 : decode cX6_init 19 = .ok (.putfield 19, 3) := by decide +kernel
theorem dX6_init_22 : decode cX6_init 22 = .ok (.aload_n 0, 1) := by decide +kernel
theorem dX6_init_23 : decode cX6_init 23 = .ok (.bipush 60, 2) := by decide +kernel
theorem dX6_init_25 : decode cX6_init 25 = .ok (.anewarray 23, 3) := by decide +kernel
theorem dX6_init_28 : decode cX6_init 28 = .ok (.putfield 25, 3) := by decide +kernel
theorem dX6_init_31 : decode cX6_init 31 = .ok (.aload_n 0, 1) := by decide +kernel
theorem dX6_init_32 : decode cX6_init 32 = .ok (.new 29, 3) := by decide +kernel
theorem dX6_init_35 : decode cX6_init 35 = .ok (.dup, 1) := by decide +kernel
theorem dX6_init_36 : decode cX6_init 36 = .ok (.invokespecial 31, 3) := by decide +kernel
theorem dX6_init_39 : decode cX6_init 39 = .ok (.putfield 32, 3) := by decide +kernel
theorem dX6_init_42 : decode cX6_init 42 = .ok (.aload_n 0, 1) := by decide +kernel
theorem dX6_init_43 : decode cX6_init 43 = .ok (.iconst 3, 1) := by decide +kernel
theorem dX6_init_44 : decode cX6_init 44 = .ok (.newarray .int, 2) := by decide +kernel
theorem dX6_init_46 : decode cX6_init 46 = .ok (.putfield 36, 3) := by decide +kernel
theorem dX6_init_49 : decode cX6_init 49 = .ok (.iconst 0, 1) := by decide +kernel
theorem dX6_init_50 : decode cX6_init 50 = .ok (.istore_n 1, 1) := by decide +kernel
theorem dX6_init_51 : decode cX6_init 51 = .ok (.iload_n 1, 1) := by decide +kernel
theorem dX6_init_52 : decode cX6_init 52 = .ok (.aload_n 0, 1) := by decide +kernel
theorem dX6_init_53 : decode cX6_init 53 = .ok (.getfield 11, 3) := by decide +kernel
theorem dX6_init_56 : decode cX6_init 56 = .ok (.arraylength, 1) := by decide +kernel
theorem dX6_init_57 : decode cX6_init 57 = .ok (.if_icmp .ge 22, 3) := by decide +kernel
theorem dX6_init_60 : decode cX6_init 60 = .ok (.aload_n 0, 1) := by decide +kernel
theorem dX6_init_61 : decode cX6_init 61 = .ok (.getfield 11, 3) := by decide +kernel
theorem dX6_init_64 : decode cX6_init 64 = .ok (.iload_n 1, 1) := by decide +kernel
theorem dX6_init_65 : decode cX6_init 65 = .ok (.new 9, 3) := by decide +kernel
theorem dX6_init_68 : decode cX6_init 68 = .ok (.dup, 1) := by decide +kernel
theorem dX6_init_69 : decode cX6_init 69 = .ok (.invokespecial 40, 3) := by decide +kernel
theorem dX6_init_72 : decode cX6_init 72 = .ok (.aastore, 1) := by decide +kernel
theorem dX6_init_73 : decode cX6_init 73 = .ok (.iinc 1 1, 3) := by decide +kernel
theorem dX6_init_76 : decode cX6_init 76 = .ok (.goto (-25), 3) := by decide +kernel
theorem dX6_init_79 : decode cX6_init 79 = .ok (.iconst 0, 1) := by decide +kernel
theorem dX6_init_80 : decode cX6_init 80 = .ok (.istore_n 1, 1) := by decide +kernel
theorem dX6_init_81 : decode cX6_init 81 = .ok (.iload_n 1, 1) := by decide +kernel
theorem dX6_init_82 : decode cX6_init 82 = .ok (.aload_n 0, 1) := by decide +kernel
theorem dX6_init_83 : decode cX6_init 83 = .ok (.getfield 19, 3) := by decide +kernel
theorem dX6_init_86 : decode cX6_init 86 = .ok (.arraylength, 1) := by decide +kernel
theorem dX6_init_87 : decode cX6_init 87 = .ok (.if_icmp .ge 22, 3) := by decide +kernel
theorem dX6_init_90 : decode cX6_init 90 = .ok (.aload_n 0, 1) := by decide +kernel
theorem dX6_init_91 : decode cX6_init 91 = .ok (.getfield 19, 3) := by decide +kernel
theorem dX6_init_94 : decode cX6_init 94 = .ok (.iload_n 1, 1) := by decide +kernel
theorem dX6_init_95 : decode cX6_init 95 = .ok (.new 17, 3) := by decide +kernel
theorem dX6_init_98 : decode cX6_init 98 = .ok (.dup, 1) := by decide +kernel
theorem dX6_init_99 : decode cX6_init 99 = .ok (.invokespecial 41, 3) := by decide +kernel
theorem dX6_init_102 : decode cX6_init 102 = .ok (.aastore, 1) := by decide +kernel
theorem dX6_init_103 : decode cX6_init 103 = .ok (.iinc 1 1, 3) := by decide +kernel
theorem dX6_init_106 : decode cX6_init 106 = .ok (.goto (-25), 3) := by decide +kernel
theorem dX6_init_109 : decode cX6_init 109 = .ok (.iconst 0, 1) := by decide +kernel
theorem dX6_init_110 : decode cX6_init 110 = .ok (.istore_n 1, 1) := by decide +kernel
theorem dX6_init_111 : decode cX6_init 111 = .ok (.iload_n 1, 1) := by decide +kernel
theorem dX6_init_112 : decode cX6_init 112 = .ok (.aload_n 0, 1) := by decide +kernel
theorem dX6_init_113 : decode cX6_init 113 = .ok (.getfield 25, 3) := by decide +kernel
theorem dX6_init_116 : decode cX6_init 116 = .ok (.arraylength, 1) := by decide +kernel
theorem dX6_init_117 : decode cX6_init 117 = .ok (.if_icmp .ge 22, 3) := by decide +kernel
theorem dX6_init_120 : decode cX6_init 120 = .ok (.aload_n 0, 1) := by decide +kernel
theorem dX6_init_121 : decode cX6_init 121 = .ok (.getfield 25, 3) := by decide +kernel
theorem dX6_init_124 : decode cX6_init 124 = .ok (.iload_n 1, 1) := by decide +kernel
theorem dX6_init_125 : decode cX6_init 125 = .ok (.new 23, 3) := by decide +kernel
theorem dX6_init_128 : decode cX6_init 128 = .ok (.dup, 1) := by decide +kernel
theorem dX6_init_129 : decode cX6_init 129 = .ok (.invokespecial 42, 3) := by decide +kernel
theorem dX6_init_132 : decode cX6_init 132 = .ok (.aastore, 1) := by decide +kernel
theorem dX6_init_133 : decode cX6_init 133 = .ok (.iinc 1 1, 3) := by decide +kernel
theorem dX6_init_136 : decode cX6_init 136 = .ok (.goto (-25), 3) := by decide +kernel
theorem dX6_init_139 : decode cX6_init 139 = .ok (.aload_n 0, 1) := by decide +kernel
theorem dX6_init_140 : decode cX6_init 140 = .ok (.invokevirtual 43, 3) := by decide +kernel
theorem dX6_init_143 : decode cX6_init 143 = .ok (.return_, 1) := by decide +kernel
theorem dX6_begin_0 : decode cX6_begin 0 = .ok (.aload_n 0, 1) := by decide +kernel
theorem dX6_begin_1 : decode cX6_begin 1 = .ok (.iconst 0, 1) := by decide +kernel
theorem dX6_begin_2 : decode cX6_begin 2 = .ok (.putfield 46, 3) := by decide +kernel
theorem dX6_begin_5 : decode cX6_begin 5 = .ok (.aload_n 0, 1) := by decide +kernel
theorem dX6_begin_6 : decode cX6_begin 6 = .ok (.iconst 0, 1) := by decide +kernel
theorem dX6_begin_7 : decode cX6_begin 7 = .ok (.putfield 50, 3) := by decide +kernel
theorem dX6_begin_10 : decode cX6_begin 10 = .ok (.aload_n 0, 1) := by decide +kernel
theorem dX6_begin_11 : decode cX6_begin 11 = .ok (.iconst 0, 1) := by decide +kernel
theorem dX6_begin_12 : decode cX6_begin 12 = .ok (.putfield 53, 3) := by decide +kernel
theorem dX6_begin_15 : decode cX6_begin 15 = .ok (.aload_n 0, 1) := by decide +kernel
theorem dX6_begin_16 : decode cX6_begin 16 = .ok (.iconst 0, 1) := by decide +kernel
theorem dX6_begin_17 : decode cX6_begin 17 = .ok (.putfield 56, 3) := by decide +kernel
theorem dX6_begin_20 : decode cX6_begin 20 = .ok (.aload_n 0, 1) := by decide +kernel
theorem dX6_begin_21 : decode cX6_begin 21 = .ok (.iconst 0, 1) := by decide +kernel
theorem dX6_begin_22 : decode cX6_begin 22 = .ok (.putfield 59, 3) := by decide +kernel
theorem dX6_begin_25 : decode cX6_begin 25 = .ok (.aload_n 0, 1) := by decide +kernel
theorem dX6_begin_26 : decode cX6_begin 26 = .ok (.iconst 5, 1) := by decide +kernel
theorem dX6_begin_27 : decode cX6_begin 27 = .ok (.putfield 62, 3) := by decide +kernel
theorem dX6_begin_30 : decode cX6_begin 30 = .ok (.aload_n 0, 1) := by decide +kernel
theorem dX6_begin_31 : decode cX6_begin 31 = .ok (.bipush 10, 2) := by decide +kernel
theorem dX6_begin_33 : decode cX6_begin 33 = .ok (.putfield 65, 3) := by decide +kernel
theorem dX6_begin_36 : decode cX6_begin 36 = .ok (.aload_n 0, 1) := by decide +kernel
theorem dX6_begin_37 : decode cX6_begin 37 = .ok (.bipush 10, 2) := by decide +kernel
theorem dX6_begin_39 : decode cX6_begin 39 = .ok (.putfield 68, 3) := by decide +kernel
theorem dX6_begin_42 : decode cX6_begin 42 = .ok (.aload_n 0, 1) := by decide +kernel
theorem dX6_begin_43 : decode cX6_begin 43 = .ok (.bipush 10, 2) := by decide +kernel
theorem dX6_begin_45 : decode cX6_begin 45 = .ok (.putfield 71, 3) := by decide +kernel
theorem dX6_begin_48 : decode cX6_begin 48 = .ok (.aload_n 0, 1) := by decide +kernel
theorem dX6_begin_49 : decode cX6_begin 49 = .ok (.iconst 1, 1) := by decide +kernel
theorem dX6_begin_50 : decode cX6_begin 50 = .ok (.putfield 74, 3) := by decide +kernel
theorem dX6_begin_53 : decode cX6_begin 53 = .ok (.aload_n 0, 1) := by decide +kernel
theorem dX6_begin_54 : decode cX6_begin 54 = .ok (.getfield 32, 3) := by decide +kernel
theorem dX6_begin_57 : decode cX6_begin 57 = .ok (.iconst 0, 1) := by decide +kernel
theorem dX6_begin_58 : decode cX6_begin 58 = .ok (.putfield 77, 3) := by decide +kernel
theorem dX6_begin_61 : decode cX6_begin 61 = .ok (.return_, 1) := by decide +kernel
theorem dX6_copyOf_0 : decode cX6_copyOf 0 = .ok (.aload_n 0, 1) := by decide +kernel
theorem dX6_copyOf_1 : decode cX6_copyOf 1 = .ok (.aload_n 1, 1) := by decide +kernel
theorem dX6_copyOf_2 : decode cX6_copyOf 2 = .ok (.getfield 46, 3) := by decide +kernel
theorem dX6_copyOf_5 : decode cX6_copyOf 5 = .ok (.putfield 46, 3) := by decide +kernel
theorem dX6_copyOf_8 : decode cX6_copyOf 8 = .ok (.iconst 0, 1) := by decide +kernel
theorem dX6_copyOf_9 : decode cX6_copyOf 9 = .ok (.istore_n 2, 1) := by decide +kernel
theorem dX6_copyOf_10 : decode cX6_copyOf 10 = .ok (.iload_n 2, 1) := by decide +kernel
theorem dX6_copyOf_11 : decode cX6_copyOf 11 = .ok (.aload_n 0, 1) := by decide +kernel
theorem dX6_copyOf_12 : decode cX6_copyOf 12 = .ok (.getfield 46, 3) := by decide +kernel
theorem dX6_copyOf_15 : decode cX6_copyOf 15 = .ok (.if_icmp .ge 24, 3) := by decide +kernel
theorem dX6_copyOf_18 : decode cX6_copyOf 18 = .ok (.aload_n 0, 1) := by decide +kernel
theorem dX6_copyOf_19 : decode cX6_copyOf 19 = .ok (.getfield 11, 3) := by decide +kernel
theorem dX6_copyOf_22 : decode cX6_copyOf 22 = .ok (.iload_n 2, 1) := by decide +kernel
theorem dX6_copyOf_23 : decode cX6_copyOf 23 = .ok (.aaload, 1) := by decide +kernel
theorem dX6_copyOf_24 : decode cX6_copyOf 24 = .ok (.aload_n 1, 1) := by decide +kernel
theorem dX6_copyOf_25 : decode cX6_copyOf 25 = .ok (.getfield 11, 3) := by decide +kernel
theorem dX6_copyOf_28 : decode cX6_copyOf 28 = .ok (.iload_n 2, 1) := by decide +kernel
theorem dX6_copyOf_29 : decode cX6_copyOf 29 = .ok (.aaload, 1) := by decide +kernel
theorem dX6_copyOf_30 : decode cX6_copyOf 30 = .ok (.invokevirtual 80, 3) := by decide +kernel
theorem dX6_copyOf_33 : decode cX6_copyOf 33 = .ok (.iinc 2 1, 3) := by decide +kernel
theorem dX6_copyOf_36 : decode cX6_copyOf 36 = .ok (.goto (-26), 3) := by decide +kernel
theorem dX6_copyOf_39 : decode cX6_copyOf 39 = .ok (.aload_n 0, 1) := by decide +kernel
theorem dX6_copyOf_40 : decode cX6_copyOf 40 = .ok (.aload_n 1, 1) := by decide +kernel
theorem dX6_copyOf_41 : decode cX6_copyOf 41 = .ok (.getfield 50, 3) := by decide +kernel
theorem dX6_copyOf_44 : decode cX6_copyOf 44 = .ok (.putfield 50, 3) := by decide +kernel
theorem dX6_copyOf_47 : decode cX6_copyOf 47 = .ok (.iconst 0, 1) := by decide +kernel
theorem dX6_copyOf_48 : decode cX6_copyOf 48 = .ok (.istore_n 2, 1) := by decide +kernel
theorem dX6_copyOf_49 : decode cX6_copyOf 49 = .ok (.iload_n 2, 1) := by decide +kernel
theorem dX6_copyOf_50 : decode cX6_copyOf 50 = .ok (.aload_n 0, 1) := by decide +kernel
theorem dX6_copyOf_51 : decode cX6_copyOf 51 = .ok (.getfield 50, 3) := by decide +kernel
theorem dX6_copyOf_54 : decode cX6_copyOf 54 = .ok (.if_icmp .ge 24, 3) := by decide +kernel
theorem dX6_copyOf_57 : decode cX6_copyOf 57 = .ok (.aload_n 0, 1) := by decide +kernel
theorem dX6_copyOf_58 : decode cX6_copyOf 58 = .ok (.getfield 19, 3) := by decide +kernel
theorem dX6_copyOf_61 : decode cX6_copyOf 61 = .ok (.iload_n 2, 1) := by decide +kernel
theorem dX6_copyOf_62 : decode cX6_copyOf 62 = .ok (.aaload, 1) := by decide +kernel
theorem dX6_copyOf_63 : decode cX6_copyOf 63 = .ok (.aload_n 1, 1) := by decide +kernel
theorem dX6_copyOf_64 : decode cX6_copyOf 64 = .ok (.getfield 19, 3) := by decide +kernel
theorem dX6_copyOf_67 : decode cX6_copyOf 67 = .ok (.iload_n 2, 1) := by decide +kernel
theorem dX6_copyOf_68 : decode cX6_copyOf 68 = .ok (.aaload, 1) := by decide +kernel
theorem dX6_copyOf_69 : decode cX6_copyOf 69 = .ok (.invokevirtual 84, 3) := by decide +kernel
theorem dX6_copyOf_72 : decode cX6_copyOf 72 = .ok (.iinc 2 1, 3) := by decide +kernel
theorem dX6_copyOf_75 : decode cX6_copyOf 75 = .ok (.goto (-26), 3) := by decide +kernel
theorem dX6_copyOf_78 : decode cX6_copyOf 78 = .ok (.aload_n 0, 1) := by decide +kernel
theorem dX6_copyOf_79 : decode cX6_copyOf 79 = .ok (.aload_n 1, 1) := by decide +kernel
theorem dX6_copyOf_80 : decode cX6_copyOf 80 = .ok (.getfield 53, 3) := by decide +kernel
theorem dX6_copyOf_83 : decode cX6_copyOf 83 = .ok (.putfield 53, 3) := by decide +kernel
theorem dX6_copyOf_86 : decode cX6_copyOf 86 = .ok (.iconst 0, 1) := by decide +kernel
theorem dX6_copyOf_87 : decode cX6_copyOf 87 = .ok (.istore_n 2, 1) := by decide +kernel
theorem dX6_copyOf_88 : decode cX6_copyOf 88 = .ok (.iload_n 2, 1) := by decide +kernel
theorem dX6_copyOf_89 : decode cX6_copyOf 89 = .ok (.aload_n 0, 1) := by decide +kernel
theorem dX6_copyOf_90 : decode cX6_copyOf 90 = .ok (.getfield 53, 3) := by decide +kernel
theorem dX6_copyOf_93 : decode cX6_copyOf 93 = .ok (.if_icmp .ge 24, 3) := by decide +kernel
theorem dX6_copyOf_96 : decode cX6_copyOf 96 = .ok (.aload_n 0, 1) := by decide +kernel
theorem dX6_copyOf_97 : decode cX6_copyOf 97 = .ok (.getfield 25, 3) := by decide +kernel
theorem dX6_copyOf_100 : decode cX6_copyOf 100 = .ok (.iload_n 2, 1) := by decide +kernel
theorem dX6_copyOf_101 : decode cX6_copyOf 101 = .ok (.aaload, 1) := by decide +kernel
theorem dX6_copyOf_102 : decode cX6_copyOf 102 = .ok (.aload_n 1, 1) := by decide +kernel
theorem dX6_copyOf_103 : decode cX6_copyOf 103 = .ok (.getfield 25, 3) := by decide +kernel
theorem dX6_copyOf_106 : decode cX6_copyOf 106 = .ok (.iload_n 2, 1) := by decide +kernel
theorem dX6_copyOf_107 : decode cX6_copyOf 107 = .ok (.aaload, 1) := by decide +kernel
theorem dX6_copyOf_108 : decode cX6_copyOf 108 = .ok (.invokevirtual 87, 3) := by decide +kernel
theorem dX6_copyOf_111 : decode cX6_copyOf 111 = .ok (.iinc 2 1, 3) := by decide +kernel
theorem dX6_copyOf_114 : decode cX6_copyOf 114 = .ok (.goto (-26), 3) := by decide +kernel
theorem dX6_copyOf_117 : decode cX6_copyOf 117 = .ok (.aload_n 0, 1) := by decide +kernel
theorem dX6_copyOf_118 : decode cX6_copyOf 118 = .ok (.aload_n 1, 1) := by decide +kernel
theorem dX6_copyOf_119 : decode cX6_copyOf 119 = .ok (.getfield 56, 3) := by decide +kernel
theorem dX6_copyOf_122 : decode cX6_copyOf 122 = .ok (.putfield 56, 3) := by decide +kernel
theorem dX6_copyOf_125 : decode cX6_copyOf 125 = .ok (.aload_n 0, 1) := by decide +kernel
theorem dX6_copyOf_126 : decode cX6_copyOf 126 = .ok (.aload_n 1, 1) := by decide +kernel
theorem dX6_copyOf_127 : decode cX6_copyOf 127 = .ok (.getfield 59, 3) := by decide +kernel
theorem dX6_copyOf_130 : decode cX6_copyOf 130 = .ok (.putfield 59, 3) := by decide +kernel
theorem dX6_copyOf_133 : decode cX6_copyOf 133 = .ok (.aload_n 0, 1) := by decide +kernel
theorem dX6_copyOf_134 : decode cX6_copyOf 134 = .ok (.aload_n 1, 1) := by decide +kernel
theorem dX6_copyOf_135 : decode cX6_copyOf 135 = .ok (.getfield 62, 3) := by decide +kernel
theorem dX6_copyOf_138 : decode cX6_copyOf 138 = .ok (.putfield 62, 3) := by decide +kernel
theorem dX6_copyOf_141 : decode cX6_copyOf 141 = .ok (.aload_n 0, 1) := by decide +kernel
theorem dX6_copyOf_142 : decode cX6_copyOf 142 = .ok (.aload_n 1, 1) := by decide +kernel
theorem dX6_copyOf_143 : decode cX6_copyOf 143 = .ok (.getfield 65, 3) := by decide +kernel
theorem dX6_copyOf_146 : decode cX6_copyOf 146 = .ok (.putfield 65, 3) := by decide +kernel
theorem dX6_copyOf_149 : decode cX6_copyOf 149 = .ok (.aload_n 0, 1) := by decide +kernel
theorem dX6_copyOf_150 : decode cX6_copyOf 150 = .ok (.aload_n 1, 1) := by decide +kernel
theorem dX6_copyOf_151 : decode cX6_copyOf 151 = .ok (.getfield 68, 3) := by decide +kernel
theorem dX6_copyOf_154 : decode cX6_copyOf 154 = .ok (.putfield 68, 3) := by decide +kernel
theorem dX6_copyOf_157 : decode cX6_copyOf 157 = .ok (.aload_n 0, 1) := by decide +kernel
theorem dX6_copyOf_158 : decode cX6_copyOf 158 = .ok (.aload_n 1, 1) := by decide +kernel
theorem dX6_copyOf_159 : decode cX6_copyOf 159 = .ok (.getfield 71, 3) := by decide +kernel
theorem dX6_copyOf_162 : decode cX6_copyOf 162 = .ok (.putfield 71, 3) := by decide +kernel
theorem dX6_copyOf_165 : decode cX6_copyOf 165 = .ok (.aload_n 0, 1) := by decide +kernel
theorem dX6_copyOf_166 : decode cX6_copyOf 166 = .ok (.aload_n 1, 1) := by decide +kernel
theorem dX6_copyOf_167 : decode cX6_copyOf 167 = .ok (.getfield 74, 3) := by decide +kernel
theorem dX6_copyOf_170 : decode cX6_copyOf 170 = .ok (.putfield 74, 3) := by decide +kernel
theorem dX6_copyOf_173 : decode cX6_copyOf 173 = .ok (.aload_n 0, 1) := by decide +kernel
theorem dX6_copyOf_174 : decode cX6_copyOf 174 = .ok (.getfield 32, 3) := by decide +kernel
theorem dX6_copyOf_177 : decode cX6_copyOf 177 = .ok (.aload_n 1, 1) := by decide +kernel
theorem dX6_copyOf_178 : decode cX6_copyOf 178 = .ok (.getfield 32, 3) := by decide +kernel
theorem dX6_copyOf_181 : decode cX6_copyOf 181 = .ok (.invokevirtual 90, 3) := by decide +kernel
theorem dX6_copyOf_184 : decode cX6_copyOf 184 = .ok (.return_, 1) := by decide +kernel
theorem dX6_hasHandler_0 : decode cX6_hasHandler 0 = .ok (.iload_n 1, 1) := by decide +kernel
theorem dX6_hasHandler_1 : decode cX6_hasHandler 1 = .ok (.ifCond .lt 15, 3) := by decide +kernel
theorem dX6_hasHandler_4 : decode cX6_hasHandler 4 = .ok (.iload_n 1, 1) := by decide +kernel
theorem dX6_hasHandler_5 : decode cX6_hasHandler 5 = .ok (.aload_n 0, 1) := by decide +kernel
theorem dX6_hasHandler_6 : decode cX6_hasHandler 6 = .ok (.getfield 46, 3) := by decide +kernel
theorem dX6_hasHandler_9 : decode cX6_hasHandler 9 = .ok (.if_icmp .ge 7, 3) := by decide +kernel
theorem dX6_hasHandler_12 : decode cX6_hasHandler 12 = .ok (.iconst 1, 1) := by decide +kernel
theorem dX6_hasHandler_13 : decode cX6_hasHandler 13 = .ok (.goto 4, 3) := by decide +kernel
theorem dX6_hasHandler_16 : decode cX6_hasHandler 16 = .ok (.iconst 0, 1) := by decide +kernel
theorem dX6_hasHandler_17 : decode cX6_hasHandler 17 = .ok (.ireturn, 1) := by decide +kernel
theorem dX6_hasLine_0 : decode cX6_hasLine 0 = .ok (.iload_n 1, 1) := by decide +kernel
theorem dX6_hasLine_1 : decode cX6_hasLine 1 = .ok (.ifCond .lt 15, 3) := by decide +kernel
theorem dX6_hasLine_4 : decode cX6_hasLine 4 = .ok (.iload_n 1, 1) := by decide +kernel
theorem dX6_hasLine_5 : decode cX6_hasLine 5 = .ok (.aload_n 0, 1) := by decide +kernel
theorem dX6_hasLine_6 : decode cX6_hasLine 6 = .ok (.getfield 50, 3) := by decide +kernel
theorem dX6_hasLine_9 : decode cX6_hasLine 9 = .ok (.if_icmp .ge 7, 3) := by decide +kernel
theorem dX6_hasLine_12 : decode cX6_hasLine 12 = .ok (.iconst 1, 1) := by decide +kernel
theorem dX6_hasLine_13 : decode cX6_hasLine 13 = .ok (.goto 4, 3) := by decide +kernel
theorem dX6_hasLine_16 : decode cX6_hasLine 16 = .ok (.iconst 0, 1) := by decide +kernel
theorem dX6_hasLine_17 : decode cX6_hasLine 17 = .ok (.ireturn, 1) := by decide +kernel
theorem dX6_hasRequest_0 : decode cX6_hasRequest 0 = .ok (.iload_n 1, 1) := by decide +kernel
theorem dX6_hasRequest_1 : decode cX6_hasRequest 1 = .ok (.ifCond .lt 15, 3) := by decide +kernel
theorem dX6_hasRequest_4 : decode cX6_hasRequest 4 = .ok (.iload_n 1, 1) := by decide +kernel
theorem dX6_hasRequest_5 : decode cX6_hasRequest 5 = .ok (.aload_n 0, 1) := by decide +kernel
theorem dX6_hasRequest_6 : decode cX6_hasRequest 6 = .ok (.getfield 53, 3) := by decide +kernel
theorem dX6_hasRequest_9 : decode cX6_hasRequest 9 = .ok (.if_icmp .ge 7, 3) := by decide +kernel
theorem dX6_hasRequest_12 : decode cX6_hasRequest 12 = .ok (.iconst 1, 1) := by decide +kernel
theorem dX6_hasRequest_13 : decode cX6_hasRequest 13 = .ok (.goto 4, 3) := by decide +kernel
theorem dX6_hasRequest_16 : decode cX6_hasRequest 16 = .ok (.iconst 0, 1) := by decide +kernel
theorem dX6_hasRequest_17 : decode cX6_hasRequest 17 = .ok (.ireturn, 1) := by decide +kernel
theorem dX6_addHandler_0 : decode cX6_addHandler 0 = .ok (.aload_n 0, 1) := by decide +kernel
theorem dX6_addHandler_1 : decode cX6_addHandler 1 = .ok (.getfield 46, 3) := by decide +kernel
theorem dX6_addHandler_4 : decode cX6_addHandler 4 = .ok (.aload_n 0, 1) := by decide +kernel
theorem dX6_addHandler_5 : decode cX6_addHandler 5 = .ok (.getfield 11, 3) := by decide +kernel
theorem dX6_addHandler_8 : decode cX6_addHandler 8 = .ok (.arraylength, 1) := by decide +kernel
theorem dX6_addHandler_9 : decode cX6_addHandler 9 = .ok (.if_icmp .ge 27, 3) := by decide +kernel
theorem dX6_addHandler_12 : decode cX6_addHandler 12 = .ok (.aload_n 0, 1) := by decide +kernel
theorem dX6_addHandler_13 : decode cX6_addHandler 13 = .ok (.getfield 11, 3) := by decide +kernel
theorem dX6_addHandler_16 : decode cX6_addHandler 16 = .ok (.aload_n 0, 1) := by decide +kernel
theorem dX6_addHandler_17 : decode cX6_addHandler 17 = .ok (.getfield 46, 3) := by decide +kernel
theorem dX6_addHandler_20 : decode cX6_addHandler 20 = .ok (.aaload, 1) := by decide +kernel
theorem dX6_addHandler_21 : decode cX6_addHandler 21 = .ok (.iload_n 1, 1) := by decide +kernel
theorem dX6_addHandler_22 : decode cX6_addHandler 22 = .ok (.iload_n 2, 1) := by decide +kernel
theorem dX6_addHandler_23 : decode cX6_addHandler 23 = .ok (.invokevirtual 93, 3) := by decide +kernel
theorem dX6_addHandler_26 : decode cX6_addHandler 26 = .ok (.aload_n 0, 1) := by decide +kernel
theorem dX6_addHandler_27 : decode cX6_addHandler 27 = .ok (.dup, 1) := by decide +kernel
theorem dX6_addHandler_28 : decode cX6_addHandler 28 = .ok (.getfield 46, 3) := by decide +kernel
theorem dX6_addHandler_31 : decode cX6_addHandler 31 = .ok (.iconst 1, 1) := by decide +kernel
theorem dX6_addHandler_32 : decode cX6_addHandler 32 = .ok (.iadd, 1) := by decide +kernel
theorem dX6_addHandler_33 : decode cX6_addHandler 33 = .ok (.putfield 46, 3) := by decide +kernel
theorem dX6_addHandler_36 : decode cX6_addHandler 36 = .ok (.return_, 1) := by decide +kernel
theorem dX6_addLine_0 : decode cX6_addLine 0 = .ok (.aload_n 0, 1) := by decide +kernel
theorem dX6_addLine_1 : decode cX6_addLine 1 = .ok (.getfield 50, 3) := by decide +kernel
theorem dX6_addLine_4 : decode cX6_addLine 4 = .ok (.aload_n 0, 1) := by decide +kernel
theorem dX6_addLine_5 : decode cX6_addLine 5 = .ok (.getfield 19, 3) := by decide +kernel
theorem dX6_addLine_8 : decode cX6_addLine 8 = .ok (.arraylength, 1) := by decide +kernel
theorem dX6_addLine_9 : decode cX6_addLine 9 = .ok (.if_icmp .ge 28, 3) := by decide +kernel
theorem dX6_addLine_12 : decode cX6_addLine 12 = .ok (.aload_n 0, 1) := by decide +kernel
theorem dX6_addLine_13 : decode cX6_addLine 13 = .ok (.getfield 19, 3) := by decide +kernel
theorem dX6_addLine_16 : decode cX6_addLine 16 = .ok (.aload_n 0, 1) := by decide +kernel
theorem dX6_addLine_17 : decode cX6_addLine 17 = .ok (.getfield 50, 3) := by decide +kernel
theorem dX6_addLine_20 : decode cX6_addLine 20 = .ok (.aaload, 1) := by decide +kernel
theorem dX6_addLine_21 : decode cX6_addLine 21 = .ok (.iload_n 1, 1) := by decide +kernel
theorem dX6_addLine_22 : decode cX6_addLine 22 = .ok (.iload_n 2, 1) := by decide +kernel
theorem dX6_addLine_23 : decode cX6_addLine 23 = .ok (.iload_n 3, 1) := by decide +kernel
theorem dX6_addLine_24 : decode cX6_addLine 24 = .ok (.invokevirtual 96, 3) := by decide +kernel
theorem dX6_addLine_27 : decode cX6_addLine 27 = .ok (.aload_n 0, 1) := by decide +kernel
theorem dX6_addLine_28 : decode cX6_addLine 28 = .ok (.dup, 1) := by decide +kernel
theorem dX6_addLine_29 : decode cX6_addLine 29 = .ok (.getfield 50, 3) := by decide +kernel
theorem dX6_addLine_32 : decode cX6_addLine 32 = .ok (.iconst 1, 1) := by decide +kernel
theorem dX6_addLine_33 : decode cX6_addLine 33 = .ok (.iadd, 1) := by decide +kernel
theorem dX6_addLine_34 : decode cX6_addLine 34 = .ok (.putfield 50, 3) := by decide +kernel
theorem dX6_addLine_37 : decode cX6_addLine 37 = .ok (.return_, 1) := by decide +kernel
theorem dX6_addRequest_0 : decode cX6_addRequest 0 = .ok (.aload_n 0, 1) := by decide +kernel
theorem dX6_addRequest_1 : decode cX6_addRequest 1 = .ok (.getfield 53, 3) := by decide +kernel
theorem dX6_addRequest_4 : decode cX6_addRequest 4 = .ok (.aload_n 0, 1) := by decide +kernel
theorem dX6_addRequest_5 : decode cX6_addRequest 5 = .ok (.getfield 25, 3) := by decide +kernel
theorem dX6_addRequest_8 : decode cX6_addRequest 8 = .ok (.arraylength, 1) := by decide +kernel
theorem dX6_addRequest_9 : decode cX6_addRequest 9 = .ok (.if_icmp .ge 28, 3) := by decide +kernel
theorem dX6_addRequest_12 : decode cX6_addRequest 12 = .ok (.aload_n 0, 1) := by decide +kernel
theorem dX6_addRequest_13 : decode cX6_addRequest 13 = .ok (.getfield 25, 3) := by decide +kernel
theorem dX6_addRequest_16 : decode cX6_addRequest 16 = .ok (.aload_n 0, 1) := by decide +kernel
theorem dX6_addRequest_17 : decode cX6_addRequest 17 = .ok (.getfield 53, 3) := by decide +kernel
theorem dX6_addRequest_20 : decode cX6_addRequest 20 = .ok (.aaload, 1) := by decide +kernel
theorem dX6_addRequest_21 : decode cX6_addRequest 21 = .ok (.iload_n 1, 1) := by decide +kernel
theorem dX6_addRequest_22 : decode cX6_addRequest 22 = .ok (.iload_n 2, 1) := by decide +kernel
theorem dX6_addRequest_23 : decode cX6_addRequest 23 = .ok (.iload_n 3, 1) := by decide +kernel
theorem dX6_addRequest_24 : decode cX6_addRequest 24 = .ok (.invokevirtual 99, 3) := by decide +kernel
theorem dX6_addRequest_27 : decode cX6_addRequest 27 = .ok (.aload_n 0, 1) := by decide +kernel
theorem dX6_addRequest_28 : decode cX6_addRequest 28 = .ok (.dup, 1) := by decide +kernel
theorem dX6_addRequest_29 : decode cX6_addRequest 29 = .ok (.getfield 53, 3) := by decide +kernel
theorem dX6_addRequest_32 : decode cX6_addRequest 32 = .ok (.iconst 1, 1) := by decide +kernel
theorem dX6_addRequest_33 : decode cX6_addRequest 33 = .ok (.iadd, 1) := by decide +kernel
theorem dX6_addRequest_34 : decode cX6_addRequest 34 = .ok (.putfield 53, 3) := by decide +kernel
theorem dX6_addRequest_37 : decode cX6_addRequest 37 = .ok (.return_, 1) := by decide +kernel
theorem dX6_requestsIn_0 : decode cX6_requestsIn 0 = .ok (.iconst 0, 1) := by decide +kernel
theorem dX6_requestsIn_1 : decode cX6_requestsIn 1 = .ok (.istore_n 2, 1) := by decide +kernel
theorem dX6_requestsIn_2 : decode cX6_requestsIn 2 = .ok (.iconst 0, 1) := by decide +kernel
theorem dX6_requestsIn_3 : decode cX6_requestsIn 3 = .ok (.istore_n 3, 1) := by decide +kernel
theorem dX6_requestsIn_4 : decode cX6_requestsIn 4 = .ok (.iload_n 3, 1) := by decide +kernel
theorem dX6_requestsIn_5 : decode cX6_requestsIn 5 = .ok (.aload_n 0, 1) := by decide +kernel
theorem dX6_requestsIn_6 : decode cX6_requestsIn 6 = .ok (.getfield 53, 3) := by decide +kernel
theorem dX6_requestsIn_9 : decode cX6_requestsIn 9 = .ok (.if_icmp .ge 25, 3) := by decide +kernel
theorem dX6_requestsIn_12 : decode cX6_requestsIn 12 = .ok (.aload_n 0, 1) := by decide +kernel
theorem dX6_requestsIn_13 : decode cX6_requestsIn 13 = .ok (.getfield 25, 3) := by decide +kernel
theorem dX6_requestsIn_16 : decode cX6_requestsIn 16 = .ok (.iload_n 3, 1) := by decide +kernel
theorem dX6_requestsIn_17 : decode cX6_requestsIn 17 = .ok (.aaload, 1) := by decide +kernel
theorem dX6_requestsIn_18 : decode cX6_requestsIn 18 = .ok (.getfield 100, 3) := by decide +kernel
theorem dX6_requestsIn_21 : decode cX6_requestsIn 21 = .ok (.iload_n 1, 1) := by decide +kernel
theorem dX6_requestsIn_22 : decode cX6_requestsIn 22 = .ok (.if_icmp .ne 6, 3) := by decide +kernel
theorem dX6_requestsIn_25 : decode cX6_requestsIn 25 = .ok (.iinc 2 1, 3) := by decide +kernel
theorem dX6_requestsIn_28 : decode cX6_requestsIn 28 = .ok (.iinc 3 1, 3) := by decide +kernel
theorem dX6_requestsIn_31 : decode cX6_requestsIn 31 = .ok (.goto (-27), 3) := by decide +kernel
theorem dX6_requestsIn_34 : decode cX6_requestsIn 34 = .ok (.iload_n 2, 1) := by decide +kernel
theorem dX6_requestsIn_35 : decode cX6_requestsIn 35 = .ok (.ireturn, 1) := by decide +kernel
theorem dX6_bankruptHandlers_0 : decode cX6_bankruptHandlers 0 = .ok (.iconst 0, 1) := by decide +kernel
theorem dX6_bankruptHandlers_1 : decode cX6_bankruptHandlers 1 = .ok (.istore_n 1, 1) := by decide +kernel
theorem dX6_bankruptHandlers_2 : decode cX6_bankruptHandlers 2 = .ok (.iconst 0, 1) := by decide +kernel
theorem dX6_bankruptHandlers_3 : decode cX6_bankruptHandlers 3 = .ok (.istore_n 2, 1) := by decide +kernel
theorem dX6_bankruptHandlers_4 : decode cX6_bankruptHandlers 4 = .ok (.iload_n 2, 1) := by decide +kernel
theorem dX6_bankruptHandlers_5 : decode cX6_bankruptHandlers 5 = .ok (.aload_n 0, 1) := by decide +kernel
theorem dX6_bankruptHandlers_6 : decode cX6_bankruptHandlers 6 = .ok (.getfield 46, 3) := by decide +kernel
theorem dX6_bankruptHandlers_9 : decode cX6_bankruptHandlers 9 = .ok (.if_icmp .ge 24, 3) := by decide +kernel
theorem dX6_bankruptHandlers_12 : decode cX6_bankruptHandlers 12 = .ok (.aload_n 0, 1) := by decide +kernel
theorem dX6_bankruptHandlers_13 : decode cX6_bankruptHandlers 13 = .ok (.getfield 11, 3) := by decide +kernel
theorem dX6_bankruptHandlers_16 : decode cX6_bankruptHandlers 16 = .ok (.iload_n 2, 1) := by decide +kernel
theorem dX6_bankruptHandlers_17 : decode cX6_bankruptHandlers 17 = .ok (.aaload, 1) := by decide +kernel
theorem dX6_bankruptHandlers_18 : decode cX6_bankruptHandlers 18 = .ok (.getfield 103, 3) := by decide +kernel
theorem dX6_bankruptHandlers_21 : decode cX6_bankruptHandlers 21 = .ok (.ifCond .eq 6, 3) := by decide +kernel
theorem dX6_bankruptHandlers_24 : decode cX6_bankruptHandlers 24 = .ok (.iinc 1 1, 3) := by decide +kernel
theorem dX6_bankruptHandlers_27 : decode cX6_bankruptHandlers 27 = .ok (.iinc 2 1, 3) := by decide +kernel
theorem dX6_bankruptHandlers_30 : decode cX6_bankruptHandlers 30 = .ok (.goto (-26), 3) := by decide +kernel
theorem dX6_bankruptHandlers_33 : decode cX6_bankruptHandlers 33 = .ok (.iload_n 1, 1) := by decide +kernel
theorem dX6_bankruptHandlers_34 : decode cX6_bankruptHandlers 34 = .ok (.ireturn, 1) := by decide +kernel
theorem dX6_allCoins_0 : decode cX6_allCoins 0 = .ok (.aload_n 0, 1) := by decide +kernel
theorem dX6_allCoins_1 : decode cX6_allCoins 1 = .ok (.getfield 59, 3) := by decide +kernel
theorem dX6_allCoins_4 : decode cX6_allCoins 4 = .ok (.istore_n 1, 1) := by decide +kernel
theorem dX6_allCoins_5 : decode cX6_allCoins 5 = .ok (.iconst 0, 1) := by decide +kernel
theorem dX6_allCoins_6 : decode cX6_allCoins 6 = .ok (.istore_n 2, 1) := by decide +kernel
theorem dX6_allCoins_7 : decode cX6_allCoins 7 = .ok (.iload_n 2, 1) := by decide +kernel
theorem dX6_allCoins_8 : decode cX6_allCoins 8 = .ok (.aload_n 0, 1) := by decide +kernel
theorem dX6_allCoins_9 : decode cX6_allCoins 9 = .ok (.getfield 46, 3) := by decide +kernel
theorem dX6_allCoins_12 : decode cX6_allCoins 12 = .ok (.if_icmp .ge 21, 3) := by decide +kernel
theorem dX6_allCoins_15 : decode cX6_allCoins 15 = .ok (.iload_n 1, 1) := by decide +kernel
theorem dX6_allCoins_16 : decode cX6_allCoins 16 = .ok (.aload_n 0, 1) := by decide +kernel
theorem dX6_allCoins_17 : decode cX6_allCoins 17 = .ok (.getfield 11, 3) := by decide +kernel
theorem dX6_allCoins_20 : decode cX6_allCoins 20 = .ok (.iload_n 2, 1) := by decide +kernel
theorem dX6_allCoins_21 : decode cX6_allCoins 21 = .ok (.aaload, 1) := by decide +kernel
theorem dX6_allCoins_22 : decode cX6_allCoins 22 = .ok (.getfield 107, 3) := by decide +kernel
theorem dX6_allCoins_25 : decode cX6_allCoins 25 = .ok (.iadd, 1) := by decide +kernel
theorem dX6_allCoins_26 : decode cX6_allCoins 26 = .ok (.istore_n 1, 1) := by decide +kernel
theorem dX6_allCoins_27 : decode cX6_allCoins 27 = .ok (.iinc 2 1, 3) := by decide +kernel
theorem dX6_allCoins_30 : decode cX6_allCoins 30 = .ok (.goto (-23), 3) := by decide +kernel
theorem dX6_allCoins_33 : decode cX6_allCoins 33 = .ok (.iconst 0, 1) := by decide +kernel
theorem dX6_allCoins_34 : decode cX6_allCoins 34 = .ok (.istore_n 2, 1) := by decide +kernel
theorem dX6_allCoins_35 : decode cX6_allCoins 35 = .ok (.iload_n 2, 1) := by decide +kernel
theorem dX6_allCoins_36 : decode cX6_allCoins 36 = .ok (.aload_n 0, 1) := by decide +kernel
theorem dX6_allCoins_37 : decode cX6_allCoins 37 = .ok (.getfield 50, 3) := by decide +kernel
theorem dX6_allCoins_40 : decode cX6_allCoins 40 = .ok (.if_icmp .ge 21, 3) := by decide +kernel
theorem dX6_allCoins_43 : decode cX6_allCoins 43 = .ok (.iload_n 1, 1) := by decide +kernel
theorem dX6_allCoins_44 : decode cX6_allCoins 44 = .ok (.aload_n 0, 1) := by decide +kernel
theorem dX6_allCoins_45 : decode cX6_allCoins 45 = .ok (.getfield 19, 3) := by decide +kernel
theorem dX6_allCoins_48 : decode cX6_allCoins 48 = .ok (.iload_n 2, 1) := by decide +kernel
theorem dX6_allCoins_49 : decode cX6_allCoins 49 = .ok (.aaload, 1) := by decide +kernel
theorem dX6_allCoins_50 : decode cX6_allCoins 50 = .ok (.getfield 110, 3) := by decide +kernel
theorem dX6_allCoins_53 : decode cX6_allCoins 53 = .ok (.iadd, 1) := by decide +kernel
theorem dX6_allCoins_54 : decode cX6_allCoins 54 = .ok (.istore_n 1, 1) := by decide +kernel
theorem dX6_allCoins_55 : decode cX6_allCoins 55 = .ok (.iinc 2 1, 3) := by decide +kernel
theorem dX6_allCoins_58 : decode cX6_allCoins 58 = .ok (.goto (-23), 3) := by decide +kernel
theorem dX6_allCoins_61 : decode cX6_allCoins 61 = .ok (.iload_n 1, 1) := by decide +kernel
theorem dX6_allCoins_62 : decode cX6_allCoins 62 = .ok (.ireturn, 1) := by decide +kernel
theorem dX6_allFines_0 : decode cX6_allFines 0 = .ok (.iconst 0, 1) := by decide +kernel
theorem dX6_allFines_1 : decode cX6_allFines 1 = .ok (.istore_n 1, 1) := by decide +kernel
theorem dX6_allFines_2 : decode cX6_allFines 2 = .ok (.iconst 0, 1) := by decide +kernel
theorem dX6_allFines_3 : decode cX6_allFines 3 = .ok (.istore_n 2, 1) := by decide +kernel
theorem dX6_allFines_4 : decode cX6_allFines 4 = .ok (.iload_n 2, 1) := by decide +kernel
theorem dX6_allFines_5 : decode cX6_allFines 5 = .ok (.aload_n 0, 1) := by decide +kernel
theorem dX6_allFines_6 : decode cX6_allFines 6 = .ok (.getfield 46, 3) := by decide +kernel
theorem dX6_allFines_9 : decode cX6_allFines 9 = .ok (.if_icmp .ge 21, 3) := by decide +kernel
theorem dX6_allFines_12 : decode cX6_allFines 12 = .ok (.iload_n 1, 1) := by decide +kernel
theorem dX6_allFines_13 : decode cX6_allFines 13 = .ok (.aload_n 0, 1) := by decide +kernel
theorem dX6_allFines_14 : decode cX6_allFines 14 = .ok (.getfield 11, 3) := by decide +kernel
theorem dX6_allFines_17 : decode cX6_allFines 17 = .ok (.iload_n 2, 1) := by decide +kernel
theorem dX6_allFines_18 : decode cX6_allFines 18 = .ok (.aaload, 1) := by decide +kernel
theorem dX6_allFines_19 : decode cX6_allFines 19 = .ok (.getfield 111, 3) := by decide +kernel
theorem dX6_allFines_22 : decode cX6_allFines 22 = .ok (.iadd, 1) := by decide +kernel
theorem dX6_allFines_23 : decode cX6_allFines 23 = .ok (.istore_n 1, 1) := by decide +kernel
theorem dX6_allFines_24 : decode cX6_allFines 24 = .ok (.iinc 2 1, 3) := by decide +kernel
theorem dX6_allFines_27 : decode cX6_allFines 27 = .ok (.goto (-23), 3) := by decide +kernel
theorem dX6_allFines_30 : decode cX6_allFines 30 = .ok (.iload_n 1, 1) := by decide +kernel
theorem dX6_allFines_31 : decode cX6_allFines 31 = .ok (.ireturn, 1) := by decide +kernel
theorem dX6_linesOf_0 : decode cX6_linesOf 0 = .ok (.iconst 0, 1) := by decide +kernel
theorem dX6_linesOf_1 : decode cX6_linesOf 1 = .ok (.istore_n 2, 1) := by decide +kernel
theorem dX6_linesOf_2 : decode cX6_linesOf 2 = .ok (.iconst 0, 1) := by decide +kernel
theorem dX6_linesOf_3 : decode cX6_linesOf 3 = .ok (.istore_n 3, 1) := by decide +kernel
theorem dX6_linesOf_4 : decode cX6_linesOf 4 = .ok (.iload_n 3, 1) := by decide +kernel
theorem dX6_linesOf_5 : decode cX6_linesOf 5 = .ok (.aload_n 0, 1) := by decide +kernel
theorem dX6_linesOf_6 : decode cX6_linesOf 6 = .ok (.getfield 50, 3) := by decide +kernel
theorem dX6_linesOf_9 : decode cX6_linesOf 9 = .ok (.if_icmp .ge 25, 3) := by decide +kernel
theorem dX6_linesOf_12 : decode cX6_linesOf 12 = .ok (.aload_n 0, 1) := by decide +kernel
theorem dX6_linesOf_13 : decode cX6_linesOf 13 = .ok (.getfield 19, 3) := by decide +kernel
theorem dX6_linesOf_16 : decode cX6_linesOf 16 = .ok (.iload_n 3, 1) := by decide +kernel
theorem dX6_linesOf_17 : decode cX6_linesOf 17 = .ok (.aaload, 1) := by decide +kernel
theorem dX6_linesOf_18 : decode cX6_linesOf 18 = .ok (.iload_n 1, 1) := by decide +kernel
theorem dX6_linesOf_19 : decode cX6_linesOf 19 = .ok (.invokevirtual 114, 3) := by decide +kernel
theorem dX6_linesOf_22 : decode cX6_linesOf 22 = .ok (.ifCond .lt 6, 3) := by decide +kernel
theorem dX6_linesOf_25 : decode cX6_linesOf 25 = .ok (.iinc 2 1, 3) := by decide +kernel
theorem dX6_linesOf_28 : decode cX6_linesOf 28 = .ok (.iinc 3 1, 3) := by decide +kernel
theorem dX6_linesOf_31 : decode cX6_linesOf 31 = .ok (.goto (-27), 3) := by decide +kernel
theorem dX6_linesOf_34 : decode cX6_linesOf 34 = .ok (.iload_n 2, 1) := by decide +kernel
theorem dX6_linesOf_35 : decode cX6_linesOf 35 = .ok (.ireturn, 1) := by decide +kernel
theorem dX6_openOf_0 : decode cX6_openOf 0 = .ok (.iconst 0, 1) := by decide +kernel
theorem dX6_openOf_1 : decode cX6_openOf 1 = .ok (.istore_n 3, 1) := by decide +kernel
theorem dX6_openOf_2 : decode cX6_openOf 2 = .ok (.iconst 0, 1) := by decide +kernel
theorem dX6_openOf_3 : decode cX6_openOf 3 = .ok (.istore 4, 2) := by decide +kernel
theorem dX6_openOf_5 : decode cX6_openOf 5 = .ok (.iload 4, 2) := by decide +kernel
theorem dX6_openOf_7 : decode cX6_openOf 7 = .ok (.aload_n 0, 1) := by decide +kernel
theorem dX6_openOf_8 : decode cX6_openOf 8 = .ok (.getfield 53, 3) := by decide +kernel
theorem dX6_openOf_11 : decode cX6_openOf 11 = .ok (.if_icmp .ge 48, 3) := by decide +kernel
theorem dX6_openOf_14 : decode cX6_openOf 14 = .ok (.aload_n 0, 1) := by decide +kernel
theorem dX6_openOf_15 : decode cX6_openOf 15 = .ok (.getfield 25, 3) := by decide +kernel
theorem dX6_openOf_18 : decode cX6_openOf 18 = .ok (.iload 4, 2) := by decide +kernel
theorem dX6_openOf_20 : decode cX6_openOf 20 = .ok (.aaload, 1) := by decide +kernel
theorem dX6_openOf_21 : decode cX6_openOf 21 = .ok (.astore 5, 2) := by decide +kernel
theorem dX6_openOf_23 : decode cX6_openOf 23 = .ok (.aload 5, 2) := by decide +kernel
theorem dX6_openOf_25 : decode cX6_openOf 25 = .ok (.getfield 100, 3) := by decide +kernel
theorem dX6_openOf_28 : decode cX6_openOf 28 = .ok (.iconst 1, 1) := by decide +kernel
theorem dX6_openOf_29 : decode cX6_openOf 29 = .ok (.if_icmp .ne 24, 3) := by decide +kernel
theorem dX6_openOf_32 : decode cX6_openOf 32 = .ok (.aload 5, 2) := by decide +kernel
theorem dX6_openOf_34 : decode cX6_openOf 34 = .ok (.getfield 118, 3) := by decide +kernel
theorem dX6_openOf_37 : decode cX6_openOf 37 = .ok (.iload_n 1, 1) := by decide +kernel
theorem dX6_openOf_38 : decode cX6_openOf 38 = .ok (.if_icmp .ne 15, 3) := by decide +kernel
theorem dX6_openOf_41 : decode cX6_openOf 41 = .ok (.aload 5, 2) := by decide +kernel
theorem dX6_openOf_43 : decode cX6_openOf 43 = .ok (.getfield 121, 3) := by decide +kernel
theorem dX6_openOf_46 : decode cX6_openOf 46 = .ok (.iload_n 2, 1) := by decide +kernel
theorem dX6_openOf_47 : decode cX6_openOf 47 = .ok (.if_icmp .ne 6, 3) := by decide +kernel
theorem dX6_openOf_50 : decode cX6_openOf 50 = .ok (.iinc 3 1, 3) := by decide +kernel
theorem dX6_openOf_53 : decode cX6_openOf 53 = .ok (.iinc 4 1, 3) := by decide +kernel
theorem dX6_openOf_56 : decode cX6_openOf 56 = .ok (.goto (-51), 3) := by decide +kernel
theorem dX6_openOf_59 : decode cX6_openOf 59 = .ok (.iload_n 3, 1) := by decide +kernel
theorem dX6_openOf_60 : decode cX6_openOf 60 = .ok (.ireturn, 1) := by decide +kernel
theorem dX6_raisedInWindow_0 : decode cX6_raisedInWindow 0 = .ok (.iconst 0, 1) := by decide +kernel
theorem dX6_raisedInWindow_1 : decode cX6_raisedInWindow 1 = .ok (.istore_n 2, 1) := by decide +kernel
theorem dX6_raisedInWindow_2 : decode cX6_raisedInWindow 2 = .ok (.iconst 0, 1) := by decide +kernel
theorem dX6_raisedInWindow_3 : decode cX6_raisedInWindow 3 = .ok (.istore_n 3, 1) := by decide +kernel
theorem dX6_raisedInWindow_4 : decode cX6_raisedInWindow 4 = .ok (.iload_n 3, 1) := by decide +kernel
theorem dX6_raisedInWindow_5 : decode cX6_raisedInWindow 5 = .ok (.aload_n 0, 1) := by decide +kernel
theorem dX6_raisedInWindow_6 : decode cX6_raisedInWindow 6 = .ok (.getfield 53, 3) := by decide +kernel
theorem dX6_raisedInWindow_9 : decode cX6_raisedInWindow 9 = .ok (.if_icmp .ge 54, 3) := by decide +kernel
theorem dX6_raisedInWindow_12 : decode cX6_raisedInWindow 12 = .ok (.aload_n 0, 1) := by decide +kernel
theorem dX6_raisedInWindow_13 : decode cX6_raisedInWindow 13 = .ok (.getfield 25, 3) := by decide +kernel
theorem dX6_raisedInWindow_16 : decode cX6_raisedInWindow 16 = .ok (.iload_n 3, 1) := by decide +kernel
theorem dX6_raisedInWindow_17 : decode cX6_raisedInWindow 17 = .ok (.aaload, 1) := by decide +kernel
theorem dX6_raisedInWindow_18 : decode cX6_raisedInWindow 18 = .ok (.astore 4, 2) := by decide +kernel
theorem dX6_raisedInWindow_20 : decode cX6_raisedInWindow 20 = .ok (.aload 4, 2) := by decide +kernel
theorem dX6_raisedInWindow_22 : decode cX6_raisedInWindow 22 = .ok (.getfield 118, 3) := by decide +kernel
theorem dX6_raisedInWindow_25 : decode cX6_raisedInWindow 25 = .ok (.iload_n 1, 1) := by decide +kernel
theorem dX6_raisedInWindow_26 : decode cX6_raisedInWindow 26 = .ok (.if_icmp .ne 31, 3) := by decide +kernel
theorem dX6_raisedInWindow_29 : decode cX6_raisedInWindow 29 = .ok (.aload 4, 2) := by decide +kernel
theorem dX6_raisedInWindow_31 : decode cX6_raisedInWindow 31 = .ok (.getfield 100, 3) := by decide +kernel
theorem dX6_raisedInWindow_34 : decode cX6_raisedInWindow 34 = .ok (.ifCond .eq 23, 3) := by decide +kernel
theorem dX6_raisedInWindow_37 : decode cX6_raisedInWindow 37 = .ok (.aload 4, 2) := by decide +kernel
theorem dX6_raisedInWindow_39 : decode cX6_raisedInWindow 39 = .ok (.getfield 124, 3) := by decide +kernel
theorem dX6_raisedInWindow_42 : decode cX6_raisedInWindow 42 = .ok (.aload_n 0, 1) := by decide +kernel
theorem dX6_raisedInWindow_43 : decode cX6_raisedInWindow 43 = .ok (.getfield 56, 3) := by decide +kernel
theorem dX6_raisedInWindow_46 : decode cX6_raisedInWindow 46 = .ok (.aload_n 0, 1) := by decide +kernel
theorem dX6_raisedInWindow_47 : decode cX6_raisedInWindow 47 = .ok (.getfield 65, 3) := by decide +kernel
theorem dX6_raisedInWindow_50 : decode cX6_raisedInWindow 50 = .ok (.isub, 1) := by decide +kernel
theorem dX6_raisedInWindow_51 : decode cX6_raisedInWindow 51 = .ok (.if_icmp .le 6, 3) := by decide +kernel
theorem dX6_raisedInWindow_54 : decode cX6_raisedInWindow 54 = .ok (.iinc 2 1, 3) := by decide +kernel
theorem dX6_raisedInWindow_57 : decode cX6_raisedInWindow 57 = .ok (.iinc 3 1, 3) := by decide +kernel
theorem dX6_raisedInWindow_60 : decode cX6_raisedInWindow 60 = .ok (.goto (-56), 3) := by decide +kernel
theorem dX6_raisedInWindow_63 : decode cX6_raisedInWindow 63 = .ok (.iload_n 2, 1) := by decide +kernel
theorem dX6_raisedInWindow_64 : decode cX6_raisedInWindow 64 = .ok (.ireturn, 1) := by decide +kernel
theorem dX6_openOrRefuse_0 : decode cX6_openOrRefuse 0 = .ok (.aload_n 0, 1) := by decide +kernel
theorem dX6_openOrRefuse_1 : decode cX6_openOrRefuse 1 = .ok (.aload_n 1, 1) := by decide +kernel
theorem dX6_openOrRefuse_2 : decode cX6_openOrRefuse 2 = .ok (.getfield 118, 3) := by decide +kernel
theorem dX6_openOrRefuse_5 : decode cX6_openOrRefuse 5 = .ok (.invokevirtual 125, 3) := by decide +kernel
theorem dX6_openOrRefuse_8 : decode cX6_openOrRefuse 8 = .ok (.ifCond .ne 4, 3) := by decide +kernel
theorem dX6_openOrRefuse_11 : decode cX6_openOrRefuse 11 = .ok (.return_, 1) := by decide +kernel
theorem dX6_openOrRefuse_12 : decode cX6_openOrRefuse 12 = .ok (.aload_n 0, 1) := by decide +kernel
theorem dX6_openOrRefuse_13 : decode cX6_openOrRefuse 13 = .ok (.getfield 19, 3) := by decide +kernel
theorem dX6_openOrRefuse_16 : decode cX6_openOrRefuse 16 = .ok (.aload_n 1, 1) := by decide +kernel
theorem dX6_openOrRefuse_17 : decode cX6_openOrRefuse 17 = .ok (.getfield 118, 3) := by decide +kernel
theorem dX6_openOrRefuse_20 : decode cX6_openOrRefuse 20 = .ok (.aaload, 1) := by decide +kernel
theorem dX6_openOrRefuse_21 : decode cX6_openOrRefuse 21 = .ok (.astore_n 2, 1) := by decide +kernel
theorem dX6_openOrRefuse_22 : decode cX6_openOrRefuse 22 = .ok (.aload_n 0, 1) := by decide +kernel
theorem dX6_openOrRefuse_23 : decode cX6_openOrRefuse 23 = .ok (.aload_n 1, 1) := by decide +kernel
theorem dX6_openOrRefuse_24 : decode cX6_openOrRefuse 24 = .ok (.getfield 118, 3) := by decide +kernel
theorem dX6_openOrRefuse_27 : decode cX6_openOrRefuse 27 = .ok (.invokevirtual 129, 3) := by decide +kernel
theorem dX6_openOrRefuse_30 : decode cX6_openOrRefuse 30 = .ok (.iconst 1, 1) := by decide +kernel
theorem dX6_openOrRefuse_31 : decode cX6_openOrRefuse 31 = .ok (.iadd, 1) := by decide +kernel
theorem dX6_openOrRefuse_32 : decode cX6_openOrRefuse 32 = .ok (.aload_n 2, 1) := by decide +kernel
theorem dX6_openOrRefuse_33 : decode cX6_openOrRefuse 33 = .ok (.getfield 132, 3) := by decide +kernel
theorem dX6_openOrRefuse_36 : decode cX6_openOrRefuse 36 = .ok (.if_icmp .le 36, 3) := by decide +kernel
theorem dX6_openOrRefuse_39 : decode cX6_openOrRefuse 39 = .ok (.aload_n 1, 1) := by decide +kernel
theorem dX6_openOrRefuse_40 : decode cX6_openOrRefuse 40 = .ok (.iconst 3, 1) := by decide +kernel
theorem dX6_openOrRefuse_41 : decode cX6_openOrRefuse 41 = .ok (.putfield 100, 3) := by decide +kernel
theorem dX6_openOrRefuse_44 : decode cX6_openOrRefuse 44 = .ok (.aload_n 1, 1) := by decide +kernel
theorem dX6_openOrRefuse_45 : decode cX6_openOrRefuse 45 = .ok (.aload_n 0, 1) := by decide +kernel
theorem dX6_openOrRefuse_46 : decode cX6_openOrRefuse 46 = .ok (.getfield 56, 3) := by decide +kernel
theorem dX6_openOrRefuse_49 : decode cX6_openOrRefuse 49 = .ok (.putfield 135, 3) := by decide +kernel
theorem dX6_openOrRefuse_52 : decode cX6_openOrRefuse 52 = .ok (.aload_n 0, 1) := by decide +kernel
theorem dX6_openOrRefuse_53 : decode cX6_openOrRefuse 53 = .ok (.dup, 1) := by decide +kernel
theorem dX6_openOrRefuse_54 : decode cX6_openOrRefuse 54 = .ok (.getfield 59, 3) := by decide +kernel
theorem dX6_openOrRefuse_57 : decode cX6_openOrRefuse 57 = .ok (.aload_n 2, 1) := by decide +kernel
theorem dX6_openOrRefuse_58 : decode cX6_openOrRefuse 58 = .ok (.aload_n 0, 1) := by decide +kernel
theorem dX6_openOrRefuse_59 : decode cX6_openOrRefuse 59 = .ok (.getfield 68, 3) := by decide +kernel
theorem dX6_openOrRefuse_62 : decode cX6_openOrRefuse 62 = .ok (.invokevirtual 138, 3) := by decide +kernel
theorem dX6_openOrRefuse_65 : decode cX6_openOrRefuse 65 = .ok (.iadd, 1) := by decide +kernel
theorem dX6_openOrRefuse_66 : decode cX6_openOrRefuse 66 = .ok (.putfield 59, 3) := by decide +kernel
theorem dX6_openOrRefuse_69 : decode cX6_openOrRefuse 69 = .ok (.goto 21, 3) := by decide +kernel
theorem dX6_openOrRefuse_72 : decode cX6_openOrRefuse 72 = .ok (.aload_n 1, 1) := by decide +kernel
theorem dX6_openOrRefuse_73 : decode cX6_openOrRefuse 73 = .ok (.iconst 1, 1) := by decide +kernel
theorem dX6_openOrRefuse_74 : decode cX6_openOrRefuse 74 = .ok (.putfield 100, 3) := by decide +kernel
theorem dX6_openOrRefuse_77 : decode cX6_openOrRefuse 77 = .ok (.aload_n 1, 1) := by decide +kernel
theorem dX6_openOrRefuse_78 : decode cX6_openOrRefuse 78 = .ok (.aload_n 1, 1) := by decide +kernel
theorem dX6_openOrRefuse_79 : decode cX6_openOrRefuse 79 = .ok (.getfield 141, 3) := by decide +kernel
theorem dX6_openOrRefuse_82 : decode cX6_openOrRefuse 82 = .ok (.putfield 144, 3) := by decide +kernel
theorem dX6_openOrRefuse_85 : decode cX6_openOrRefuse 85 = .ok (.aload_n 0, 1) := by decide +kernel
theorem dX6_openOrRefuse_86 : decode cX6_openOrRefuse 86 = .ok (.aload_n 1, 1) := by decide +kernel
theorem dX6_openOrRefuse_87 : decode cX6_openOrRefuse 87 = .ok (.invokevirtual 147, 3) := by decide +kernel
theorem dX6_openOrRefuse_90 : decode cX6_openOrRefuse 90 = .ok (.return_, 1) := by decide +kernel
theorem dX6_assign_0 : decode cX6_assign 0 = .ok (.aload_n 0, 1) := by decide +kernel
theorem dX6_assign_1 : decode cX6_assign 1 = .ok (.aload_n 1, 1) := by decide +kernel
theorem dX6_assign_2 : decode cX6_assign 2 = .ok (.getfield 118, 3) := by decide +kernel
theorem dX6_assign_5 : decode cX6_assign 5 = .ok (.invokevirtual 125, 3) := by decide +kernel
theorem dX6_assign_8 : decode cX6_assign 8 = .ok (.ifCond .ne 4, 3) := by decide +kernel
theorem dX6_assign_11 : decode cX6_assign 11 = .ok (.return_, 1) := by decide +kernel
theorem dX6_assign_12 : decode cX6_assign 12 = .ok (.aload_n 0, 1) := by decide +kernel
theorem dX6_assign_13 : decode cX6_assign 13 = .ok (.getfield 19, 3) := by decide +kernel
theorem dX6_assign_16 : decode cX6_assign 16 = .ok (.aload_n 1, 1) := by decide +kernel
theorem dX6_assign_17 : decode cX6_assign 17 = .ok (.getfield 118, 3) := by decide +kernel
theorem dX6_assign_20 : decode cX6_assign 20 = .ok (.aaload, 1) := by decide +kernel
theorem dX6_assign_21 : decode cX6_assign 21 = .ok (.astore_n 2, 1) := by decide +kernel
theorem dX6_assign_22 : decode cX6_assign 22 = .ok (.iconst (-1), 1) := by decide +kernel
theorem dX6_assign_23 : decode cX6_assign 23 = .ok (.istore_n 3, 1) := by decide +kernel
theorem dX6_assign_24 : decode cX6_assign 24 = .ok (.iconst 0, 1) := by decide +kernel
theorem dX6_assign_25 : decode cX6_assign 25 = .ok (.istore 4, 2) := by decide +kernel
theorem dX6_assign_27 : decode cX6_assign 27 = .ok (.iload 4, 2) := by decide +kernel
theorem dX6_assign_29 : decode cX6_assign 29 = .ok (.aload_n 2, 1) := by decide +kernel
theorem dX6_assign_30 : decode cX6_assign 30 = .ok (.getfield 150, 3) := by decide +kernel
theorem dX6_assign_33 : decode cX6_assign 33 = .ok (.if_icmp .ge 56, 3) := by decide +kernel
theorem dX6_assign_36 : decode cX6_assign 36 = .ok (.aload_n 2, 1) := by decide +kernel
theorem dX6_assign_37 : decode cX6_assign 37 = .ok (.getfield 153, 3) := by decide +kernel
theorem dX6_assign_40 : decode cX6_assign 40 = .ok (.iload 4, 2) := by decide +kernel
theorem dX6_assign_42 : decode cX6_assign 42 = .ok (.iaload, 1) := by decide +kernel
theorem dX6_assign_43 : decode cX6_assign 43 = .ok (.istore 5, 2) := by decide +kernel
theorem dX6_assign_45 : decode cX6_assign 45 = .ok (.aload_n 0, 1) := by decide +kernel
theorem dX6_assign_46 : decode cX6_assign 46 = .ok (.iload 5, 2) := by decide +kernel
theorem dX6_assign_48 : decode cX6_assign 48 = .ok (.invokevirtual 156, 3) := by decide +kernel
theorem dX6_assign_51 : decode cX6_assign 51 = .ok (.ifCond .eq 32, 3) := by decide +kernel
theorem dX6_assign_54 : decode cX6_assign 54 = .ok (.iload_n 3, 1) := by decide +kernel
theorem dX6_assign_55 : decode cX6_assign 55 = .ok (.ifCond .lt 25, 3) := by decide +kernel
theorem dX6_assign_58 : decode cX6_assign 58 = .ok (.aload_n 0, 1) := by decide +kernel
theorem dX6_assign_59 : decode cX6_assign 59 = .ok (.getfield 11, 3) := by decide +kernel
theorem dX6_assign_62 : decode cX6_assign 62 = .ok (.iload 5, 2) := by decide +kernel
theorem dX6_assign_64 : decode cX6_assign 64 = .ok (.aaload, 1) := by decide +kernel
theorem dX6_assign_65 : decode cX6_assign 65 = .ok (.getfield 159, 3) := by decide +kernel
theorem dX6_assign_68 : decode cX6_assign 68 = .ok (.aload_n 0, 1) := by decide +kernel
theorem dX6_assign_69 : decode cX6_assign 69 = .ok (.getfield 11, 3) := by decide +kernel
theorem dX6_assign_72 : decode cX6_assign 72 = .ok (.iload_n 3, 1) := by decide +kernel
theorem dX6_assign_73 : decode cX6_assign 73 = .ok (.aaload, 1) := by decide +kernel
theorem dX6_assign_74 : decode cX6_assign 74 = .ok (.getfield 159, 3) := by decide +kernel
theorem dX6_assign_77 : decode cX6_assign 77 = .ok (.if_icmp .ge 6, 3) := by decide +kernel
theorem dX6_assign_80 : decode cX6_assign 80 = .ok (.iload 5, 2) := by decide +kernel
theorem dX6_assign_82 : decode cX6_assign 82 = .ok (.istore_n 3, 1) := by decide +kernel
theorem dX6_assign_83 : decode cX6_assign 83 = .ok (.iinc 4 1, 3) := by decide +kernel
theorem dX6_assign_86 : decode cX6_assign 86 = .ok (.goto (-59), 3) := by decide +kernel
theorem dX6_assign_89 : decode cX6_assign 89 = .ok (.aload_n 0, 1) := by decide +kernel
theorem dX6_assign_90 : decode cX6_assign 90 = .ok (.aload_n 1, 1) := by decide +kernel
theorem dX6_assign_91 : decode cX6_assign 91 = .ok (.getfield 121, 3) := by decide +kernel
theorem dX6_assign_94 : decode cX6_assign 94 = .ok (.invokevirtual 156, 3) := by decide +kernel
theorem dX6_assign_97 : decode cX6_assign 97 = .ok (.ifCond .eq 21, 3) := by decide +kernel
theorem dX6_assign_100 : decode cX6_assign 100 = .ok (.aload_n 0, 1) := by decide +kernel
theorem dX6_assign_101 : decode cX6_assign 101 = .ok (.getfield 11, 3) := by decide +kernel
theorem dX6_assign_104 : decode cX6_assign 104 = .ok (.aload_n 1, 1) := by decide +kernel
theorem dX6_assign_105 : decode cX6_assign 105 = .ok (.getfield 121, 3) := by decide +kernel
theorem dX6_assign_108 : decode cX6_assign 108 = .ok (.aaload, 1) := by decide +kernel
theorem dX6_assign_109 : decode cX6_assign 109 = .ok (.dup, 1) := by decide +kernel
theorem dX6_assign_110 : decode cX6_assign 110 = .ok (.getfield 159, 3) := by decide +kernel
theorem dX6_assign_113 : decode cX6_assign 113 = .ok (.iconst 1, 1) := by decide +kernel
theorem dX6_assign_114 : decode cX6_assign 114 = .ok (.isub, 1) := by decide +kernel
theorem dX6_assign_115 : decode cX6_assign 115 = .ok (.putfield 159, 3) := by decide +kernel
theorem dX6_assign_118 : decode cX6_assign 118 = .ok (.iload_n 3, 1) := by decide +kernel
theorem dX6_assign_119 : decode cX6_assign 119 = .ok (.ifCond .lt 18, 3) := by decide +kernel
theorem dX6_assign_122 : decode cX6_assign 122 = .ok (.aload_n 0, 1) := by decide +kernel
theorem dX6_assign_123 : decode cX6_assign 123 = .ok (.getfield 11, 3) := by decide +kernel
theorem dX6_assign_126 : decode cX6_assign 126 = .ok (.iload_n 3, 1) := by decide +kernel
theorem dX6_assign_127 : decode cX6_assign 127 = .ok (.aaload, 1) := by decide +kernel
theorem dX6_assign_128 : decode cX6_assign 128 = .ok (.dup, 1) := by decide +kernel
theorem dX6_assign_129 : decode cX6_assign 129 = .ok (.getfield 159, 3) := by decide +kernel
theorem dX6_assign_132 : decode cX6_assign 132 = .ok (.iconst 1, 1) := by decide +kernel
theorem dX6_assign_133 : decode cX6_assign 133 = .ok (.iadd, 1) := by decide +kernel
theorem dX6_assign_134 : decode cX6_assign 134 = .ok (.putfield 159, 3) := by decide +kernel
theorem dX6_assign_137 : decode cX6_assign 137 = .ok (.aload_n 1, 1) := by decide +kernel
theorem dX6_assign_138 : decode cX6_assign 138 = .ok (.iload_n 3, 1) := by decide +kernel
theorem dX6_assign_139 : decode cX6_assign 139 = .ok (.putfield 121, 3) := by decide +kernel
theorem dX6_assign_142 : decode cX6_assign 142 = .ok (.aload_n 1, 1) := by decide +kernel
theorem dX6_assign_143 : decode cX6_assign 143 = .ok (.aload_n 0, 1) := by decide +kernel
theorem dX6_assign_144 : decode cX6_assign 144 = .ok (.getfield 56, 3) := by decide +kernel
theorem dX6_assign_147 : decode cX6_assign 147 = .ok (.putfield 162, 3) := by decide +kernel
theorem dX6_assign_150 : decode cX6_assign 150 = .ok (.return_, 1) := by decide +kernel
theorem dX6_assignThoseOf_0 : decode cX6_assignThoseOf 0 = .ok (.iconst 0, 1) := by decide +kernel
theorem dX6_assignThoseOf_1 : decode cX6_assignThoseOf 1 = .ok (.istore_n 3, 1) := by decide +kernel
theorem dX6_assignThoseOf_2 : decode cX6_assignThoseOf 2 = .ok (.iconst 0, 1) := by decide +kernel
theorem dX6_assignThoseOf_3 : decode cX6_assignThoseOf 3 = .ok (.istore 4, 2) := by decide +kernel
theorem dX6_assignThoseOf_5 : decode cX6_assignThoseOf 5 = .ok (.iload 4, 2) := by decide +kernel
theorem dX6_assignThoseOf_7 : decode cX6_assignThoseOf 7 = .ok (.aload_n 0, 1) := by decide +kernel
theorem dX6_assignThoseOf_8 : decode cX6_assignThoseOf 8 = .ok (.getfield 53, 3) := by decide +kernel
theorem dX6_assignThoseOf_11 : decode cX6_assignThoseOf 11 = .ok (.if_icmp .ge 54, 3) := by decide +kernel
theorem dX6_assignThoseOf_14 : decode cX6_assignThoseOf 14 = .ok (.aload_n 0, 1) := by decide +kernel
theorem dX6_assignThoseOf_15 : decode cX6_assignThoseOf 15 = .ok (.getfield 25, 3) := by decide +kernel
theorem dX6_assignThoseOf_18 : decode cX6_assignThoseOf 18 = .ok (.iload 4, 2) := by decide +kernel
theorem dX6_assignThoseOf_20 : decode cX6_assignThoseOf 20 = .ok (.aaload, 1) := by decide +kernel
theorem dX6_assignThoseOf_21 : decode cX6_assignThoseOf 21 = .ok (.astore 5, 2) := by decide +kernel
theorem dX6_assignThoseOf_23 : decode cX6_assignThoseOf 23 = .ok (.aload 5, 2) := by decide +kernel
theorem dX6_assignThoseOf_25 : decode cX6_assignThoseOf 25 = .ok (.getfield 100, 3) := by decide +kernel
theorem dX6_assignThoseOf_28 : decode cX6_assignThoseOf 28 = .ok (.iconst 1, 1) := by decide +kernel
theorem dX6_assignThoseOf_29 : decode cX6_assignThoseOf 29 = .ok (.if_icmp .ne 30, 3) := by decide +kernel
theorem dX6_assignThoseOf_32 : decode cX6_assignThoseOf 32 = .ok (.aload 5, 2) := by decide +kernel
theorem dX6_assignThoseOf_34 : decode cX6_assignThoseOf 34 = .ok (.getfield 118, 3) := by decide +kernel
theorem dX6_assignThoseOf_37 : decode cX6_assignThoseOf 37 = .ok (.iload_n 1, 1) := by decide +kernel
theorem dX6_assignThoseOf_38 : decode cX6_assignThoseOf 38 = .ok (.if_icmp .ne 21, 3) := by decide +kernel
theorem dX6_assignThoseOf_41 : decode cX6_assignThoseOf 41 = .ok (.aload 5, 2) := by decide +kernel
theorem dX6_assignThoseOf_43 : decode cX6_assignThoseOf 43 = .ok (.getfield 121, 3) := by decide +kernel
theorem dX6_assignThoseOf_46 : decode cX6_assignThoseOf 46 = .ok (.iload_n 2, 1) := by decide +kernel
theorem dX6_assignThoseOf_47 : decode cX6_assignThoseOf 47 = .ok (.if_icmp .ne 12, 3) := by decide +kernel
theorem dX6_assignThoseOf_50 : decode cX6_assignThoseOf 50 = .ok (.aload_n 0, 1) := by decide +kernel
theorem dX6_assignThoseOf_51 : decode cX6_assignThoseOf 51 = .ok (.aload 5, 2) := by decide +kernel
theorem dX6_assignThoseOf_53 : decode cX6_assignThoseOf 53 = .ok (.invokevirtual 147, 3) := by decide +kernel
theorem dX6_assignThoseOf_56 : decode cX6_assignThoseOf 56 = .ok (.iinc 3 1, 3) := by decide +kernel
theorem dX6_assignThoseOf_59 : decode cX6_assignThoseOf 59 = .ok (.iinc 4 1, 3) := by decide +kernel
theorem dX6_assignThoseOf_62 : decode cX6_assignThoseOf 62 = .ok (.goto (-57), 3) := by decide +kernel
theorem dX6_assignThoseOf_65 : decode cX6_assignThoseOf 65 = .ok (.iload_n 3, 1) := by decide +kernel
theorem dX6_assignThoseOf_66 : decode cX6_assignThoseOf 66 = .ok (.ireturn, 1) := by decide +kernel
theorem dX6_mayLease_0 : decode cX6_mayLease 0 = .ok (.aload_n 0, 1) := by decide +kernel
theorem dX6_mayLease_1 : decode cX6_mayLease 1 = .ok (.getfield 11, 3) := by decide +kernel
theorem dX6_mayLease_4 : decode cX6_mayLease 4 = .ok (.iload_n 1, 1) := by decide +kernel
theorem dX6_mayLease_5 : decode cX6_mayLease 5 = .ok (.aaload, 1) := by decide +kernel
theorem dX6_mayLease_6 : decode cX6_mayLease 6 = .ok (.getfield 103, 3) := by decide +kernel
theorem dX6_mayLease_9 : decode cX6_mayLease 9 = .ok (.ifCond .ne 33, 3) := by decide +kernel
theorem dX6_mayLease_12 : decode cX6_mayLease 12 = .ok (.aload_n 0, 1) := by decide +kernel
theorem dX6_mayLease_13 : decode cX6_mayLease 13 = .ok (.getfield 19, 3) := by decide +kernel
theorem dX6_mayLease_16 : decode cX6_mayLease 16 = .ok (.iload_n 2, 1) := by decide +kernel
theorem dX6_mayLease_17 : decode cX6_mayLease 17 = .ok (.aaload, 1) := by decide +kernel
theorem dX6_mayLease_18 : decode cX6_mayLease 18 = .ok (.iload_n 1, 1) := by decide +kernel
theorem dX6_mayLease_19 : decode cX6_mayLease 19 = .ok (.invokevirtual 114, 3) := by decide +kernel
theorem dX6_mayLease_22 : decode cX6_mayLease 22 = .ok (.ifCond .ge 20, 3) := by decide +kernel
theorem dX6_mayLease_25 : decode cX6_mayLease 25 = .ok (.aload_n 0, 1) := by decide +kernel
theorem dX6_mayLease_26 : decode cX6_mayLease 26 = .ok (.getfield 19, 3) := by decide +kernel
theorem dX6_mayLease_29 : decode cX6_mayLease 29 = .ok (.iload_n 2, 1) := by decide +kernel
theorem dX6_mayLease_30 : decode cX6_mayLease 30 = .ok (.aaload, 1) := by decide +kernel
theorem dX6_mayLease_31 : decode cX6_mayLease 31 = .ok (.getfield 150, 3) := by decide +kernel
theorem dX6_mayLease_34 : decode cX6_mayLease 34 = .ok (.iconst 3, 1) := by decide +kernel
theorem dX6_mayLease_35 : decode cX6_mayLease 35 = .ok (.if_icmp .ge 7, 3) := by decide +kernel
theorem dX6_mayLease_38 : decode cX6_mayLease 38 = .ok (.iconst 1, 1) := by decide +kernel
theorem dX6_mayLease_39 : decode cX6_mayLease 39 = .ok (.goto 4, 3) := by decide +kernel
theorem dX6_mayLease_42 : decode cX6_mayLease 42 = .ok (.iconst 0, 1) := by decide +kernel
theorem dX6_mayLease_43 : decode cX6_mayLease 43 = .ok (.ireturn, 1) := by decide +kernel
theorem dX6_letLease_0 : decode cX6_letLease 0 = .ok (.aload_n 0, 1) := by decide +kernel
theorem dX6_letLease_1 : decode cX6_letLease 1 = .ok (.getfield 19, 3) := by decide +kernel
theorem dX6_letLease_4 : decode cX6_letLease 4 = .ok (.iload_n 2, 1) := by decide +kernel
theorem dX6_letLease_5 : decode cX6_letLease 5 = .ok (.aaload, 1) := by decide +kernel
theorem dX6_letLease_6 : decode cX6_letLease 6 = .ok (.iload_n 1, 1) := by decide +kernel
theorem dX6_letLease_7 : decode cX6_letLease 7 = .ok (.invokevirtual 165, 3) := by decide +kernel
theorem dX6_letLease_10 : decode cX6_letLease 10 = .ok (.aload_n 0, 1) := by decide +kernel
theorem dX6_letLease_11 : decode cX6_letLease 11 = .ok (.iload_n 2, 1) := by decide +kernel
theorem dX6_letLease_12 : decode cX6_letLease 12 = .ok (.iconst (-1), 1) := by decide +kernel
theorem dX6_letLease_13 : decode cX6_letLease 13 = .ok (.invokevirtual 169, 3) := by decide +kernel
theorem dX6_letLease_16 : decode cX6_letLease 16 = .ok (.ireturn, 1) := by decide +kernel
theorem dX6_letRelease_0 : decode cX6_letRelease 0 = .ok (.aload_n 0, 1) := by decide +kernel
theorem dX6_letRelease_1 : decode cX6_letRelease 1 = .ok (.getfield 19, 3) := by decide +kernel
theorem dX6_letRelease_4 : decode cX6_letRelease 4 = .ok (.iload_n 2, 1) := by decide +kernel
theorem dX6_letRelease_5 : decode cX6_letRelease 5 = .ok (.aaload, 1) := by decide +kernel
theorem dX6_letRelease_6 : decode cX6_letRelease 6 = .ok (.iload_n 1, 1) := by decide +kernel
theorem dX6_letRelease_7 : decode cX6_letRelease 7 = .ok (.invokevirtual 173, 3) := by decide +kernel
theorem dX6_letRelease_10 : decode cX6_letRelease 10 = .ok (.aload_n 0, 1) := by decide +kernel
theorem dX6_letRelease_11 : decode cX6_letRelease 11 = .ok (.iload_n 2, 1) := by decide +kernel
theorem dX6_letRelease_12 : decode cX6_letRelease 12 = .ok (.iload_n 1, 1) := by decide +kernel
theorem dX6_letRelease_13 : decode cX6_letRelease 13 = .ok (.invokevirtual 169, 3) := by decide +kernel
theorem dX6_letRelease_16 : decode cX6_letRelease 16 = .ok (.ireturn, 1) := by decide +kernel
theorem dX6_finesWithin_0 : decode cX6_finesWithin 0 = .ok (.aload_n 0, 1) := by decide +kernel
theorem dX6_finesWithin_1 : decode cX6_finesWithin 1 = .ok (.invokevirtual 176, 3) := by decide +kernel
theorem dX6_finesWithin_4 : decode cX6_finesWithin 4 = .ok (.istore_n 2, 1) := by decide +kernel
theorem dX6_finesWithin_5 : decode cX6_finesWithin 5 = .ok (.iconst 0, 1) := by decide +kernel
theorem dX6_finesWithin_6 : decode cX6_finesWithin 6 = .ok (.istore_n 3, 1) := by decide +kernel
theorem dX6_finesWithin_7 : decode cX6_finesWithin 7 = .ok (.iload_n 3, 1) := by decide +kernel
theorem dX6_finesWithin_8 : decode cX6_finesWithin 8 = .ok (.iload_n 1, 1) := by decide +kernel
theorem dX6_finesWithin_9 : decode cX6_finesWithin 9 = .ok (.if_icmp .ge 13, 3) := by decide +kernel
theorem dX6_finesWithin_12 : decode cX6_finesWithin 12 = .ok (.aload_n 0, 1) := by decide +kernel
theorem dX6_finesWithin_13 : decode cX6_finesWithin 13 = .ok (.invokevirtual 180, 3) := by decide +kernel
theorem dX6_finesWithin_16 : decode cX6_finesWithin 16 = .ok (.iinc 3 1, 3) := by decide +kernel
theorem dX6_finesWithin_19 : decode cX6_finesWithin 19 = .ok (.goto (-12), 3) := by decide +kernel
theorem dX6_finesWithin_22 : decode cX6_finesWithin 22 = .ok (.aload_n 0, 1) := by decide +kernel
theorem dX6_finesWithin_23 : decode cX6_finesWithin 23 = .ok (.invokevirtual 176, 3) := by decide +kernel
theorem dX6_finesWithin_26 : decode cX6_finesWithin 26 = .ok (.iload_n 2, 1) := by decide +kernel
theorem dX6_finesWithin_27 : decode cX6_finesWithin 27 = .ok (.isub, 1) := by decide +kernel
theorem dX6_finesWithin_28 : decode cX6_finesWithin 28 = .ok (.ireturn, 1) := by decide +kernel
theorem dX6_passTick_0 : decode cX6_passTick 0 = .ok (.iconst 0, 1) := by decide +kernel
theorem dX6_passTick_1 : decode cX6_passTick 1 = .ok (.istore_n 1, 1) := by decide +kernel
theorem dX6_passTick_2 : decode cX6_passTick 2 = .ok (.iload_n 1, 1) := by decide +kernel
theorem dX6_passTick_3 : decode cX6_passTick 3 = .ok (.aload_n 0, 1) := by decide +kernel
theorem dX6_passTick_4 : decode cX6_passTick 4 = .ok (.getfield 53, 3) := by decide +kernel
theorem dX6_passTick_7 : decode cX6_passTick 7 = .ok (.if_icmp .ge 47, 3) := by decide +kernel
theorem dX6_passTick_10 : decode cX6_passTick 10 = .ok (.aload_n 0, 1) := by decide +kernel
theorem dX6_passTick_11 : decode cX6_passTick 11 = .ok (.getfield 25, 3) := by decide +kernel
theorem dX6_passTick_14 : decode cX6_passTick 14 = .ok (.iload_n 1, 1) := by decide +kernel
theorem dX6_passTick_15 : decode cX6_passTick 15 = .ok (.aaload, 1) := by decide +kernel
theorem dX6_passTick_16 : decode cX6_passTick 16 = .ok (.getfield 100, 3) := by decide +kernel
theorem dX6_passTick_19 : decode cX6_passTick 19 = .ok (.ifCond .ne 29, 3) := by decide +kernel
theorem dX6_passTick_22 : decode cX6_passTick 22 = .ok (.aload_n 0, 1) := by decide +kernel
theorem dX6_passTick_23 : decode cX6_passTick 23 = .ok (.getfield 25, 3) := by decide +kernel
theorem dX6_passTick_26 : decode cX6_passTick 26 = .ok (.iload_n 1, 1) := by decide +kernel
theorem dX6_passTick_27 : decode cX6_passTick 27 = .ok (.aaload, 1) := by decide +kernel
theorem dX6_passTick_28 : decode cX6_passTick 28 = .ok (.getfield 124, 3) := by decide +kernel
theorem dX6_passTick_31 : decode cX6_passTick 31 = .ok (.aload_n 0, 1) := by decide +kernel
theorem dX6_passTick_32 : decode cX6_passTick 32 = .ok (.getfield 56, 3) := by decide +kernel
theorem dX6_passTick_35 : decode cX6_passTick 35 = .ok (.if_icmp .ne 13, 3) := by decide +kernel
theorem dX6_passTick_38 : decode cX6_passTick 38 = .ok (.aload_n 0, 1) := by decide +kernel
theorem dX6_passTick_39 : decode cX6_passTick 39 = .ok (.aload_n 0, 1) := by decide +kernel
theorem dX6_passTick_40 : decode cX6_passTick 40 = .ok (.getfield 25, 3) := by decide +kernel
theorem dX6_passTick_43 : decode cX6_passTick 43 = .ok (.iload_n 1, 1) := by decide +kernel
theorem dX6_passTick_44 : decode cX6_passTick 44 = .ok (.aaload, 1) := by decide +kernel
theorem dX6_passTick_45 : decode cX6_passTick 45 = .ok (.invokevirtual 183, 3) := by decide +kernel
theorem dX6_passTick_48 : decode cX6_passTick 48 = .ok (.iinc 1 1, 3) := by decide +kernel
theorem dX6_passTick_51 : decode cX6_passTick 51 = .ok (.goto (-49), 3) := by decide +kernel
theorem dX6_passTick_54 : decode cX6_passTick 54 = .ok (.iconst 0, 1) := by decide +kernel
theorem dX6_passTick_55 : decode cX6_passTick 55 = .ok (.istore_n 1, 1) := by decide +kernel
theorem dX6_passTick_56 : decode cX6_passTick 56 = .ok (.iload_n 1, 1) := by decide +kernel
theorem dX6_passTick_57 : decode cX6_passTick 57 = .ok (.aload_n 0, 1) := by decide +kernel
theorem dX6_passTick_58 : decode cX6_passTick 58 = .ok (.getfield 46, 3) := by decide +kernel
theorem dX6_passTick_61 : decode cX6_passTick 61 = .ok (.if_icmp .ge 38, 3) := by decide +kernel
theorem dX6_passTick_64 : decode cX6_passTick 64 = .ok (.aload_n 0, 1) := by decide +kernel
theorem dX6_passTick_65 : decode cX6_passTick 65 = .ok (.getfield 11, 3) := by decide +kernel
theorem dX6_passTick_68 : decode cX6_passTick 68 = .ok (.iload_n 1, 1) := by decide +kernel
theorem dX6_passTick_69 : decode cX6_passTick 69 = .ok (.aaload, 1) := by decide +kernel
theorem dX6_passTick_70 : decode cX6_passTick 70 = .ok (.getfield 103, 3) := by decide +kernel
theorem dX6_passTick_73 : decode cX6_passTick 73 = .ok (.ifCond .ne 20, 3) := by decide +kernel
theorem dX6_passTick_76 : decode cX6_passTick 76 = .ok (.aload_n 0, 1) := by decide +kernel
theorem dX6_passTick_77 : decode cX6_passTick 77 = .ok (.getfield 11, 3) := by decide +kernel
theorem dX6_passTick_80 : decode cX6_passTick 80 = .ok (.iload_n 1, 1) := by decide +kernel
theorem dX6_passTick_81 : decode cX6_passTick 81 = .ok (.aaload, 1) := by decide +kernel
theorem dX6_passTick_82 : decode cX6_passTick 82 = .ok (.getfield 159, 3) := by decide +kernel
theorem dX6_passTick_85 : decode cX6_passTick 85 = .ok (.ifCond .le 8, 3) := by decide +kernel
theorem dX6_passTick_88 : decode cX6_passTick 88 = .ok (.aload_n 0, 1) := by decide +kernel
theorem dX6_passTick_89 : decode cX6_passTick 89 = .ok (.iload_n 1, 1) := by decide +kernel
theorem dX6_passTick_90 : decode cX6_passTick 90 = .ok (.invokevirtual 186, 3) := by decide +kernel
theorem dX6_passTick_93 : decode cX6_passTick 93 = .ok (.iinc 1 1, 3) := by decide +kernel
theorem dX6_passTick_96 : decode cX6_passTick 96 = .ok (.goto (-40), 3) := by decide +kernel
theorem dX6_passTick_99 : decode cX6_passTick 99 = .ok (.iconst 0, 1) := by decide +kernel
theorem dX6_passTick_100 : decode cX6_passTick 100 = .ok (.istore_n 1, 1) := by decide +kernel
theorem dX6_passTick_101 : decode cX6_passTick 101 = .ok (.iload_n 1, 1) := by decide +kernel
theorem dX6_passTick_102 : decode cX6_passTick 102 = .ok (.aload_n 0, 1) := by decide +kernel
theorem dX6_passTick_103 : decode cX6_passTick 103 = .ok (.getfield 53, 3) := by decide +kernel
theorem dX6_passTick_106 : decode cX6_passTick 106 = .ok (.if_icmp .ge 52, 3) := by decide +kernel
theorem dX6_passTick_109 : decode cX6_passTick 109 = .ok (.aload_n 0, 1) := by decide +kernel
theorem dX6_passTick_110 : decode cX6_passTick 110 = .ok (.getfield 25, 3) := by decide +kernel
theorem dX6_passTick_113 : decode cX6_passTick 113 = .ok (.iload_n 1, 1) := by decide +kernel
theorem dX6_passTick_114 : decode cX6_passTick 114 = .ok (.aaload, 1) := by decide +kernel
theorem dX6_passTick_115 : decode cX6_passTick 115 = .ok (.astore_n 2, 1) := by decide +kernel
theorem dX6_passTick_116 : decode cX6_passTick 116 = .ok (.aload_n 2, 1) := by decide +kernel
theorem dX6_passTick_117 : decode cX6_passTick 117 = .ok (.getfield 100, 3) := by decide +kernel
theorem dX6_passTick_120 : decode cX6_passTick 120 = .ok (.iconst 1, 1) := by decide +kernel
theorem dX6_passTick_121 : decode cX6_passTick 121 = .ok (.if_icmp .ne 31, 3) := by decide +kernel
theorem dX6_passTick_124 : decode cX6_passTick 124 = .ok (.aload_n 2, 1) := by decide +kernel
theorem dX6_passTick_125 : decode cX6_passTick 125 = .ok (.getfield 121, 3) := by decide +kernel
theorem dX6_passTick_128 : decode cX6_passTick 128 = .ok (.ifCond .lt 24, 3) := by decide +kernel
theorem dX6_passTick_131 : decode cX6_passTick 131 = .ok (.aload_n 0, 1) := by decide +kernel
theorem dX6_passTick_132 : decode cX6_passTick 132 = .ok (.getfield 56, 3) := by decide +kernel
theorem dX6_passTick_135 : decode cX6_passTick 135 = .ok (.aload_n 2, 1) := by decide +kernel
theorem dX6_passTick_136 : decode cX6_passTick 136 = .ok (.getfield 162, 3) := by decide +kernel
theorem dX6_passTick_139 : decode cX6_passTick 139 = .ok (.isub, 1) := by decide +kernel
theorem dX6_passTick_140 : decode cX6_passTick 140 = .ok (.aload_n 0, 1) := by decide +kernel
theorem dX6_passTick_141 : decode cX6_passTick 141 = .ok (.getfield 62, 3) := by decide +kernel
theorem dX6_passTick_144 : decode cX6_passTick 144 = .ok (.if_icmp .lt 8, 3) := by decide +kernel
theorem dX6_passTick_147 : decode cX6_passTick 147 = .ok (.aload_n 0, 1) := by decide +kernel
theorem dX6_passTick_148 : decode cX6_passTick 148 = .ok (.aload_n 2, 1) := by decide +kernel
theorem dX6_passTick_149 : decode cX6_passTick 149 = .ok (.invokevirtual 189, 3) := by decide +kernel
theorem dX6_passTick_152 : decode cX6_passTick 152 = .ok (.iinc 1 1, 3) := by decide +kernel
theorem dX6_passTick_155 : decode cX6_passTick 155 = .ok (.goto (-54), 3) := by decide +kernel
theorem dX6_passTick_158 : decode cX6_passTick 158 = .ok (.aload_n 0, 1) := by decide +kernel
theorem dX6_passTick_159 : decode cX6_passTick 159 = .ok (.getfield 71, 3) := by decide +kernel
theorem dX6_passTick_162 : decode cX6_passTick 162 = .ok (.ifCond .le 43, 3) := by decide +kernel
theorem dX6_passTick_165 : decode cX6_passTick 165 = .ok (.aload_n 0, 1) := by decide +kernel
theorem dX6_passTick_166 : decode cX6_passTick 166 = .ok (.getfield 56, 3) := by decide +kernel
theorem dX6_passTick_169 : decode cX6_passTick 169 = .ok (.iconst 1, 1) := by decide +kernel
theorem dX6_passTick_170 : decode cX6_passTick 170 = .ok (.iadd, 1) := by decide +kernel
theorem dX6_passTick_171 : decode cX6_passTick 171 = .ok (.aload_n 0, 1) := by decide +kernel
theorem dX6_passTick_172 : decode cX6_passTick 172 = .ok (.getfield 71, 3) := by decide +kernel
theorem dX6_passTick_175 : decode cX6_passTick 175 = .ok (.irem, 1) := by decide +kernel
theorem dX6_passTick_176 : decode cX6_passTick 176 = .ok (.ifCond .ne 29, 3) := by decide +kernel
theorem dX6_passTick_179 : decode cX6_passTick 179 = .ok (.iconst 0, 1) := by decide +kernel
theorem dX6_passTick_180 : decode cX6_passTick 180 = .ok (.istore_n 1, 1) := by decide +kernel
theorem dX6_passTick_181 : decode cX6_passTick 181 = .ok (.iload_n 1, 1) := by decide +kernel
theorem dX6_passTick_182 : decode cX6_passTick 182 = .ok (.aload_n 0, 1) := by decide +kernel
theorem dX6_passTick_183 : decode cX6_passTick 183 = .ok (.getfield 50, 3) := by decide +kernel
theorem dX6_passTick_186 : decode cX6_passTick 186 = .ok (.if_icmp .ge 19, 3) := by decide +kernel
theorem dX6_passTick_189 : decode cX6_passTick 189 = .ok (.aload_n 0, 1) := by decide +kernel
theorem dX6_passTick_190 : decode cX6_passTick 190 = .ok (.aload_n 0, 1) := by decide +kernel
theorem dX6_passTick_191 : decode cX6_passTick 191 = .ok (.getfield 19, 3) := by decide +kernel
theorem dX6_passTick_194 : decode cX6_passTick 194 = .ok (.iload_n 1, 1) := by decide +kernel
theorem dX6_passTick_195 : decode cX6_passTick 195 = .ok (.aaload, 1) := by decide +kernel
theorem dX6_passTick_196 : decode cX6_passTick 196 = .ok (.invokevirtual 192, 3) := by decide +kernel
theorem dX6_passTick_199 : decode cX6_passTick 199 = .ok (.iinc 1 1, 3) := by decide +kernel
theorem dX6_passTick_202 : decode cX6_passTick 202 = .ok (.goto (-21), 3) := by decide +kernel
theorem dX6_passTick_205 : decode cX6_passTick 205 = .ok (.aload_n 0, 1) := by decide +kernel
theorem dX6_passTick_206 : decode cX6_passTick 206 = .ok (.dup, 1) := by decide +kernel
theorem dX6_passTick_207 : decode cX6_passTick 207 = .ok (.getfield 56, 3) := by decide +kernel
theorem dX6_passTick_210 : decode cX6_passTick 210 = .ok (.iconst 1, 1) := by decide +kernel
theorem dX6_passTick_211 : decode cX6_passTick 211 = .ok (.iadd, 1) := by decide +kernel
theorem dX6_passTick_212 : decode cX6_passTick 212 = .ok (.putfield 56, 3) := by decide +kernel
theorem dX6_passTick_215 : decode cX6_passTick 215 = .ok (.return_, 1) := by decide +kernel
theorem dX6_doWork_0 : decode cX6_doWork 0 = .ok (.aload_n 0, 1) := by decide +kernel
theorem dX6_doWork_1 : decode cX6_doWork 1 = .ok (.getfield 11, 3) := by decide +kernel
theorem dX6_doWork_4 : decode cX6_doWork 4 = .ok (.iload_n 1, 1) := by decide +kernel
theorem dX6_doWork_5 : decode cX6_doWork 5 = .ok (.aaload, 1) := by decide +kernel
theorem dX6_doWork_6 : decode cX6_doWork 6 = .ok (.getfield 195, 3) := by decide +kernel
theorem dX6_doWork_9 : decode cX6_doWork 9 = .ok (.istore_n 2, 1) := by decide +kernel
theorem dX6_doWork_10 : decode cX6_doWork 10 = .ok (.iconst 0, 1) := by decide +kernel
theorem dX6_doWork_11 : decode cX6_doWork 11 = .ok (.istore_n 3, 1) := by decide +kernel
theorem dX6_doWork_12 : decode cX6_doWork 12 = .ok (.iload_n 3, 1) := by decide +kernel
theorem dX6_doWork_13 : decode cX6_doWork 13 = .ok (.aload_n 0, 1) := by decide +kernel
theorem dX6_doWork_14 : decode cX6_doWork 14 = .ok (.getfield 53, 3) := by decide +kernel
theorem dX6_doWork_17 : decode cX6_doWork 17 = .ok (.if_icmp .ge 99, 3) := by decide +kernel
theorem dX6_doWork_20 : decode cX6_doWork 20 = .ok (.iload_n 2, 1) := by decide +kernel
theorem dX6_doWork_21 : decode cX6_doWork 21 = .ok (.ifCond .le 95, 3) := by decide +kernel
theorem dX6_doWork_24 : decode cX6_doWork 24 = .ok (.aload_n 0, 1) := by decide +kernel
theorem dX6_doWork_25 : decode cX6_doWork 25 = .ok (.getfield 25, 3) := by decide +kernel
theorem dX6_doWork_28 : decode cX6_doWork 28 = .ok (.iload_n 3, 1) := by decide +kernel
theorem dX6_doWork_29 : decode cX6_doWork 29 = .ok (.aaload, 1) := by decide +kernel
theorem dX6_doWork_30 : decode cX6_doWork 30 = .ok (.astore 4, 2) := by decide +kernel
theorem dX6_doWork_32 : decode cX6_doWork 32 = .ok (.aload 4, 2) := by decide +kernel
theorem dX6_doWork_34 : decode cX6_doWork 34 = .ok (.getfield 100, 3) := by decide +kernel
theorem dX6_doWork_37 : decode cX6_doWork 37 = .ok (.iconst 1, 1) := by decide +kernel
theorem dX6_doWork_38 : decode cX6_doWork 38 = .ok (.if_icmp .ne 72, 3) := by decide +kernel
theorem dX6_doWork_41 : decode cX6_doWork 41 = .ok (.aload 4, 2) := by decide +kernel
theorem dX6_doWork_43 : decode cX6_doWork 43 = .ok (.getfield 121, 3) := by decide +kernel
theorem dX6_doWork_46 : decode cX6_doWork 46 = .ok (.iload_n 1, 1) := by decide +kernel
theorem dX6_doWork_47 : decode cX6_doWork 47 = .ok (.if_icmp .ne 63, 3) := by decide +kernel
theorem dX6_doWork_50 : decode cX6_doWork 50 = .ok (.aload 4, 2) := by decide +kernel
theorem dX6_doWork_52 : decode cX6_doWork 52 = .ok (.getfield 144, 3) := by decide +kernel
theorem dX6_doWork_55 : decode cX6_doWork 55 = .ok (.iload_n 2, 1) := by decide +kernel
theorem dX6_doWork_56 : decode cX6_doWork 56 = .ok (.if_icmp .ge 11, 3) := by decide +kernel
theorem dX6_doWork_59 : decode cX6_doWork 59 = .ok (.aload 4, 2) := by decide +kernel
theorem dX6_doWork_61 : decode cX6_doWork 61 = .ok (.getfield 144, 3) := by decide +kernel
theorem dX6_doWork_64 : decode cX6_doWork 64 = .ok (.goto 4, 3) := by decide +kernel
theorem dX6_doWork_67 : decode cX6_doWork 67 = .ok (.iload_n 2, 1) := by decide +kernel
theorem dX6_doWork_68 : decode cX6_doWork 68 = .ok (.istore 5, 2) := by decide +kernel
theorem dX6_doWork_70 : decode cX6_doWork 70 = .ok (.iload_n 2, 1) := by decide +kernel
theorem dX6_doWork_71 : decode cX6_doWork 71 = .ok (.iload 5, 2) := by decide +kernel
theorem dX6_doWork_73 : decode cX6_doWork 73 = .ok (.isub, 1) := by decide +kernel
theorem dX6_doWork_74 : decode cX6_doWork 74 = .ok (.istore_n 2, 1) := by decide +kernel
theorem dX6_doWork_75 : decode cX6_doWork 75 = .ok (.aload 4, 2) := by decide +kernel
theorem dX6_doWork_77 : decode cX6_doWork 77 = .ok (.dup, 1) := by decide +kernel
theorem dX6_doWork_78 : decode cX6_doWork 78 = .ok (.getfield 144, 3) := by decide +kernel
theorem dX6_doWork_81 : decode cX6_doWork 81 = .ok (.iload 5, 2) := by decide +kernel
theorem dX6_doWork_83 : decode cX6_doWork 83 = .ok (.isub, 1) := by decide +kernel
theorem dX6_doWork_84 : decode cX6_doWork 84 = .ok (.putfield 144, 3) := by decide +kernel
theorem dX6_doWork_87 : decode cX6_doWork 87 = .ok (.aload 4, 2) := by decide +kernel
theorem dX6_doWork_89 : decode cX6_doWork 89 = .ok (.aload_n 0, 1) := by decide +kernel
theorem dX6_doWork_90 : decode cX6_doWork 90 = .ok (.getfield 56, 3) := by decide +kernel
theorem dX6_doWork_93 : decode cX6_doWork 93 = .ok (.putfield 162, 3) := by decide +kernel
theorem dX6_doWork_96 : decode cX6_doWork 96 = .ok (.aload 4, 2) := by decide +kernel
theorem dX6_doWork_98 : decode cX6_doWork 98 = .ok (.getfield 144, 3) := by decide +kernel
theorem dX6_doWork_101 : decode cX6_doWork 101 = .ok (.ifCond .ne 9, 3) := by decide +kernel
theorem dX6_doWork_104 : decode cX6_doWork 104 = .ok (.aload_n 0, 1) := by decide +kernel
theorem dX6_doWork_105 : decode cX6_doWork 105 = .ok (.aload 4, 2) := by decide +kernel
theorem dX6_doWork_107 : decode cX6_doWork 107 = .ok (.invokevirtual 198, 3) := by decide +kernel
theorem dX6_doWork_110 : decode cX6_doWork 110 = .ok (.iinc 3 1, 3) := by decide +kernel
theorem dX6_doWork_113 : decode cX6_doWork 113 = .ok (.goto (-101), 3) := by decide +kernel
theorem dX6_doWork_116 : decode cX6_doWork 116 = .ok (.return_, 1) := by decide +kernel
theorem dX6_answer_0 : decode cX6_answer 0 = .ok (.aload_n 0, 1) := by decide +kernel
theorem dX6_answer_1 : decode cX6_answer 1 = .ok (.aload_n 1, 1) := by decide +kernel
theorem dX6_answer_2 : decode cX6_answer 2 = .ok (.getfield 121, 3) := by decide +kernel
theorem dX6_answer_5 : decode cX6_answer 5 = .ok (.invokevirtual 156, 3) := by decide +kernel
theorem dX6_answer_8 : decode cX6_answer 8 = .ok (.ifCond .eq 14, 3) := by decide +kernel
theorem dX6_answer_11 : decode cX6_answer 11 = .ok (.aload_n 0, 1) := by decide +kernel
theorem dX6_answer_12 : decode cX6_answer 12 = .ok (.aload_n 1, 1) := by decide +kernel
theorem dX6_answer_13 : decode cX6_answer 13 = .ok (.getfield 118, 3) := by decide +kernel
theorem dX6_answer_16 : decode cX6_answer 16 = .ok (.invokevirtual 125, 3) := by decide +kernel
theorem dX6_answer_19 : decode cX6_answer 19 = .ok (.ifCond .ne 4, 3) := by decide +kernel
theorem dX6_answer_22 : decode cX6_answer 22 = .ok (.return_, 1) := by decide +kernel
theorem dX6_answer_23 : decode cX6_answer 23 = .ok (.aload_n 0, 1) := by decide +kernel
theorem dX6_answer_24 : decode cX6_answer 24 = .ok (.getfield 11, 3) := by decide +kernel
theorem dX6_answer_27 : decode cX6_answer 27 = .ok (.aload_n 1, 1) := by decide +kernel
theorem dX6_answer_28 : decode cX6_answer 28 = .ok (.getfield 121, 3) := by decide +kernel
theorem dX6_answer_31 : decode cX6_answer 31 = .ok (.aaload, 1) := by decide +kernel
theorem dX6_answer_32 : decode cX6_answer 32 = .ok (.astore_n 2, 1) := by decide +kernel
theorem dX6_answer_33 : decode cX6_answer 33 = .ok (.aload_n 2, 1) := by decide +kernel
theorem dX6_answer_34 : decode cX6_answer 34 = .ok (.dup, 1) := by decide +kernel
theorem dX6_answer_35 : decode cX6_answer 35 = .ok (.getfield 159, 3) := by decide +kernel
theorem dX6_answer_38 : decode cX6_answer 38 = .ok (.iconst 1, 1) := by decide +kernel
theorem dX6_answer_39 : decode cX6_answer 39 = .ok (.isub, 1) := by decide +kernel
theorem dX6_answer_40 : decode cX6_answer 40 = .ok (.putfield 159, 3) := by decide +kernel
theorem dX6_answer_43 : decode cX6_answer 43 = .ok (.aload_n 1, 1) := by decide +kernel
theorem dX6_answer_44 : decode cX6_answer 44 = .ok (.iconst (-1), 1) := by decide +kernel
theorem dX6_answer_45 : decode cX6_answer 45 = .ok (.putfield 121, 3) := by decide +kernel
theorem dX6_answer_48 : decode cX6_answer 48 = .ok (.aload_n 1, 1) := by decide +kernel
theorem dX6_answer_49 : decode cX6_answer 49 = .ok (.iconst 2, 1) := by decide +kernel
theorem dX6_answer_50 : decode cX6_answer 50 = .ok (.putfield 100, 3) := by decide +kernel
theorem dX6_answer_53 : decode cX6_answer 53 = .ok (.aload_n 1, 1) := by decide +kernel
theorem dX6_answer_54 : decode cX6_answer 54 = .ok (.aload_n 0, 1) := by decide +kernel
theorem dX6_answer_55 : decode cX6_answer 55 = .ok (.getfield 56, 3) := by decide +kernel
theorem dX6_answer_58 : decode cX6_answer 58 = .ok (.putfield 135, 3) := by decide +kernel
theorem dX6_answer_61 : decode cX6_answer 61 = .ok (.aload_n 0, 1) := by decide +kernel
theorem dX6_answer_62 : decode cX6_answer 62 = .ok (.getfield 19, 3) := by decide +kernel
theorem dX6_answer_65 : decode cX6_answer 65 = .ok (.aload_n 1, 1) := by decide +kernel
theorem dX6_answer_66 : decode cX6_answer 66 = .ok (.getfield 118, 3) := by decide +kernel
theorem dX6_answer_69 : decode cX6_answer 69 = .ok (.aaload, 1) := by decide +kernel
theorem dX6_answer_70 : decode cX6_answer 70 = .ok (.aload_n 0, 1) := by decide +kernel
theorem dX6_answer_71 : decode cX6_answer 71 = .ok (.getfield 74, 3) := by decide +kernel
theorem dX6_answer_74 : decode cX6_answer 74 = .ok (.aload_n 1, 1) := by decide +kernel
theorem dX6_answer_75 : decode cX6_answer 75 = .ok (.getfield 141, 3) := by decide +kernel
theorem dX6_answer_78 : decode cX6_answer 78 = .ok (.imul, 1) := by decide +kernel
theorem dX6_answer_79 : decode cX6_answer 79 = .ok (.invokevirtual 138, 3) := by decide +kernel
theorem dX6_answer_82 : decode cX6_answer 82 = .ok (.istore_n 3, 1) := by decide +kernel
theorem dX6_answer_83 : decode cX6_answer 83 = .ok (.aload_n 2, 1) := by decide +kernel
theorem dX6_answer_84 : decode cX6_answer 84 = .ok (.dup, 1) := by decide +kernel
theorem dX6_answer_85 : decode cX6_answer 85 = .ok (.getfield 107, 3) := by decide +kernel
theorem dX6_answer_88 : decode cX6_answer 88 = .ok (.iload_n 3, 1) := by decide +kernel
theorem dX6_answer_89 : decode cX6_answer 89 = .ok (.iadd, 1) := by decide +kernel
theorem dX6_answer_90 : decode cX6_answer 90 = .ok (.putfield 107, 3) := by decide +kernel
theorem dX6_answer_93 : decode cX6_answer 93 = .ok (.aload_n 2, 1) := by decide +kernel
theorem dX6_answer_94 : decode cX6_answer 94 = .ok (.dup, 1) := by decide +kernel
theorem dX6_answer_95 : decode cX6_answer 95 = .ok (.getfield 201, 3) := by decide +kernel
theorem dX6_answer_98 : decode cX6_answer 98 = .ok (.iload_n 3, 1) := by decide +kernel
theorem dX6_answer_99 : decode cX6_answer 99 = .ok (.iadd, 1) := by decide +kernel
theorem dX6_answer_100 : decode cX6_answer 100 = .ok (.putfield 201, 3) := by decide +kernel
theorem dX6_answer_103 : decode cX6_answer 103 = .ok (.return_, 1) := by decide +kernel
theorem dX6_chargeFine_0 : decode cX6_chargeFine 0 = .ok (.aload_n 0, 1) := by decide +kernel
theorem dX6_chargeFine_1 : decode cX6_chargeFine 1 = .ok (.aload_n 1, 1) := by decide +kernel
theorem dX6_chargeFine_2 : decode cX6_chargeFine 2 = .ok (.getfield 121, 3) := by decide +kernel
theorem dX6_chargeFine_5 : decode cX6_chargeFine 5 = .ok (.invokevirtual 156, 3) := by decide +kernel
theorem dX6_chargeFine_8 : decode cX6_chargeFine 8 = .ok (.ifCond .eq 14, 3) := by decide +kernel
theorem dX6_chargeFine_11 : decode cX6_chargeFine 11 = .ok (.aload_n 0, 1) := by decide +kernel
theorem dX6_chargeFine_12 : decode cX6_chargeFine 12 = .ok (.aload_n 1, 1) := by decide +kernel
theorem dX6_chargeFine_13 : decode cX6_chargeFine 13 = .ok (.getfield 118, 3) := by decide +kernel
theorem dX6_chargeFine_16 : decode cX6_chargeFine 16 = .ok (.invokevirtual 125, 3) := by decide +kernel
theorem dX6_chargeFine_19 : decode cX6_chargeFine 19 = .ok (.ifCond .ne 4, 3) := by decide +kernel
theorem dX6_chargeFine_22 : decode cX6_chargeFine 22 = .ok (.return_, 1) := by decide +kernel
theorem dX6_chargeFine_23 : decode cX6_chargeFine 23 = .ok (.aload_n 0, 1) := by decide +kernel
theorem dX6_chargeFine_24 : decode cX6_chargeFine 24 = .ok (.getfield 11, 3) := by decide +kernel
theorem dX6_chargeFine_27 : decode cX6_chargeFine 27 = .ok (.aload_n 1, 1) := by decide +kernel
theorem dX6_chargeFine_28 : decode cX6_chargeFine 28 = .ok (.getfield 121, 3) := by decide +kernel
theorem dX6_chargeFine_31 : decode cX6_chargeFine 31 = .ok (.aaload, 1) := by decide +kernel
theorem dX6_chargeFine_32 : decode cX6_chargeFine 32 = .ok (.astore_n 2, 1) := by decide +kernel
theorem dX6_chargeFine_33 : decode cX6_chargeFine 33 = .ok (.aload_n 0, 1) := by decide +kernel
theorem dX6_chargeFine_34 : decode cX6_chargeFine 34 = .ok (.getfield 32, 3) := by decide +kernel
theorem dX6_chargeFine_37 : decode cX6_chargeFine 37 = .ok (.aload_n 1, 1) := by decide +kernel
theorem dX6_chargeFine_38 : decode cX6_chargeFine 38 = .ok (.getfield 118, 3) := by decide +kernel
theorem dX6_chargeFine_41 : decode cX6_chargeFine 41 = .ok (.aload_n 1, 1) := by decide +kernel
theorem dX6_chargeFine_42 : decode cX6_chargeFine 42 = .ok (.getfield 144, 3) := by decide +kernel
theorem dX6_chargeFine_45 : decode cX6_chargeFine 45 = .ok (.aload_n 2, 1) := by decide +kernel
theorem dX6_chargeFine_46 : decode cX6_chargeFine 46 = .ok (.getfield 159, 3) := by decide +kernel
theorem dX6_chargeFine_49 : decode cX6_chargeFine 49 = .ok (.aload_n 0, 1) := by decide +kernel
theorem dX6_chargeFine_50 : decode cX6_chargeFine 50 = .ok (.getfield 56, 3) := by decide +kernel
theorem dX6_chargeFine_53 : decode cX6_chargeFine 53 = .ok (.aload_n 1, 1) := by decide +kernel
theorem dX6_chargeFine_54 : decode cX6_chargeFine 54 = .ok (.getfield 162, 3) := by decide +kernel
theorem dX6_chargeFine_57 : decode cX6_chargeFine 57 = .ok (.isub, 1) := by decide +kernel
theorem dX6_chargeFine_58 : decode cX6_chargeFine 58 = .ok (.invokevirtual 204, 3) := by decide +kernel
theorem dX6_chargeFine_61 : decode cX6_chargeFine 61 = .ok (.istore_n 3, 1) := by decide +kernel
theorem dX6_chargeFine_62 : decode cX6_chargeFine 62 = .ok (.aload_n 0, 1) := by decide +kernel
theorem dX6_chargeFine_63 : decode cX6_chargeFine 63 = .ok (.aload_n 1, 1) := by decide +kernel
theorem dX6_chargeFine_64 : decode cX6_chargeFine 64 = .ok (.getfield 121, 3) := by decide +kernel
theorem dX6_chargeFine_67 : decode cX6_chargeFine 67 = .ok (.iload_n 3, 1) := by decide +kernel
theorem dX6_chargeFine_68 : decode cX6_chargeFine 68 = .ok (.invokevirtual 208, 3) := by decide +kernel
theorem dX6_chargeFine_71 : decode cX6_chargeFine 71 = .ok (.istore 4, 2) := by decide +kernel
theorem dX6_chargeFine_73 : decode cX6_chargeFine 73 = .ok (.aload_n 2, 1) := by decide +kernel
theorem dX6_chargeFine_74 : decode cX6_chargeFine 74 = .ok (.dup, 1) := by decide +kernel
theorem dX6_chargeFine_75 : decode cX6_chargeFine 75 = .ok (.getfield 111, 3) := by decide +kernel
theorem dX6_chargeFine_78 : decode cX6_chargeFine 78 = .ok (.iload 4, 2) := by decide +kernel
theorem dX6_chargeFine_80 : decode cX6_chargeFine 80 = .ok (.iadd, 1) := by decide +kernel
theorem dX6_chargeFine_81 : decode cX6_chargeFine 81 = .ok (.putfield 111, 3) := by decide +kernel
theorem dX6_chargeFine_84 : decode cX6_chargeFine 84 = .ok (.aload_n 0, 1) := by decide +kernel
theorem dX6_chargeFine_85 : decode cX6_chargeFine 85 = .ok (.getfield 19, 3) := by decide +kernel
theorem dX6_chargeFine_88 : decode cX6_chargeFine 88 = .ok (.aload_n 1, 1) := by decide +kernel
theorem dX6_chargeFine_89 : decode cX6_chargeFine 89 = .ok (.getfield 118, 3) := by decide +kernel
theorem dX6_chargeFine_92 : decode cX6_chargeFine 92 = .ok (.aaload, 1) := by decide +kernel
theorem dX6_chargeFine_93 : decode cX6_chargeFine 93 = .ok (.dup, 1) := by decide +kernel
theorem dX6_chargeFine_94 : decode cX6_chargeFine 94 = .ok (.getfield 110, 3) := by decide +kernel
theorem dX6_chargeFine_97 : decode cX6_chargeFine 97 = .ok (.iload 4, 2) := by decide +kernel
theorem dX6_chargeFine_99 : decode cX6_chargeFine 99 = .ok (.iadd, 1) := by decide +kernel
theorem dX6_chargeFine_100 : decode cX6_chargeFine 100 = .ok (.putfield 110, 3) := by decide +kernel
theorem dX6_chargeFine_103 : decode cX6_chargeFine 103 = .ok (.aload_n 1, 1) := by decide +kernel
theorem dX6_chargeFine_104 : decode cX6_chargeFine 104 = .ok (.aload_n 0, 1) := by decide +kernel
theorem dX6_chargeFine_105 : decode cX6_chargeFine 105 = .ok (.getfield 56, 3) := by decide +kernel
theorem dX6_chargeFine_108 : decode cX6_chargeFine 108 = .ok (.putfield 162, 3) := by decide +kernel
theorem dX6_chargeFine_111 : decode cX6_chargeFine 111 = .ok (.return_, 1) := by decide +kernel
theorem dX6_chargeRent_0 : decode cX6_chargeRent 0 = .ok (.aload_n 1, 1) := by decide +kernel
theorem dX6_chargeRent_1 : decode cX6_chargeRent 1 = .ok (.getfield 150, 3) := by decide +kernel
theorem dX6_chargeRent_4 : decode cX6_chargeRent 4 = .ok (.istore_n 2, 1) := by decide +kernel
theorem dX6_chargeRent_5 : decode cX6_chargeRent 5 = .ok (.iload_n 2, 1) := by decide +kernel
theorem dX6_chargeRent_6 : decode cX6_chargeRent 6 = .ok (.ifCond .ne 4, 3) := by decide +kernel
theorem dX6_chargeRent_9 : decode cX6_chargeRent 9 = .ok (.return_, 1) := by decide +kernel
theorem dX6_chargeRent_10 : decode cX6_chargeRent 10 = .ok (.aload_n 1, 1) := by decide +kernel
theorem dX6_chargeRent_11 : decode cX6_chargeRent 11 = .ok (.getfield 211, 3) := by decide +kernel
theorem dX6_chargeRent_14 : decode cX6_chargeRent 14 = .ok (.iload_n 2, 1) := by decide +kernel
theorem dX6_chargeRent_15 : decode cX6_chargeRent 15 = .ok (.idiv, 1) := by decide +kernel
theorem dX6_chargeRent_16 : decode cX6_chargeRent 16 = .ok (.istore_n 3, 1) := by decide +kernel
theorem dX6_chargeRent_17 : decode cX6_chargeRent 17 = .ok (.aload_n 1, 1) := by decide +kernel
theorem dX6_chargeRent_18 : decode cX6_chargeRent 18 = .ok (.getfield 211, 3) := by decide +kernel
theorem dX6_chargeRent_21 : decode cX6_chargeRent 21 = .ok (.iload_n 2, 1) := by decide +kernel
theorem dX6_chargeRent_22 : decode cX6_chargeRent 22 = .ok (.irem, 1) := by decide +kernel
theorem dX6_chargeRent_23 : decode cX6_chargeRent 23 = .ok (.istore 4, 2) := by decide +kernel
theorem dX6_chargeRent_25 : decode cX6_chargeRent 25 = .ok (.iconst 0, 1) := by decide +kernel
theorem dX6_chargeRent_26 : decode cX6_chargeRent 26 = .ok (.istore 5, 2) := by decide +kernel
theorem dX6_chargeRent_28 : decode cX6_chargeRent 28 = .ok (.iload 5, 2) := by decide +kernel
theorem dX6_chargeRent_30 : decode cX6_chargeRent 30 = .ok (.iload_n 2, 1) := by decide +kernel
theorem dX6_chargeRent_31 : decode cX6_chargeRent 31 = .ok (.if_icmp .ge 23, 3) := by decide +kernel
theorem dX6_chargeRent_34 : decode cX6_chargeRent 34 = .ok (.aload_n 0, 1) := by decide +kernel
theorem dX6_chargeRent_35 : decode cX6_chargeRent 35 = .ok (.getfield 36, 3) := by decide +kernel
theorem dX6_chargeRent_38 : decode cX6_chargeRent 38 = .ok (.iload 5, 2) := by decide +kernel
theorem dX6_chargeRent_40 : decode cX6_chargeRent 40 = .ok (.aload_n 1, 1) := by decide +kernel
theorem dX6_chargeRent_41 : decode cX6_chargeRent 41 = .ok (.getfield 153, 3) := by decide +kernel
theorem dX6_chargeRent_44 : decode cX6_chargeRent 44 = .ok (.iload 5, 2) := by decide +kernel
theorem dX6_chargeRent_46 : decode cX6_chargeRent 46 = .ok (.iaload, 1) := by decide +kernel
theorem dX6_chargeRent_47 : decode cX6_chargeRent 47 = .ok (.iastore, 1) := by decide +kernel
theorem dX6_chargeRent_48 : decode cX6_chargeRent 48 = .ok (.iinc 5 1, 3) := by decide +kernel
theorem dX6_chargeRent_51 : decode cX6_chargeRent 51 = .ok (.goto (-23), 3) := by decide +kernel
theorem dX6_chargeRent_54 : decode cX6_chargeRent 54 = .ok (.iconst 0, 1) := by decide +kernel
theorem dX6_chargeRent_55 : decode cX6_chargeRent 55 = .ok (.istore 5, 2) := by decide +kernel
theorem dX6_chargeRent_57 : decode cX6_chargeRent 57 = .ok (.iload 5, 2) := by decide +kernel
theorem dX6_chargeRent_59 : decode cX6_chargeRent 59 = .ok (.iload_n 2, 1) := by decide +kernel
theorem dX6_chargeRent_60 : decode cX6_chargeRent 60 = .ok (.if_icmp .ge 86, 3) := by decide +kernel
theorem dX6_chargeRent_63 : decode cX6_chargeRent 63 = .ok (.aload_n 0, 1) := by decide +kernel
theorem dX6_chargeRent_64 : decode cX6_chargeRent 64 = .ok (.getfield 36, 3) := by decide +kernel
theorem dX6_chargeRent_67 : decode cX6_chargeRent 67 = .ok (.iload 5, 2) := by decide +kernel
theorem dX6_chargeRent_69 : decode cX6_chargeRent 69 = .ok (.iaload, 1) := by decide +kernel
theorem dX6_chargeRent_70 : decode cX6_chargeRent 70 = .ok (.istore 6, 2) := by decide +kernel
theorem dX6_chargeRent_72 : decode cX6_chargeRent 72 = .ok (.aload_n 0, 1) := by decide +kernel
theorem dX6_chargeRent_73 : decode cX6_chargeRent 73 = .ok (.iload 6, 2) := by decide +kernel
theorem dX6_chargeRent_75 : decode cX6_chargeRent 75 = .ok (.invokevirtual 156, 3) := by decide +kernel
theorem dX6_chargeRent_78 : decode cX6_chargeRent 78 = .ok (.ifCond .eq 62, 3) := by decide +kernel
theorem dX6_chargeRent_81 : decode cX6_chargeRent 81 = .ok (.aload_n 1, 1) := by decide +kernel
theorem dX6_chargeRent_82 : decode cX6_chargeRent 82 = .ok (.iload 6, 2) := by decide +kernel
theorem dX6_chargeRent_84 : decode cX6_chargeRent 84 = .ok (.invokevirtual 114, 3) := by decide +kernel
theorem dX6_chargeRent_87 : decode cX6_chargeRent 87 = .ok (.ifCond .lt 53, 3) := by decide +kernel
theorem dX6_chargeRent_90 : decode cX6_chargeRent 90 = .ok (.aload_n 0, 1) := by decide +kernel
theorem dX6_chargeRent_91 : decode cX6_chargeRent 91 = .ok (.iload 6, 2) := by decide +kernel
theorem dX6_chargeRent_93 : decode cX6_chargeRent 93 = .ok (.iload 5, 2) := by decide +kernel
theorem dX6_chargeRent_95 : decode cX6_chargeRent 95 = .ok (.iload 4, 2) := by decide +kernel
theorem dX6_chargeRent_97 : decode cX6_chargeRent 97 = .ok (.if_icmp .ge 9, 3) := by decide +kernel
theorem dX6_chargeRent_100 : decode cX6_chargeRent 100 = .ok (.iload_n 3, 1) := by decide +kernel
theorem dX6_chargeRent_101 : decode cX6_chargeRent 101 = .ok (.iconst 1, 1) := by decide +kernel
theorem dX6_chargeRent_102 : decode cX6_chargeRent 102 = .ok (.iadd, 1) := by decide +kernel
theorem dX6_chargeRent_103 : decode cX6_chargeRent 103 = .ok (.goto 4, 3) := by decide +kernel
theorem dX6_chargeRent_106 : decode cX6_chargeRent 106 = .ok (.iload_n 3, 1) := by decide +kernel
theorem dX6_chargeRent_107 : decode cX6_chargeRent 107 = .ok (.invokevirtual 208, 3) := by decide +kernel
theorem dX6_chargeRent_110 : decode cX6_chargeRent 110 = .ok (.istore 7, 2) := by decide +kernel
theorem dX6_chargeRent_112 : decode cX6_chargeRent 112 = .ok (.aload_n 0, 1) := by decide +kernel
theorem dX6_chargeRent_113 : decode cX6_chargeRent 113 = .ok (.getfield 11, 3) := by decide +kernel
theorem dX6_chargeRent_116 : decode cX6_chargeRent 116 = .ok (.iload 6, 2) := by decide +kernel
theorem dX6_chargeRent_118 : decode cX6_chargeRent 118 = .ok (.aaload, 1) := by decide +kernel
theorem dX6_chargeRent_119 : decode cX6_chargeRent 119 = .ok (.dup, 1) := by decide +kernel
theorem dX6_chargeRent_120 : decode cX6_chargeRent 120 = .ok (.getfield 214, 3) := by decide +kernel
theorem dX6_chargeRent_123 : decode cX6_chargeRent 123 = .ok (.iload 7, 2) := by decide +kernel
theorem dX6_chargeRent_125 : decode cX6_chargeRent 125 = .ok (.iadd, 1) := by decide +kernel
theorem dX6_chargeRent_126 : decode cX6_chargeRent 126 = .ok (.putfield 214, 3) := by decide +kernel
theorem dX6_chargeRent_129 : decode cX6_chargeRent 129 = .ok (.aload_n 0, 1) := by decide +kernel
theorem dX6_chargeRent_130 : decode cX6_chargeRent 130 = .ok (.dup, 1) := by decide +kernel
theorem dX6_chargeRent_131 : decode cX6_chargeRent 131 = .ok (.getfield 59, 3) := by decide +kernel
theorem dX6_chargeRent_134 : decode cX6_chargeRent 134 = .ok (.iload 7, 2) := by decide +kernel
theorem dX6_chargeRent_136 : decode cX6_chargeRent 136 = .ok (.iadd, 1) := by decide +kernel
theorem dX6_chargeRent_137 : decode cX6_chargeRent 137 = .ok (.putfield 59, 3) := by decide +kernel
theorem dX6_chargeRent_140 : decode cX6_chargeRent 140 = .ok (.iinc 5 1, 3) := by decide +kernel
theorem dX6_chargeRent_143 : decode cX6_chargeRent 143 = .ok (.goto (-86), 3) := by decide +kernel
theorem dX6_chargeRent_146 : decode cX6_chargeRent 146 = .ok (.return_, 1) := by decide +kernel
theorem dX6_takeFrom_0 : decode cX6_takeFrom 0 = .ok (.aload_n 0, 1) := by decide +kernel
theorem dX6_takeFrom_1 : decode cX6_takeFrom 1 = .ok (.getfield 11, 3) := by decide +kernel
theorem dX6_takeFrom_4 : decode cX6_takeFrom 4 = .ok (.iload_n 1, 1) := by decide +kernel
theorem dX6_takeFrom_5 : decode cX6_takeFrom 5 = .ok (.aaload, 1) := by decide +kernel
theorem dX6_takeFrom_6 : decode cX6_takeFrom 6 = .ok (.astore_n 3, 1) := by decide +kernel
theorem dX6_takeFrom_7 : decode cX6_takeFrom 7 = .ok (.iload_n 2, 1) := by decide +kernel
theorem dX6_takeFrom_8 : decode cX6_takeFrom 8 = .ok (.aload_n 3, 1) := by decide +kernel
theorem dX6_takeFrom_9 : decode cX6_takeFrom 9 = .ok (.getfield 107, 3) := by decide +kernel
theorem dX6_takeFrom_12 : decode cX6_takeFrom 12 = .ok (.if_icmp .gt 15, 3) := by decide +kernel
theorem dX6_takeFrom_15 : decode cX6_takeFrom 15 = .ok (.aload_n 3, 1) := by decide +kernel
theorem dX6_takeFrom_16 : decode cX6_takeFrom 16 = .ok (.dup, 1) := by decide +kernel
theorem dX6_takeFrom_17 : decode cX6_takeFrom 17 = .ok (.getfield 107, 3) := by decide +kernel
theorem dX6_takeFrom_20 : decode cX6_takeFrom 20 = .ok (.iload_n 2, 1) := by decide +kernel
theorem dX6_takeFrom_21 : decode cX6_takeFrom 21 = .ok (.isub, 1) := by decide +kernel
theorem dX6_takeFrom_22 : decode cX6_takeFrom 22 = .ok (.putfield 107, 3) := by decide +kernel
theorem dX6_takeFrom_25 : decode cX6_takeFrom 25 = .ok (.iload_n 2, 1) := by decide +kernel
theorem dX6_takeFrom_26 : decode cX6_takeFrom 26 = .ok (.ireturn, 1) := by decide +kernel
theorem dX6_takeFrom_27 : decode cX6_takeFrom 27 = .ok (.aload_n 3, 1) := by decide +kernel
theorem dX6_takeFrom_28 : decode cX6_takeFrom 28 = .ok (.getfield 107, 3) := by decide +kernel
theorem dX6_takeFrom_31 : decode cX6_takeFrom 31 = .ok (.istore 4, 2) := by decide +kernel
theorem dX6_takeFrom_33 : decode cX6_takeFrom 33 = .ok (.aload_n 3, 1) := by decide +kernel
theorem dX6_takeFrom_34 : decode cX6_takeFrom 34 = .ok (.iconst 0, 1) := by decide +kernel
theorem dX6_takeFrom_35 : decode cX6_takeFrom 35 = .ok (.putfield 107, 3) := by decide +kernel
theorem dX6_takeFrom_38 : decode cX6_takeFrom 38 = .ok (.aload_n 0, 1) := by decide +kernel
theorem dX6_takeFrom_39 : decode cX6_takeFrom 39 = .ok (.iload_n 1, 1) := by decide +kernel
theorem dX6_takeFrom_40 : decode cX6_takeFrom 40 = .ok (.invokevirtual 217, 3) := by decide +kernel
theorem dX6_takeFrom_43 : decode cX6_takeFrom 43 = .ok (.iload 4, 2) := by decide +kernel
theorem dX6_takeFrom_45 : decode cX6_takeFrom 45 = .ok (.ireturn, 1) := by decide +kernel
theorem dX6_goBankrupt_0 : decode cX6_goBankrupt 0 = .ok (.aload_n 0, 1) := by decide +kernel
theorem dX6_goBankrupt_1 : decode cX6_goBankrupt 1 = .ok (.getfield 11, 3) := by decide +kernel
theorem dX6_goBankrupt_4 : decode cX6_goBankrupt 4 = .ok (.iload_n 1, 1) := by decide +kernel
theorem dX6_goBankrupt_5 : decode cX6_goBankrupt 5 = .ok (.aaload, 1) := by decide +kernel
theorem dX6_goBankrupt_6 : decode cX6_goBankrupt 6 = .ok (.iconst 1, 1) := by decide +kernel
theorem dX6_goBankrupt_7 : decode cX6_goBankrupt 7 = .ok (.putfield 103, 3) := by decide +kernel
theorem dX6_goBankrupt_10 : decode cX6_goBankrupt 10 = .ok (.iconst 0, 1) := by decide +kernel
theorem dX6_goBankrupt_11 : decode cX6_goBankrupt 11 = .ok (.istore_n 2, 1) := by decide +kernel
theorem dX6_goBankrupt_12 : decode cX6_goBankrupt 12 = .ok (.iload_n 2, 1) := by decide +kernel
theorem dX6_goBankrupt_13 : decode cX6_goBankrupt 13 = .ok (.aload_n 0, 1) := by decide +kernel
theorem dX6_goBankrupt_14 : decode cX6_goBankrupt 14 = .ok (.getfield 50, 3) := by decide +kernel
theorem dX6_goBankrupt_17 : decode cX6_goBankrupt 17 = .ok (.if_icmp .ge 19, 3) := by decide +kernel
theorem dX6_goBankrupt_20 : decode cX6_goBankrupt 20 = .ok (.aload_n 0, 1) := by decide +kernel
theorem dX6_goBankrupt_21 : decode cX6_goBankrupt 21 = .ok (.getfield 19, 3) := by decide +kernel
theorem dX6_goBankrupt_24 : decode cX6_goBankrupt 24 = .ok (.iload_n 2, 1) := by decide +kernel
theorem dX6_goBankrupt_25 : decode cX6_goBankrupt 25 = .ok (.aaload, 1) := by decide +kernel
theorem dX6_goBankrupt_26 : decode cX6_goBankrupt 26 = .ok (.iload_n 1, 1) := by decide +kernel
theorem dX6_goBankrupt_27 : decode cX6_goBankrupt 27 = .ok (.invokevirtual 173, 3) := by decide +kernel
theorem dX6_goBankrupt_30 : decode cX6_goBankrupt 30 = .ok (.iinc 2 1, 3) := by decide +kernel
theorem dX6_goBankrupt_33 : decode cX6_goBankrupt 33 = .ok (.goto (-21), 3) := by decide +kernel
theorem dX6_goBankrupt_36 : decode cX6_goBankrupt 36 = .ok (.iconst 0, 1) := by decide +kernel
theorem dX6_goBankrupt_37 : decode cX6_goBankrupt 37 = .ok (.istore_n 2, 1) := by decide +kernel
theorem dX6_goBankrupt_38 : decode cX6_goBankrupt 38 = .ok (.iload_n 2, 1) := by decide +kernel
theorem dX6_goBankrupt_39 : decode cX6_goBankrupt 39 = .ok (.aload_n 0, 1) := by decide +kernel
theorem dX6_goBankrupt_40 : decode cX6_goBankrupt 40 = .ok (.getfield 53, 3) := by decide +kernel
theorem dX6_goBankrupt_43 : decode cX6_goBankrupt 43 = .ok (.if_icmp .ge 45, 3) := by decide +kernel
theorem dX6_goBankrupt_46 : decode cX6_goBankrupt 46 = .ok (.aload_n 0, 1) := by decide +kernel
theorem dX6_goBankrupt_47 : decode cX6_goBankrupt 47 = .ok (.getfield 25, 3) := by decide +kernel
theorem dX6_goBankrupt_50 : decode cX6_goBankrupt 50 = .ok (.iload_n 2, 1) := by decide +kernel
theorem dX6_goBankrupt_51 : decode cX6_goBankrupt 51 = .ok (.aaload, 1) := by decide +kernel
theorem dX6_goBankrupt_52 : decode cX6_goBankrupt 52 = .ok (.getfield 100, 3) := by decide +kernel
theorem dX6_goBankrupt_55 : decode cX6_goBankrupt 55 = .ok (.iconst 1, 1) := by decide +kernel
theorem dX6_goBankrupt_56 : decode cX6_goBankrupt 56 = .ok (.if_icmp .ne 26, 3) := by decide +kernel
theorem dX6_goBankrupt_59 : decode cX6_goBankrupt 59 = .ok (.aload_n 0, 1) := by decide +kernel
theorem dX6_goBankrupt_60 : decode cX6_goBankrupt 60 = .ok (.getfield 25, 3) := by decide +kernel
theorem dX6_goBankrupt_63 : decode cX6_goBankrupt 63 = .ok (.iload_n 2, 1) := by decide +kernel
theorem dX6_goBankrupt_64 : decode cX6_goBankrupt 64 = .ok (.aaload, 1) := by decide +kernel
theorem dX6_goBankrupt_65 : decode cX6_goBankrupt 65 = .ok (.getfield 121, 3) := by decide +kernel
theorem dX6_goBankrupt_68 : decode cX6_goBankrupt 68 = .ok (.iload_n 1, 1) := by decide +kernel
theorem dX6_goBankrupt_69 : decode cX6_goBankrupt 69 = .ok (.if_icmp .ne 13, 3) := by decide +kernel
theorem dX6_goBankrupt_72 : decode cX6_goBankrupt 72 = .ok (.aload_n 0, 1) := by decide +kernel
theorem dX6_goBankrupt_73 : decode cX6_goBankrupt 73 = .ok (.aload_n 0, 1) := by decide +kernel
theorem dX6_goBankrupt_74 : decode cX6_goBankrupt 74 = .ok (.getfield 25, 3) := by decide +kernel
theorem dX6_goBankrupt_77 : decode cX6_goBankrupt 77 = .ok (.iload_n 2, 1) := by decide +kernel
theorem dX6_goBankrupt_78 : decode cX6_goBankrupt 78 = .ok (.aaload, 1) := by decide +kernel
theorem dX6_goBankrupt_79 : decode cX6_goBankrupt 79 = .ok (.invokevirtual 147, 3) := by decide +kernel
theorem dX6_goBankrupt_82 : decode cX6_goBankrupt 82 = .ok (.iinc 2 1, 3) := by decide +kernel
theorem dX6_goBankrupt_85 : decode cX6_goBankrupt 85 = .ok (.goto (-47), 3) := by decide +kernel
theorem dX6_goBankrupt_88 : decode cX6_goBankrupt 88 = .ok (.return_, 1) := by decide +kernel
theorem dX7_init_0 : decode cX7_init 0 = .ok (.aload_n 0, 1) := by decide +kernel
theorem dX7_init_1 : decode cX7_init 1 = .ok (.invokespecial 1, 3) := by decide +kernel
theorem dX7_init_4 : decode cX7_init 4 = .ok (.aload_n 0, 1) := by decide +kernel
theorem dX7_init_5 : decode cX7_init 5 = .ok (.sipush 700, 3) := by decide +kernel
theorem dX7_init_8 : decode cX7_init 8 = .ok (.newarray .byte, 2) := by decide +kernel
theorem dX7_init_10 : decode cX7_init 10 = .ok (.putfield 9, 3) := by decide +kernel
theorem dX7_init_13 : decode cX7_init 13 = .ok (.aload_n 0, 1) := by decide +kernel
theorem dX7_init_14 : decode cX7_init 14 = .ok (.iconst 0, 1) := by decide +kernel
theorem dX7_init_15 : decode cX7_init 15 = .ok (.putfield 13, 3) := by decide +kernel
theorem dX7_init_18 : decode cX7_init 18 = .ok (.aload_n 0, 1) := by decide +kernel
theorem dX7_init_19 : decode cX7_init 19 = .ok (.iconst (-1), 1) := by decide +kernel
theorem dX7_init_20 : decode cX7_init 20 = .ok (.putfield 17, 3) := by decide +kernel
theorem dX7_init_23 : decode cX7_init 23 = .ok (.aload_n 0, 1) := by decide +kernel
theorem dX7_init_24 : decode cX7_init 24 = .ok (.new 20, 3) := by decide +kernel
theorem dX7_init_27 : decode cX7_init 27 = .ok (.dup, 1) := by decide +kernel
theorem dX7_init_28 : decode cX7_init 28 = .ok (.invokespecial 22, 3) := by decide +kernel
theorem dX7_init_31 : decode cX7_init 31 = .ok (.putfield 23, 3) := by decide +kernel
theorem dX7_init_34 : decode cX7_init 34 = .ok (.aload_n 0, 1) := by decide +kernel
theorem dX7_init_35 : decode cX7_init 35 = .ok (.new 27, 3) := by decide +kernel
theorem dX7_init_38 : decode cX7_init 38 = .ok (.dup, 1) := by decide +kernel
theorem dX7_init_39 : decode cX7_init 39 = .ok (.invokespecial 29, 3) := by decide +kernel
theorem dX7_init_42 : decode cX7_init 42 = .ok (.putfield 30, 3) := by decide +kernel
theorem dX7_init_45 : decode cX7_init 45 = .ok (.aload_n 0, 1) := by decide +kernel
theorem dX7_init_46 : decode cX7_init 46 = .ok (.new 34, 3) := by decide +kernel
theorem dX7_init_49 : decode cX7_init 49 = .ok (.dup, 1) := by decide +kernel
theorem dX7_init_50 : decode cX7_init 50 = .ok (.invokespecial 36, 3) := by decide +kernel
theorem dX7_init_53 : decode cX7_init 53 = .ok (.putfield 37, 3) := by decide +kernel
theorem dX7_init_56 : decode cX7_init 56 = .ok (.aload_n 0, 1) := by decide +kernel
theorem dX7_init_57 : decode cX7_init 57 = .ok (.new 34, 3) := by decide +kernel
theorem dX7_init_60 : decode cX7_init 60 = .ok (.dup, 1) := by decide +kernel
theorem dX7_init_61 : decode cX7_init 61 = .ok (.invokespecial 36, 3) := by decide +kernel
theorem dX7_init_64 : decode cX7_init 64 = .ok (.putfield 41, 3) := by decide +kernel
theorem dX7_init_67 : decode cX7_init 67 = .ok (.aload_n 0, 1) := by decide +kernel
theorem dX7_init_68 : decode cX7_init 68 = .ok (.bipush 8, 2) := by decide +kernel
theorem dX7_init_70 : decode cX7_init 70 = .ok (.anewarray 34, 3) := by decide +kernel
theorem dX7_init_73 : decode cX7_init 73 = .ok (.putfield 44, 3) := by decide +kernel
theorem dX7_init_76 : decode cX7_init 76 = .ok (.iconst 0, 1) := by decide +kernel
theorem dX7_init_77 : decode cX7_init 77 = .ok (.istore_n 1, 1) := by decide +kernel
theorem dX7_init_78 : decode cX7_init 78 = .ok (.iload_n 1, 1) := by decide +kernel
theorem dX7_init_79 : decode cX7_init 79 = .ok (.aload_n 0, 1) := by decide +kernel
theorem dX7_init_80 : decode cX7_init 80 = .ok (.getfield 44, 3) := by decide +kernel
theorem dX7_init_83 : decode cX7_init 83 = .ok (.arraylength, 1) := by decide +kernel
theorem dX7_init_84 : decode cX7_init 84 = .ok (.if_icmp .ge 22, 3) := by decide +kernel
theorem dX7_init_87 : decode cX7_init 87 = .ok (.aload_n 0, 1) := by decide +kernel
theorem dX7_init_88 : decode cX7_init 88 = .ok (.getfield 44, 3) := by decide +kernel
theorem dX7_init_91 : decode cX7_init 91 = .ok (.iload_n 1, 1) := by decide +kernel
theorem dX7_init_92 : decode cX7_init 92 = .ok (.new 34, 3) := by decide +kernel
theorem dX7_init_95 : decode cX7_init 95 = .ok (.dup, 1) := by decide +kernel
theorem dX7_init_96 : decode cX7_init 96 = .ok (.invokespecial 36, 3) := by decide +kernel
theorem dX7_init_99 : decode cX7_init 99 = .ok (.aastore, 1) := by decide +kernel
theorem dX7_init_100 : decode cX7_init 100 = .ok (.iinc 1 1, 3) := by decide +kernel
theorem dX7_init_103 : decode cX7_init 103 = .ok (.goto (-25), 3) := by decide +kernel
theorem dX7_init_106 : decode cX7_init 106 = .ok (.aload_n 0, 1) := by decide +kernel
theorem dX7_init_107 : decode cX7_init 107 = .ok (.iconst 0, 1) := by decide +kernel
theorem dX7_init_108 : decode cX7_init 108 = .ok (.putfield 48, 3) := by decide +kernel
theorem dX7_init_111 : decode cX7_init 111 = .ok (.aload_n 0, 1) := by decide +kernel
theorem dX7_init_112 : decode cX7_init 112 = .ok (.iconst 0, 1) := by decide +kernel
theorem dX7_init_113 : decode cX7_init 113 = .ok (.putfield 51, 3) := by decide +kernel
theorem dX7_init_116 : decode cX7_init 116 = .ok (.return_, 1) := by decide +kernel
theorem dX7_append_0 : decode cX7_append 0 = .ok (.aload_n 0, 1) := by decide +kernel
theorem dX7_append_1 : decode cX7_append 1 = .ok (.getfield 13, 3) := by decide +kernel
theorem dX7_append_4 : decode cX7_append 4 = .ok (.sipush 680, 3) := by decide +kernel
theorem dX7_append_7 : decode cX7_append 7 = .ok (.if_icmp .le 5, 3) := by decide +kernel
theorem dX7_append_10 : decode cX7_append 10 = .ok (.iconst (-1), 1) := by decide +kernel
theorem dX7_append_11 : decode cX7_append 11 = .ok (.ireturn, 1) := by decide +kernel
theorem dX7_append_12 : decode cX7_append 12 = .ok (.aload_n 0, 1) := by decide +kernel
theorem dX7_append_13 : decode cX7_append 13 = .ok (.iload_n 1, 1) := by decide +kernel
theorem dX7_append_14 : decode cX7_append 14 = .ok (.invokevirtual 54, 3) := by decide +kernel
theorem dX7_append_17 : decode cX7_append 17 = .ok (.aload_n 0, 1) := by decide +kernel
theorem dX7_append_18 : decode cX7_append 18 = .ok (.iload_n 2, 1) := by decide +kernel
theorem dX7_append_19 : decode cX7_append 19 = .ok (.invokevirtual 54, 3) := by decide +kernel
theorem dX7_append_22 : decode cX7_append 22 = .ok (.aload_n 0, 1) := by decide +kernel
theorem dX7_append_23 : decode cX7_append 23 = .ok (.iload_n 3, 1) := by decide +kernel
theorem dX7_append_24 : decode cX7_append 24 = .ok (.invokevirtual 54, 3) := by decide +kernel
theorem dX7_append_27 : decode cX7_append 27 = .ok (.aload_n 0, 1) := by decide +kernel
theorem dX7_append_28 : decode cX7_append 28 = .ok (.iload 4, 2) := by decide +kernel
theorem dX7_append_30 : decode cX7_append 30 = .ok (.invokevirtual 54, 3) := by decide +kernel
theorem dX7_append_33 : decode cX7_append 33 = .ok (.aload_n 0, 1) := by decide +kernel
theorem dX7_append_34 : decode cX7_append 34 = .ok (.iload 5, 2) := by decide +kernel
theorem dX7_append_36 : decode cX7_append 36 = .ok (.invokevirtual 54, 3) := by decide +kernel
theorem dX7_append_39 : decode cX7_append 39 = .ok (.aload_n 0, 1) := by decide +kernel
theorem dX7_append_40 : decode cX7_append 40 = .ok (.getfield 13, 3) := by decide +kernel
theorem dX7_append_43 : decode cX7_append 43 = .ok (.ireturn, 1) := by decide +kernel
theorem dX7_putBytes_0 : decode cX7_putBytes 0 = .ok (.bipush 24, 2) := by decide +kernel
theorem dX7_putBytes_2 : decode cX7_putBytes 2 = .ok (.istore_n 2, 1) := by decide +kernel
theorem dX7_putBytes_3 : decode cX7_putBytes 3 = .ok (.iload_n 2, 1) := by decide +kernel
theorem dX7_putBytes_4 : decode cX7_putBytes 4 = .ok (.ifCond .lt 44, 3) := by decide +kernel
theorem dX7_putBytes_7 : decode cX7_putBytes 7 = .ok (.aload_n 0, 1) := by decide +kernel
theorem dX7_putBytes_8 : decode cX7_putBytes 8 = .ok (.getfield 13, 3) := by decide +kernel
theorem dX7_putBytes_11 : decode cX7_putBytes 11 = .ok (.aload_n 0, 1) := by decide +kernel
theorem dX7_putBytes_12 : decode cX7_putBytes 12 = .ok (.getfield 9, 3) := by decide +kernel
theorem dX7_putBytes_15 : decode cX7_putBytes 15 = .ok (.arraylength, 1) := by decide +kernel
theorem dX7_putBytes_16 : decode cX7_putBytes 16 = .ok (.if_icmp .ge 32, 3) := by decide +kernel
theorem dX7_putBytes_19 : decode cX7_putBytes 19 = .ok (.aload_n 0, 1) := by decide +kernel
theorem dX7_putBytes_20 : decode cX7_putBytes 20 = .ok (.getfield 9, 3) := by decide +kernel
theorem dX7_putBytes_23 : decode cX7_putBytes 23 = .ok (.aload_n 0, 1) := by decide +kernel
theorem dX7_putBytes_24 : decode cX7_putBytes 24 = .ok (.getfield 13, 3) := by decide +kernel
theorem dX7_putBytes_27 : decode cX7_putBytes 27 = .ok (.iload_n 1, 1) := by decide +kernel
theorem dX7_putBytes_28 : decode cX7_putBytes 28 = .ok (.iload_n 2, 1) := by decide +kernel
theorem dX7_putBytes_29 : decode cX7_putBytes 29 = .ok (.iushr, 1) := by decide +kernel
theorem dX7_putBytes_30 : decode cX7_putBytes 30 = .ok (.i2b, 1) := by decide +kernel
theorem dX7_putBytes_31 : decode cX7_putBytes 31 = .ok (.bastore, 1) := by decide +kernel
theorem dX7_putBytes_32 : decode cX7_putBytes 32 = .ok (.aload_n 0, 1) := by decide +kernel
theorem dX7_putBytes_33 : decode cX7_putBytes 33 = .ok (.dup, 1) := by decide +kernel
theorem dX7_putBytes_34 : decode cX7_putBytes 34 = .ok (.getfield 13, 3) := by decide +kernel
theorem dX7_putBytes_37 : decode cX7_putBytes 37 = .ok (.iconst 1, 1) := by decide +kernel
theorem dX7_putBytes_38 : decode cX7_putBytes 38 = .ok (.iadd, 1) := by decide +kernel
theorem dX7_putBytes_39 : decode cX7_putBytes 39 = .ok (.putfield 13, 3) := by decide +kernel
theorem dX7_putBytes_42 : decode cX7_putBytes 42 = .ok (.iinc 2 (-8), 3) := by decide +kernel
theorem dX7_putBytes_45 : decode cX7_putBytes 45 = .ok (.goto (-42), 3) := by decide +kernel
theorem dX7_putBytes_48 : decode cX7_putBytes 48 = .ok (.return_, 1) := by decide +kernel
theorem dX7_load_0 : decode cX7_load 0 = .ok (.iload_n 1, 1) := by decide +kernel
theorem dX7_load_1 : decode cX7_load 1 = .ok (.ifCond .lt 11, 3) := by decide +kernel
theorem dX7_load_4 : decode cX7_load 4 = .ok (.iload_n 1, 1) := by decide +kernel
theorem dX7_load_5 : decode cX7_load 5 = .ok (.aload_n 0, 1) := by decide +kernel
theorem dX7_load_6 : decode cX7_load 6 = .ok (.getfield 13, 3) := by decide +kernel
theorem dX7_load_9 : decode cX7_load 9 = .ok (.if_icmp .le 13, 3) := by decide +kernel
theorem dX7_load_12 : decode cX7_load 12 = .ok (.new 58, 3) := by decide +kernel
theorem dX7_load_15 : decode cX7_load 15 = .ok (.dup, 1) := by decide +kernel
theorem dX7_load_16 : decode cX7_load 16 = .ok (.ldc 60, 2) := by decide +kernel
theorem dX7_load_18 : decode cX7_load 18 = .ok (.invokespecial 62, 3) := by decide +kernel
theorem dX7_load_21 : decode cX7_load 21 = .ok (.athrow, 1) := by decide +kernel
theorem dX7_load_22 : decode cX7_load 22 = .ok (.aload_n 0, 1) := by decide +kernel
theorem dX7_load_23 : decode cX7_load 23 = .ok (.iconst 0, 1) := by decide +kernel
theorem dX7_load_24 : decode cX7_load 24 = .ok (.putfield 13, 3) := by decide +kernel
theorem dX7_load_27 : decode cX7_load 27 = .ok (.aload_n 0, 1) := by decide +kernel
theorem dX7_load_28 : decode cX7_load 28 = .ok (.getfield 23, 3) := by decide +kernel
theorem dX7_load_31 : decode cX7_load 31 = .ok (.aload_n 0, 1) := by decide +kernel
theorem dX7_load_32 : decode cX7_load 32 = .ok (.getfield 9, 3) := by decide +kernel
theorem dX7_load_35 : decode cX7_load 35 = .ok (.iload_n 1, 1) := by decide +kernel
theorem dX7_load_36 : decode cX7_load 36 = .ok (.invokevirtual 65, 3) := by decide +kernel
theorem dX7_load_39 : decode cX7_load 39 = .ok (.aload_n 0, 1) := by decide +kernel
theorem dX7_load_40 : decode cX7_load 40 = .ok (.getfield 30, 3) := by decide +kernel
theorem dX7_load_43 : decode cX7_load 43 = .ok (.aload_n 0, 1) := by decide +kernel
theorem dX7_load_44 : decode cX7_load 44 = .ok (.getfield 23, 3) := by decide +kernel
theorem dX7_load_47 : decode cX7_load 47 = .ok (.aload_n 0, 1) := by decide +kernel
theorem dX7_load_48 : decode cX7_load 48 = .ok (.getfield 41, 3) := by decide +kernel
theorem dX7_load_51 : decode cX7_load 51 = .ok (.invokevirtual 69, 3) := by decide +kernel
theorem dX7_load_54 : decode cX7_load 54 = .ok (.ifCond .ne 22, 3) := by decide +kernel
theorem dX7_load_57 : decode cX7_load 57 = .ok (.aload_n 0, 1) := by decide +kernel
theorem dX7_load_58 : decode cX7_load 58 = .ok (.aload_n 0, 1) := by decide +kernel
theorem dX7_load_59 : decode cX7_load 59 = .ok (.getfield 30, 3) := by decide +kernel
theorem dX7_load_62 : decode cX7_load 62 = .ok (.getfield 73, 3) := by decide +kernel
theorem dX7_load_65 : decode cX7_load 65 = .ok (.putfield 17, 3) := by decide +kernel
theorem dX7_load_68 : decode cX7_load 68 = .ok (.aload_n 0, 1) := by decide +kernel
theorem dX7_load_69 : decode cX7_load 69 = .ok (.getfield 30, 3) := by decide +kernel
theorem dX7_load_72 : decode cX7_load 72 = .ok (.getfield 74, 3) := by decide +kernel
theorem dX7_load_75 : decode cX7_load 75 = .ok (.ireturn, 1) := by decide +kernel
theorem dX7_load_76 : decode cX7_load 76 = .ok (.aload_n 0, 1) := by decide +kernel
theorem dX7_load_77 : decode cX7_load 77 = .ok (.iconst (-1), 1) := by decide +kernel
theorem dX7_load_78 : decode cX7_load 78 = .ok (.putfield 17, 3) := by decide +kernel
theorem dX7_load_81 : decode cX7_load 81 = .ok (.aload_n 0, 1) := by decide +kernel
theorem dX7_load_82 : decode cX7_load 82 = .ok (.invokevirtual 77, 3) := by decide +kernel
theorem dX7_load_85 : decode cX7_load 85 = .ok (.aload_n 0, 1) := by decide +kernel
theorem dX7_load_86 : decode cX7_load 86 = .ok (.getfield 37, 3) := by decide +kernel
theorem dX7_load_89 : decode cX7_load 89 = .ok (.aload_n 0, 1) := by decide +kernel
theorem dX7_load_90 : decode cX7_load 90 = .ok (.getfield 41, 3) := by decide +kernel
theorem dX7_load_93 : decode cX7_load 93 = .ok (.invokevirtual 80, 3) := by decide +kernel
theorem dX7_load_96 : decode cX7_load 96 = .ok (.aload_n 0, 1) := by decide +kernel
theorem dX7_load_97 : decode cX7_load 97 = .ok (.getfield 37, 3) := by decide +kernel
theorem dX7_load_100 : decode cX7_load 100 = .ok (.getfield 84, 3) := by decide +kernel
theorem dX7_load_103 : decode cX7_load 103 = .ok (.ireturn, 1) := by decide +kernel
theorem dX7_errorOffset_0 : decode cX7_errorOffset 0 = .ok (.aload_n 0, 1) := by decide +kernel
theorem dX7_errorOffset_1 : decode cX7_errorOffset 1 = .ok (.getfield 17, 3) := by decide +kernel
theorem dX7_errorOffset_4 : decode cX7_errorOffset 4 = .ok (.ireturn, 1) := by decide +kernel
theorem dX7_state_0 : decode cX7_state 0 = .ok (.iload_n 1, 1) := by decide +kernel
theorem dX7_state_1 : decode cX7_state 1 = .ok (.tableswitch 138 0 9 #[55, 63, 71, 79, 87, 95, 104, 113, 122, 130], 55) := by decide +kernel
theorem dX7_state_56 : decode cX7_state 56 = .ok (.aload_n 0, 1) := by decide +kernel
theorem dX7_state_57 : decode cX7_state 57 = .ok (.getfield 37, 3) := by decide +kernel
theorem dX7_state_60 : decode cX7_state 60 = .ok (.getfield 87, 3) := by decide +kernel
theorem dX7_state_63 : decode cX7_state 63 = .ok (.ireturn, 1) := by decide +kernel
theorem dX7_state_64 : decode cX7_state 64 = .ok (.aload_n 0, 1) := by decide +kernel
theorem dX7_state_65 : decode cX7_state 65 = .ok (.getfield 37, 3) := by decide +kernel
theorem dX7_state_68 : decode cX7_state 68 = .ok (.getfield 90, 3) := by decide +kernel
theorem dX7_state_71 : decode cX7_state 71 = .ok (.ireturn, 1) := by decide +kernel
theorem dX7_state_72 : decode cX7_state 72 = .ok (.aload_n 0, 1) := by decide +kernel
theorem dX7_state_73 : decode cX7_state 73 = .ok (.getfield 37, 3) := by decide +kernel
theorem dX7_state_76 : decode cX7_state 76 = .ok (.getfield 93, 3) := by decide +kernel
theorem dX7_state_79 : decode cX7_state 79 = .ok (.ireturn, 1) := by decide +kernel
theorem dX7_state_80 : decode cX7_state 80 = .ok (.aload_n 0, 1) := by decide +kernel
theorem dX7_state_81 : decode cX7_state 81 = .ok (.getfield 37, 3) := by decide +kernel
theorem dX7_state_84 : decode cX7_state 84 = .ok (.getfield 84, 3) := by decide +kernel
theorem dX7_state_87 : decode cX7_state 87 = .ok (.ireturn, 1) := by decide +kernel
theorem dX7_state_88 : decode cX7_state 88 = .ok (.aload_n 0, 1) := by decide +kernel
theorem dX7_state_89 : decode cX7_state 89 = .ok (.getfield 37, 3) := by decide +kernel
theorem dX7_state_92 : decode cX7_state 92 = .ok (.getfield 96, 3) := by decide +kernel
theorem dX7_state_95 : decode cX7_state 95 = .ok (.ireturn, 1) := by decide +kernel
theorem dX7_state_96 : decode cX7_state 96 = .ok (.aload_n 0, 1) := by decide +kernel
theorem dX7_state_97 : decode cX7_state 97 = .ok (.getfield 37, 3) := by decide +kernel
theorem dX7_state_100 : decode cX7_state 100 = .ok (.iconst 1, 1) := by decide +kernel
theorem dX7_state_101 : decode cX7_state 101 = .ok (.invokevirtual 99, 3) := by decide +kernel
theorem dX7_state_104 : decode cX7_state 104 = .ok (.ireturn, 1) := by decide +kernel
theorem dX7_state_105 : decode cX7_state 105 = .ok (.aload_n 0, 1) := by decide +kernel
theorem dX7_state_106 : decode cX7_state 106 = .ok (.getfield 37, 3) := by decide +kernel
theorem dX7_state_109 : decode cX7_state 109 = .ok (.iconst 2, 1) := by decide +kernel
theorem dX7_state_110 : decode cX7_state 110 = .ok (.invokevirtual 99, 3) := by decide +kernel
theorem dX7_state_113 : decode cX7_state 113 = .ok (.ireturn, 1) := by decide +kernel
theorem dX7_state_114 : decode cX7_state 114 = .ok (.aload_n 0, 1) := by decide +kernel
theorem dX7_state_115 : decode cX7_state 115 = .ok (.getfield 37, 3) := by decide +kernel
theorem dX7_state_118 : decode cX7_state 118 = .ok (.iconst 3, 1) := by decide +kernel
theorem dX7_state_119 : decode cX7_state 119 = .ok (.invokevirtual 99, 3) := by decide +kernel
theorem dX7_state_122 : decode cX7_state 122 = .ok (.ireturn, 1) := by decide +kernel
theorem dX7_state_123 : decode cX7_state 123 = .ok (.aload_n 0, 1) := by decide +kernel
theorem dX7_state_124 : decode cX7_state 124 = .ok (.getfield 37, 3) := by decide +kernel
theorem dX7_state_127 : decode cX7_state 127 = .ok (.invokevirtual 103, 3) := by decide +kernel
theorem dX7_state_130 : decode cX7_state 130 = .ok (.ireturn, 1) := by decide +kernel
theorem dX7_state_131 : decode cX7_state 131 = .ok (.aload_n 0, 1) := by decide +kernel
theorem dX7_state_132 : decode cX7_state 132 = .ok (.getfield 37, 3) := by decide +kernel
theorem dX7_state_135 : decode cX7_state 135 = .ok (.invokevirtual 107, 3) := by decide +kernel
theorem dX7_state_138 : decode cX7_state 138 = .ok (.ireturn, 1) := by decide +kernel
theorem dX7_state_139 : decode cX7_state 139 = .ok (.new 58, 3) := by decide +kernel
theorem dX7_state_142 : decode cX7_state 142 = .ok (.dup, 1) := by decide +kernel
theorem dX7_state_143 : decode cX7_state 143 = .ok (.ldc 110, 2) := by decide +kernel
theorem dX7_state_145 : decode cX7_state 145 = .ok (.invokespecial 62, 3) := by decide +kernel
theorem dX7_state_148 : decode cX7_state 148 = .ok (.athrow, 1) := by decide +kernel
theorem dX7_handler_0 : decode cX7_handler 0 = .ok (.aload_n 0, 1) := by decide +kernel
theorem dX7_handler_1 : decode cX7_handler 1 = .ok (.getfield 37, 3) := by decide +kernel
theorem dX7_handler_4 : decode cX7_handler 4 = .ok (.iload_n 1, 1) := by decide +kernel
theorem dX7_handler_5 : decode cX7_handler 5 = .ok (.invokevirtual 112, 3) := by decide +kernel
theorem dX7_handler_8 : decode cX7_handler 8 = .ok (.ifCond .ne 13, 3) := by decide +kernel
theorem dX7_handler_11 : decode cX7_handler 11 = .ok (.new 116, 3) := by decide +kernel
theorem dX7_handler_14 : decode cX7_handler 14 = .ok (.dup, 1) := by decide +kernel
theorem dX7_handler_15 : decode cX7_handler 15 = .ok (.ldc 118, 2) := by decide +kernel
theorem dX7_handler_17 : decode cX7_handler 17 = .ok (.invokespecial 120, 3) := by decide +kernel
theorem dX7_handler_20 : decode cX7_handler 20 = .ok (.athrow, 1) := by decide +kernel
theorem dX7_handler_21 : decode cX7_handler 21 = .ok (.aload_n 0, 1) := by decide +kernel
theorem dX7_handler_22 : decode cX7_handler 22 = .ok (.getfield 37, 3) := by decide +kernel
theorem dX7_handler_25 : decode cX7_handler 25 = .ok (.getfield 121, 3) := by decide +kernel
theorem dX7_handler_28 : decode cX7_handler 28 = .ok (.iload_n 1, 1) := by decide +kernel
theorem dX7_handler_29 : decode cX7_handler 29 = .ok (.aaload, 1) := by decide +kernel
theorem dX7_handler_30 : decode cX7_handler 30 = .ok (.astore_n 3, 1) := by decide +kernel
theorem dX7_handler_31 : decode cX7_handler 31 = .ok (.iload_n 2, 1) := by decide +kernel
theorem dX7_handler_32 : decode cX7_handler 32 = .ok (.tableswitch 100 0 7 #[48, 53, 58, 71, 76, 85, 90, 95], 48) := by decide +kernel
theorem dX7_handler_80 : decode cX7_handler 80 = .ok (.aload_n 3, 1) := by decide +kernel
theorem dX7_handler_81 : decode cX7_handler 81 = .ok (.getfield 125, 3) := by decide +kernel
theorem dX7_handler_84 : decode cX7_handler 84 = .ok (.ireturn, 1) := by decide +kernel
theorem dX7_handler_85 : decode cX7_handler 85 = .ok (.aload_n 3, 1) := by decide +kernel
theorem dX7_handler_86 : decode cX7_handler 86 = .ok (.getfield 130, 3) := by decide +kernel
theorem dX7_handler_89 : decode cX7_handler 89 = .ok (.ireturn, 1) := by decide +kernel
theorem dX7_handler_90 : decode cX7_handler 90 = .ok (.aload_n 3, 1) := by decide +kernel
theorem dX7_handler_91 : decode cX7_handler 91 = .ok (.getfield 133, 3) := by decide +kernel
theorem dX7_handler_94 : decode cX7_handler 94 = .ok (.ifCond .eq 7, 3) := by decide +kernel
theorem dX7_handler_97 : decode cX7_handler 97 = .ok (.iconst 1, 1) := by decide +kernel
theorem dX7_handler_98 : decode cX7_handler 98 = .ok (.goto 4, 3) := by decide +kernel
theorem dX7_handler_101 : decode cX7_handler 101 = .ok (.iconst 0, 1) := by decide +kernel
theorem dX7_handler_102 : decode cX7_handler 102 = .ok (.ireturn, 1) := by decide +kernel
theorem dX7_handler_103 : decode cX7_handler 103 = .ok (.aload_n 3, 1) := by decide +kernel
theorem dX7_handler_104 : decode cX7_handler 104 = .ok (.getfield 137, 3) := by decide +kernel
theorem dX7_handler_107 : decode cX7_handler 107 = .ok (.ireturn, 1) := by decide +kernel
theorem dX7_handler_108 : decode cX7_handler 108 = .ok (.aload_n 0, 1) := by decide +kernel
theorem dX7_handler_109 : decode cX7_handler 109 = .ok (.getfield 37, 3) := by decide +kernel
theorem dX7_handler_112 : decode cX7_handler 112 = .ok (.iload_n 1, 1) := by decide +kernel
theorem dX7_handler_113 : decode cX7_handler 113 = .ok (.invokevirtual 140, 3) := by decide +kernel
theorem dX7_handler_116 : decode cX7_handler 116 = .ok (.ireturn, 1) := by decide +kernel
theorem dX7_handler_117 : decode cX7_handler 117 = .ok (.aload_n 3, 1) := by decide +kernel
theorem dX7_handler_118 : decode cX7_handler 118 = .ok (.getfield 143, 3) := by decide +kernel
theorem dX7_handler_121 : decode cX7_handler 121 = .ok (.ireturn, 1) := by decide +kernel
theorem dX7_handler_122 : decode cX7_handler 122 = .ok (.aload_n 3, 1) := by decide +kernel
theorem dX7_handler_123 : decode cX7_handler 123 = .ok (.getfield 146, 3) := by decide +kernel
theorem dX7_handler_126 : decode cX7_handler 126 = .ok (.ireturn, 1) := by decide +kernel
theorem dX7_handler_127 : decode cX7_handler 127 = .ok (.aload_n 3, 1) := by decide +kernel
theorem dX7_handler_128 : decode cX7_handler 128 = .ok (.getfield 149, 3) := by decide +kernel
theorem dX7_handler_131 : decode cX7_handler 131 = .ok (.ireturn, 1) := by decide +kernel
theorem dX7_handler_132 : decode cX7_handler 132 = .ok (.new 58, 3) := by decide +kernel
theorem dX7_handler_135 : decode cX7_handler 135 = .ok (.dup, 1) := by decide +kernel
theorem dX7_handler_136 : decode cX7_handler 136 = .ok (.ldc 152, 2) := by decide +kernel
theorem dX7_handler_138 : decode cX7_handler 138 = .ok (.invokespecial 62, 3) := by decide +kernel
theorem dX7_handler_141 : decode cX7_handler 141 = .ok (.athrow, 1) := by decide +kernel
theorem dX7_line_0 : decode cX7_line 0 = .ok (.aload_n 0, 1) := by decide +kernel
theorem dX7_line_1 : decode cX7_line 1 = .ok (.getfield 37, 3) := by decide +kernel
theorem dX7_line_4 : decode cX7_line 4 = .ok (.iload_n 1, 1) := by decide +kernel
theorem dX7_line_5 : decode cX7_line 5 = .ok (.invokevirtual 154, 3) := by decide +kernel
theorem dX7_line_8 : decode cX7_line 8 = .ok (.ifCond .ne 13, 3) := by decide +kernel
theorem dX7_line_11 : decode cX7_line 11 = .ok (.new 116, 3) := by decide +kernel
theorem dX7_line_14 : decode cX7_line 14 = .ok (.dup, 1) := by decide +kernel
theorem dX7_line_15 : decode cX7_line 15 = .ok (.ldc 157, 2) := by decide +kernel
theorem dX7_line_17 : decode cX7_line 17 = .ok (.invokespecial 120, 3) := by decide +kernel
theorem dX7_line_20 : decode cX7_line 20 = .ok (.athrow, 1) := by decide +kernel
theorem dX7_line_21 : decode cX7_line 21 = .ok (.aload_n 0, 1) := by decide +kernel
theorem dX7_line_22 : decode cX7_line 22 = .ok (.getfield 37, 3) := by decide +kernel
theorem dX7_line_25 : decode cX7_line 25 = .ok (.getfield 159, 3) := by decide +kernel
theorem dX7_line_28 : decode cX7_line 28 = .ok (.iload_n 1, 1) := by decide +kernel
theorem dX7_line_29 : decode cX7_line 29 = .ok (.aaload, 1) := by decide +kernel
theorem dX7_line_30 : decode cX7_line 30 = .ok (.astore_n 3, 1) := by decide +kernel
theorem dX7_line_31 : decode cX7_line 31 = .ok (.iload_n 2, 1) := by decide +kernel
theorem dX7_line_32 : decode cX7_line 32 = .ok (.tableswitch 66 0 4 #[36, 41, 46, 51, 56], 36) := by decide +kernel
theorem dX7_line_68 : decode cX7_line 68 = .ok (.aload_n 3, 1) := by decide +kernel
theorem dX7_line_69 : decode cX7_line 69 = .ok (.getfield 163, 3) := by decide +kernel
theorem dX7_line_72 : decode cX7_line 72 = .ok (.ireturn, 1) := by decide +kernel
theorem dX7_line_73 : decode cX7_line 73 = .ok (.aload_n 3, 1) := by decide +kernel
theorem dX7_line_74 : decode cX7_line 74 = .ok (.getfield 168, 3) := by decide +kernel
theorem dX7_line_77 : decode cX7_line 77 = .ok (.ireturn, 1) := by decide +kernel
theorem dX7_line_78 : decode cX7_line 78 = .ok (.aload_n 3, 1) := by decide +kernel
theorem dX7_line_79 : decode cX7_line 79 = .ok (.getfield 171, 3) := by decide +kernel
theorem dX7_line_82 : decode cX7_line 82 = .ok (.ireturn, 1) := by decide +kernel
theorem dX7_line_83 : decode cX7_line 83 = .ok (.aload_n 3, 1) := by decide +kernel
theorem dX7_line_84 : decode cX7_line 84 = .ok (.getfield 172, 3) := by decide +kernel
theorem dX7_line_87 : decode cX7_line 87 = .ok (.ireturn, 1) := by decide +kernel
theorem dX7_line_88 : decode cX7_line 88 = .ok (.aload_n 0, 1) := by decide +kernel
theorem dX7_line_89 : decode cX7_line 89 = .ok (.getfield 37, 3) := by decide +kernel
theorem dX7_line_92 : decode cX7_line 92 = .ok (.iload_n 1, 1) := by decide +kernel
theorem dX7_line_93 : decode cX7_line 93 = .ok (.iconst (-1), 1) := by decide +kernel
theorem dX7_line_94 : decode cX7_line 94 = .ok (.invokevirtual 175, 3) := by decide +kernel
theorem dX7_line_97 : decode cX7_line 97 = .ok (.ireturn, 1) := by decide +kernel
theorem dX7_line_98 : decode cX7_line 98 = .ok (.new 58, 3) := by decide +kernel
theorem dX7_line_101 : decode cX7_line 101 = .ok (.dup, 1) := by decide +kernel
theorem dX7_line_102 : decode cX7_line 102 = .ok (.ldc 179, 2) := by decide +kernel
theorem dX7_line_104 : decode cX7_line 104 = .ok (.invokespecial 62, 3) := by decide +kernel
theorem dX7_line_107 : decode cX7_line 107 = .ok (.athrow, 1) := by decide +kernel
theorem dX7_tenant_0 : decode cX7_tenant 0 = .ok (.aload_n 0, 1) := by decide +kernel
theorem dX7_tenant_1 : decode cX7_tenant 1 = .ok (.getfield 37, 3) := by decide +kernel
theorem dX7_tenant_4 : decode cX7_tenant 4 = .ok (.iload_n 1, 1) := by decide +kernel
theorem dX7_tenant_5 : decode cX7_tenant 5 = .ok (.invokevirtual 154, 3) := by decide +kernel
theorem dX7_tenant_8 : decode cX7_tenant 8 = .ok (.ifCond .ne 13, 3) := by decide +kernel
theorem dX7_tenant_11 : decode cX7_tenant 11 = .ok (.new 116, 3) := by decide +kernel
theorem dX7_tenant_14 : decode cX7_tenant 14 = .ok (.dup, 1) := by decide +kernel
theorem dX7_tenant_15 : decode cX7_tenant 15 = .ok (.ldc 157, 2) := by decide +kernel
theorem dX7_tenant_17 : decode cX7_tenant 17 = .ok (.invokespecial 120, 3) := by decide +kernel
theorem dX7_tenant_20 : decode cX7_tenant 20 = .ok (.athrow, 1) := by decide +kernel
theorem dX7_tenant_21 : decode cX7_tenant 21 = .ok (.aload_n 0, 1) := by decide +kernel
theorem dX7_tenant_22 : decode cX7_tenant 22 = .ok (.getfield 37, 3) := by decide +kernel
theorem dX7_tenant_25 : decode cX7_tenant 25 = .ok (.getfield 159, 3) := by decide +kernel
theorem dX7_tenant_28 : decode cX7_tenant 28 = .ok (.iload_n 1, 1) := by decide +kernel
theorem dX7_tenant_29 : decode cX7_tenant 29 = .ok (.aaload, 1) := by decide +kernel
theorem dX7_tenant_30 : decode cX7_tenant 30 = .ok (.astore_n 3, 1) := by decide +kernel
theorem dX7_tenant_31 : decode cX7_tenant 31 = .ok (.iload_n 2, 1) := by decide +kernel
theorem dX7_tenant_32 : decode cX7_tenant 32 = .ok (.ifCond .lt 11, 3) := by decide +kernel
theorem dX7_tenant_35 : decode cX7_tenant 35 = .ok (.iload_n 2, 1) := by decide +kernel
theorem dX7_tenant_36 : decode cX7_tenant 36 = .ok (.aload_n 3, 1) := by decide +kernel
theorem dX7_tenant_37 : decode cX7_tenant 37 = .ok (.getfield 172, 3) := by decide +kernel
theorem dX7_tenant_40 : decode cX7_tenant 40 = .ok (.if_icmp .lt 13, 3) := by decide +kernel
theorem dX7_tenant_43 : decode cX7_tenant 43 = .ok (.new 181, 3) := by decide +kernel
theorem dX7_tenant_46 : decode cX7_tenant 46 = .ok (.dup, 1) := by decide +kernel
theorem dX7_tenant_47 : decode cX7_tenant 47 = .ok (.ldc 183, 2) := by decide +kernel
theorem dX7_tenant_49 : decode cX7_tenant 49 = .ok (.invokespecial 185, 3) := by decide +kernel
theorem dX7_tenant_52 : decode cX7_tenant 52 = .ok (.athrow, 1) := by decide +kernel
theorem dX7_tenant_53 : decode cX7_tenant 53 = .ok (.aload_n 3, 1) := by decide +kernel
theorem dX7_tenant_54 : decode cX7_tenant 54 = .ok (.getfield 186, 3) := by decide +kernel
theorem dX7_tenant_57 : decode cX7_tenant 57 = .ok (.iload_n 2, 1) := by decide +kernel
theorem dX7_tenant_58 : decode cX7_tenant 58 = .ok (.iaload, 1) := by decide +kernel
theorem dX7_tenant_59 : decode cX7_tenant 59 = .ok (.ireturn, 1) := by decide +kernel
theorem dX7_request_0 : decode cX7_request 0 = .ok (.aload_n 0, 1) := by decide +kernel
theorem dX7_request_1 : decode cX7_request 1 = .ok (.getfield 37, 3) := by decide +kernel
theorem dX7_request_4 : decode cX7_request 4 = .ok (.iload_n 1, 1) := by decide +kernel
theorem dX7_request_5 : decode cX7_request 5 = .ok (.invokevirtual 190, 3) := by decide +kernel
theorem dX7_request_8 : decode cX7_request 8 = .ok (.ifCond .ne 13, 3) := by decide +kernel
theorem dX7_request_11 : decode cX7_request 11 = .ok (.new 116, 3) := by decide +kernel
theorem dX7_request_14 : decode cX7_request 14 = .ok (.dup, 1) := by decide +kernel
theorem dX7_request_15 : decode cX7_request 15 = .ok (.ldc 193, 2) := by decide +kernel
theorem dX7_request_17 : decode cX7_request 17 = .ok (.invokespecial 120, 3) := by decide +kernel
theorem dX7_request_20 : decode cX7_request 20 = .ok (.athrow, 1) := by decide +kernel
theorem dX7_request_21 : decode cX7_request 21 = .ok (.aload_n 0, 1) := by decide +kernel
theorem dX7_request_22 : decode cX7_request 22 = .ok (.getfield 37, 3) := by decide +kernel
theorem dX7_request_25 : decode cX7_request 25 = .ok (.getfield 195, 3) := by decide +kernel
theorem dX7_request_28 : decode cX7_request 28 = .ok (.iload_n 1, 1) := by decide +kernel
theorem dX7_request_29 : decode cX7_request 29 = .ok (.aaload, 1) := by decide +kernel
theorem dX7_request_30 : decode cX7_request 30 = .ok (.astore_n 3, 1) := by decide +kernel
theorem dX7_request_31 : decode cX7_request 31 = .ok (.iload_n 2, 1) := by decide +kernel
theorem dX7_request_32 : decode cX7_request 32 = .ok (.tableswitch 79 0 6 #[44, 49, 54, 59, 64, 69, 74], 44) := by decide +kernel
theorem dX7_request_76 : decode cX7_request 76 = .ok (.aload_n 3, 1) := by decide +kernel
theorem dX7_request_77 : decode cX7_request 77 = .ok (.getfield 199, 3) := by decide +kernel
theorem dX7_request_80 : decode cX7_request 80 = .ok (.ireturn, 1) := by decide +kernel
theorem dX7_request_81 : decode cX7_request 81 = .ok (.aload_n 3, 1) := by decide +kernel
theorem dX7_request_82 : decode cX7_request 82 = .ok (.getfield 204, 3) := by decide +kernel
theorem dX7_request_85 : decode cX7_request 85 = .ok (.ireturn, 1) := by decide +kernel
theorem dX7_request_86 : decode cX7_request 86 = .ok (.aload_n 3, 1) := by decide +kernel
theorem dX7_request_87 : decode cX7_request 87 = .ok (.getfield 205, 3) := by decide +kernel
theorem dX7_request_90 : decode cX7_request 90 = .ok (.ireturn, 1) := by decide +kernel
theorem dX7_request_91 : decode cX7_request 91 = .ok (.aload_n 3, 1) := by decide +kernel
theorem dX7_request_92 : decode cX7_request 92 = .ok (.getfield 208, 3) := by decide +kernel
theorem dX7_request_95 : decode cX7_request 95 = .ok (.ireturn, 1) := by decide +kernel
theorem dX7_request_96 : decode cX7_request 96 = .ok (.aload_n 3, 1) := by decide +kernel
theorem dX7_request_97 : decode cX7_request 97 = .ok (.getfield 211, 3) := by decide +kernel
theorem dX7_request_100 : decode cX7_request 100 = .ok (.ireturn, 1) := by decide +kernel
theorem dX7_request_101 : decode cX7_request 101 = .ok (.aload_n 3, 1) := by decide +kernel
theorem dX7_request_102 : decode cX7_request 102 = .ok (.getfield 214, 3) := by decide +kernel
theorem dX7_request_105 : decode cX7_request 105 = .ok (.ireturn, 1) := by decide +kernel
theorem dX7_request_106 : decode cX7_request 106 = .ok (.aload_n 3, 1) := by decide +kernel
theorem dX7_request_107 : decode cX7_request 107 = .ok (.getfield 217, 3) := by decide +kernel
theorem dX7_request_110 : decode cX7_request 110 = .ok (.ireturn, 1) := by decide +kernel
theorem dX7_request_111 : decode cX7_request 111 = .ok (.new 58, 3) := by decide +kernel
theorem dX7_request_114 : decode cX7_request 114 = .ok (.dup, 1) := by decide +kernel
theorem dX7_request_115 : decode cX7_request 115 = .ok (.ldc 220, 2) := by decide +kernel
theorem dX7_request_117 : decode cX7_request 117 = .ok (.invokespecial 62, 3) := by decide +kernel
theorem dX7_request_120 : decode cX7_request 120 = .ok (.athrow, 1) := by decide +kernel
theorem dX7_calm_0 : decode cX7_calm 0 = .ok (.aload_n 0, 1) := by decide +kernel
theorem dX7_calm_1 : decode cX7_calm 1 = .ok (.getfield 37, 3) := by decide +kernel
theorem dX7_calm_4 : decode cX7_calm 4 = .ok (.iload_n 1, 1) := by decide +kernel
theorem dX7_calm_5 : decode cX7_calm 5 = .ok (.invokevirtual 154, 3) := by decide +kernel
theorem dX7_calm_8 : decode cX7_calm 8 = .ok (.ifCond .ne 13, 3) := by decide +kernel
theorem dX7_calm_11 : decode cX7_calm 11 = .ok (.new 116, 3) := by decide +kernel
theorem dX7_calm_14 : decode cX7_calm 14 = .ok (.dup, 1) := by decide +kernel
theorem dX7_calm_15 : decode cX7_calm 15 = .ok (.ldc 157, 2) := by decide +kernel
theorem dX7_calm_17 : decode cX7_calm 17 = .ok (.invokespecial 120, 3) := by decide +kernel
theorem dX7_calm_20 : decode cX7_calm 20 = .ok (.athrow, 1) := by decide +kernel
theorem dX7_calm_21 : decode cX7_calm 21 = .ok (.aload_n 0, 1) := by decide +kernel
theorem dX7_calm_22 : decode cX7_calm 22 = .ok (.getfield 37, 3) := by decide +kernel
theorem dX7_calm_25 : decode cX7_calm 25 = .ok (.getfield 159, 3) := by decide +kernel
theorem dX7_calm_28 : decode cX7_calm 28 = .ok (.iload_n 1, 1) := by decide +kernel
theorem dX7_calm_29 : decode cX7_calm 29 = .ok (.aaload, 1) := by decide +kernel
theorem dX7_calm_30 : decode cX7_calm 30 = .ok (.getfield 168, 3) := by decide +kernel
theorem dX7_calm_33 : decode cX7_calm 33 = .ok (.aload_n 0, 1) := by decide +kernel
theorem dX7_calm_34 : decode cX7_calm 34 = .ok (.getfield 37, 3) := by decide +kernel
theorem dX7_calm_37 : decode cX7_calm 37 = .ok (.iload_n 1, 1) := by decide +kernel
theorem dX7_calm_38 : decode cX7_calm 38 = .ok (.invokevirtual 222, 3) := by decide +kernel
theorem dX7_calm_41 : decode cX7_calm 41 = .ok (.isub, 1) := by decide +kernel
theorem dX7_calm_42 : decode cX7_calm 42 = .ok (.istore_n 2, 1) := by decide +kernel
theorem dX7_calm_43 : decode cX7_calm 43 = .ok (.iload_n 2, 1) := by decide +kernel
theorem dX7_calm_44 : decode cX7_calm 44 = .ok (.ifCond .ge 7, 3) := by decide +kernel
theorem dX7_calm_47 : decode cX7_calm 47 = .ok (.iconst 0, 1) := by decide +kernel
theorem dX7_calm_48 : decode cX7_calm 48 = .ok (.goto 4, 3) := by decide +kernel
theorem dX7_calm_51 : decode cX7_calm 51 = .ok (.iload_n 2, 1) := by decide +kernel
theorem dX7_calm_52 : decode cX7_calm 52 = .ok (.ireturn, 1) := by decide +kernel
theorem dX7_endsAt_0 : decode cX7_endsAt 0 = .ok (.aload_n 0, 1) := by decide +kernel
theorem dX7_endsAt_1 : decode cX7_endsAt 1 = .ok (.getfield 37, 3) := by decide +kernel
theorem dX7_endsAt_4 : decode cX7_endsAt 4 = .ok (.iload_n 1, 1) := by decide +kernel
theorem dX7_endsAt_5 : decode cX7_endsAt 5 = .ok (.invokevirtual 190, 3) := by decide +kernel
theorem dX7_endsAt_8 : decode cX7_endsAt 8 = .ok (.ifCond .ne 13, 3) := by decide +kernel
theorem dX7_endsAt_11 : decode cX7_endsAt 11 = .ok (.new 116, 3) := by decide +kernel
theorem dX7_endsAt_14 : decode cX7_endsAt 14 = .ok (.dup, 1) := by decide +kernel
theorem dX7_endsAt_15 : decode cX7_endsAt 15 = .ok (.ldc 193, 2) := by decide +kernel
theorem dX7_endsAt_17 : decode cX7_endsAt 17 = .ok (.invokespecial 120, 3) := by decide +kernel
theorem dX7_endsAt_20 : decode cX7_endsAt 20 = .ok (.athrow, 1) := by decide +kernel
theorem dX7_endsAt_21 : decode cX7_endsAt 21 = .ok (.aload_n 0, 1) := by decide +kernel
theorem dX7_endsAt_22 : decode cX7_endsAt 22 = .ok (.getfield 41, 3) := by decide +kernel
theorem dX7_endsAt_25 : decode cX7_endsAt 25 = .ok (.aload_n 0, 1) := by decide +kernel
theorem dX7_endsAt_26 : decode cX7_endsAt 26 = .ok (.getfield 37, 3) := by decide +kernel
theorem dX7_endsAt_29 : decode cX7_endsAt 29 = .ok (.invokevirtual 80, 3) := by decide +kernel
theorem dX7_endsAt_32 : decode cX7_endsAt 32 = .ok (.aload_n 0, 1) := by decide +kernel
theorem dX7_endsAt_33 : decode cX7_endsAt 33 = .ok (.getfield 41, 3) := by decide +kernel
theorem dX7_endsAt_36 : decode cX7_endsAt 36 = .ok (.getfield 195, 3) := by decide +kernel
theorem dX7_endsAt_39 : decode cX7_endsAt 39 = .ok (.iload_n 1, 1) := by decide +kernel
theorem dX7_endsAt_40 : decode cX7_endsAt 40 = .ok (.aaload, 1) := by decide +kernel
theorem dX7_endsAt_41 : decode cX7_endsAt 41 = .ok (.astore_n 2, 1) := by decide +kernel
theorem dX7_endsAt_42 : decode cX7_endsAt 42 = .ok (.iconst 0, 1) := by decide +kernel
theorem dX7_endsAt_43 : decode cX7_endsAt 43 = .ok (.istore_n 3, 1) := by decide +kernel
theorem dX7_endsAt_44 : decode cX7_endsAt 44 = .ok (.iload_n 3, 1) := by decide +kernel
theorem dX7_endsAt_45 : decode cX7_endsAt 45 = .ok (.sipush 1100, 3) := by decide +kernel
theorem dX7_endsAt_48 : decode cX7_endsAt 48 = .ok (.if_icmp .ge 23, 3) := by decide +kernel
theorem dX7_endsAt_51 : decode cX7_endsAt 51 = .ok (.aload_n 2, 1) := by decide +kernel
theorem dX7_endsAt_52 : decode cX7_endsAt 52 = .ok (.getfield 217, 3) := by decide +kernel
theorem dX7_endsAt_55 : decode cX7_endsAt 55 = .ok (.ifCond .ge 16, 3) := by decide +kernel
theorem dX7_endsAt_58 : decode cX7_endsAt 58 = .ok (.aload_n 0, 1) := by decide +kernel
theorem dX7_endsAt_59 : decode cX7_endsAt 59 = .ok (.getfield 41, 3) := by decide +kernel
theorem dX7_endsAt_62 : decode cX7_endsAt 62 = .ok (.invokevirtual 225, 3) := by decide +kernel
theorem dX7_endsAt_65 : decode cX7_endsAt 65 = .ok (.iinc 3 1, 3) := by decide +kernel
theorem dX7_endsAt_68 : decode cX7_endsAt 68 = .ok (.goto (-24), 3) := by decide +kernel
theorem dX7_endsAt_71 : decode cX7_endsAt 71 = .ok (.aload_n 2, 1) := by decide +kernel
theorem dX7_endsAt_72 : decode cX7_endsAt 72 = .ok (.getfield 217, 3) := by decide +kernel
theorem dX7_endsAt_75 : decode cX7_endsAt 75 = .ok (.ireturn, 1) := by decide +kernel
theorem dX7_bankruptIn_0 : decode cX7_bankruptIn 0 = .ok (.aload_n 0, 1) := by decide +kernel
theorem dX7_bankruptIn_1 : decode cX7_bankruptIn 1 = .ok (.getfield 37, 3) := by decide +kernel
theorem dX7_bankruptIn_4 : decode cX7_bankruptIn 4 = .ok (.iload_n 1, 1) := by decide +kernel
theorem dX7_bankruptIn_5 : decode cX7_bankruptIn 5 = .ok (.invokevirtual 112, 3) := by decide +kernel
theorem dX7_bankruptIn_8 : decode cX7_bankruptIn 8 = .ok (.ifCond .ne 13, 3) := by decide +kernel
theorem dX7_bankruptIn_11 : decode cX7_bankruptIn 11 = .ok (.new 116, 3) := by decide +kernel
theorem dX7_bankruptIn_14 : decode cX7_bankruptIn 14 = .ok (.dup, 1) := by decide +kernel
theorem dX7_bankruptIn_15 : decode cX7_bankruptIn 15 = .ok (.ldc 118, 2) := by decide +kernel
theorem dX7_bankruptIn_17 : decode cX7_bankruptIn 17 = .ok (.invokespecial 120, 3) := by decide +kernel
theorem dX7_bankruptIn_20 : decode cX7_bankruptIn 20 = .ok (.athrow, 1) := by decide +kernel
theorem dX7_bankruptIn_21 : decode cX7_bankruptIn 21 = .ok (.aload_n 0, 1) := by decide +kernel
theorem dX7_bankruptIn_22 : decode cX7_bankruptIn 22 = .ok (.getfield 41, 3) := by decide +kernel
theorem dX7_bankruptIn_25 : decode cX7_bankruptIn 25 = .ok (.aload_n 0, 1) := by decide +kernel
theorem dX7_bankruptIn_26 : decode cX7_bankruptIn 26 = .ok (.getfield 37, 3) := by decide +kernel
theorem dX7_bankruptIn_29 : decode cX7_bankruptIn 29 = .ok (.invokevirtual 80, 3) := by decide +kernel
theorem dX7_bankruptIn_32 : decode cX7_bankruptIn 32 = .ok (.aload_n 0, 1) := by decide +kernel
theorem dX7_bankruptIn_33 : decode cX7_bankruptIn 33 = .ok (.getfield 41, 3) := by decide +kernel
theorem dX7_bankruptIn_36 : decode cX7_bankruptIn 36 = .ok (.getfield 121, 3) := by decide +kernel
theorem dX7_bankruptIn_39 : decode cX7_bankruptIn 39 = .ok (.iload_n 1, 1) := by decide +kernel
theorem dX7_bankruptIn_40 : decode cX7_bankruptIn 40 = .ok (.aaload, 1) := by decide +kernel
theorem dX7_bankruptIn_41 : decode cX7_bankruptIn 41 = .ok (.astore_n 2, 1) := by decide +kernel
theorem dX7_bankruptIn_42 : decode cX7_bankruptIn 42 = .ok (.iconst 0, 1) := by decide +kernel
theorem dX7_bankruptIn_43 : decode cX7_bankruptIn 43 = .ok (.istore_n 3, 1) := by decide +kernel
theorem dX7_bankruptIn_44 : decode cX7_bankruptIn 44 = .ok (.iload_n 3, 1) := by decide +kernel
theorem dX7_bankruptIn_45 : decode cX7_bankruptIn 45 = .ok (.sipush 1100, 3) := by decide +kernel
theorem dX7_bankruptIn_48 : decode cX7_bankruptIn 48 = .ok (.if_icmp .ge 23, 3) := by decide +kernel
theorem dX7_bankruptIn_51 : decode cX7_bankruptIn 51 = .ok (.aload_n 2, 1) := by decide +kernel
theorem dX7_bankruptIn_52 : decode cX7_bankruptIn 52 = .ok (.getfield 133, 3) := by decide +kernel
theorem dX7_bankruptIn_55 : decode cX7_bankruptIn 55 = .ok (.ifCond .ne 16, 3) := by decide +kernel
theorem dX7_bankruptIn_58 : decode cX7_bankruptIn 58 = .ok (.aload_n 0, 1) := by decide +kernel
theorem dX7_bankruptIn_59 : decode cX7_bankruptIn 59 = .ok (.getfield 41, 3) := by decide +kernel
theorem dX7_bankruptIn_62 : decode cX7_bankruptIn 62 = .ok (.invokevirtual 225, 3) := by decide +kernel
theorem dX7_bankruptIn_65 : decode cX7_bankruptIn 65 = .ok (.iinc 3 1, 3) := by decide +kernel
theorem dX7_bankruptIn_68 : decode cX7_bankruptIn 68 = .ok (.goto (-24), 3) := by decide +kernel
theorem dX7_bankruptIn_71 : decode cX7_bankruptIn 71 = .ok (.aload_n 2, 1) := by decide +kernel
theorem dX7_bankruptIn_72 : decode cX7_bankruptIn 72 = .ok (.getfield 133, 3) := by decide +kernel
theorem dX7_bankruptIn_75 : decode cX7_bankruptIn 75 = .ok (.ifCond .eq 7, 3) := by decide +kernel
theorem dX7_bankruptIn_78 : decode cX7_bankruptIn 78 = .ok (.iload_n 3, 1) := by decide +kernel
theorem dX7_bankruptIn_79 : decode cX7_bankruptIn 79 = .ok (.goto 4, 3) := by decide +kernel
theorem dX7_bankruptIn_82 : decode cX7_bankruptIn 82 = .ok (.iconst (-1), 1) := by decide +kernel
theorem dX7_bankruptIn_83 : decode cX7_bankruptIn 83 = .ok (.ireturn, 1) := by decide +kernel
theorem dX7_finesIn_0 : decode cX7_finesIn 0 = .ok (.iload_n 1, 1) := by decide +kernel
theorem dX7_finesIn_1 : decode cX7_finesIn 1 = .ok (.ifCond .lt 10, 3) := by decide +kernel
theorem dX7_finesIn_4 : decode cX7_finesIn 4 = .ok (.iload_n 1, 1) := by decide +kernel
theorem dX7_finesIn_5 : decode cX7_finesIn 5 = .ok (.sipush 1100, 3) := by decide +kernel
theorem dX7_finesIn_8 : decode cX7_finesIn 8 = .ok (.if_icmp .le 13, 3) := by decide +kernel
theorem dX7_finesIn_11 : decode cX7_finesIn 11 = .ok (.new 58, 3) := by decide +kernel
theorem dX7_finesIn_14 : decode cX7_finesIn 14 = .ok (.dup, 1) := by decide +kernel
theorem dX7_finesIn_15 : decode cX7_finesIn 15 = .ok (.ldc 228, 2) := by decide +kernel
theorem dX7_finesIn_17 : decode cX7_finesIn 17 = .ok (.invokespecial 62, 3) := by decide +kernel
theorem dX7_finesIn_20 : decode cX7_finesIn 20 = .ok (.athrow, 1) := by decide +kernel
theorem dX7_finesIn_21 : decode cX7_finesIn 21 = .ok (.aload_n 0, 1) := by decide +kernel
theorem dX7_finesIn_22 : decode cX7_finesIn 22 = .ok (.getfield 41, 3) := by decide +kernel
theorem dX7_finesIn_25 : decode cX7_finesIn 25 = .ok (.aload_n 0, 1) := by decide +kernel
theorem dX7_finesIn_26 : decode cX7_finesIn 26 = .ok (.getfield 37, 3) := by decide +kernel
theorem dX7_finesIn_29 : decode cX7_finesIn 29 = .ok (.invokevirtual 80, 3) := by decide +kernel
theorem dX7_finesIn_32 : decode cX7_finesIn 32 = .ok (.aload_n 0, 1) := by decide +kernel
theorem dX7_finesIn_33 : decode cX7_finesIn 33 = .ok (.getfield 41, 3) := by decide +kernel
theorem dX7_finesIn_36 : decode cX7_finesIn 36 = .ok (.iload_n 1, 1) := by decide +kernel
theorem dX7_finesIn_37 : decode cX7_finesIn 37 = .ok (.invokevirtual 230, 3) := by decide +kernel
theorem dX7_finesIn_40 : decode cX7_finesIn 40 = .ok (.ireturn, 1) := by decide +kernel
theorem dX7_advise_0 : decode cX7_advise 0 = .ok (.aload_n 0, 1) := by decide +kernel
theorem dX7_advise_1 : decode cX7_advise 1 = .ok (.getfield 37, 3) := by decide +kernel
theorem dX7_advise_4 : decode cX7_advise 4 = .ok (.iload_n 1, 1) := by decide +kernel
theorem dX7_advise_5 : decode cX7_advise 5 = .ok (.invokevirtual 154, 3) := by decide +kernel
theorem dX7_advise_8 : decode cX7_advise 8 = .ok (.ifCond .ne 13, 3) := by decide +kernel
theorem dX7_advise_11 : decode cX7_advise 11 = .ok (.new 116, 3) := by decide +kernel
theorem dX7_advise_14 : decode cX7_advise 14 = .ok (.dup, 1) := by decide +kernel
theorem dX7_advise_15 : decode cX7_advise 15 = .ok (.ldc 157, 2) := by decide +kernel
theorem dX7_advise_17 : decode cX7_advise 17 = .ok (.invokespecial 120, 3) := by decide +kernel
theorem dX7_advise_20 : decode cX7_advise 20 = .ok (.athrow, 1) := by decide +kernel
theorem dX7_advise_21 : decode cX7_advise 21 = .ok (.aload_n 0, 1) := by decide +kernel
theorem dX7_advise_22 : decode cX7_advise 22 = .ok (.getfield 41, 3) := by decide +kernel
theorem dX7_advise_25 : decode cX7_advise 25 = .ok (.aload_n 0, 1) := by decide +kernel
theorem dX7_advise_26 : decode cX7_advise 26 = .ok (.getfield 37, 3) := by decide +kernel
theorem dX7_advise_29 : decode cX7_advise 29 = .ok (.invokevirtual 80, 3) := by decide +kernel
theorem dX7_advise_32 : decode cX7_advise 32 = .ok (.aload_n 0, 1) := by decide +kernel
theorem dX7_advise_33 : decode cX7_advise 33 = .ok (.getfield 41, 3) := by decide +kernel
theorem dX7_advise_36 : decode cX7_advise 36 = .ok (.bipush 100, 2) := by decide +kernel
theorem dX7_advise_38 : decode cX7_advise 38 = .ok (.invokevirtual 230, 3) := by decide +kernel
theorem dX7_advise_41 : decode cX7_advise 41 = .ok (.istore_n 2, 1) := by decide +kernel
theorem dX7_advise_42 : decode cX7_advise 42 = .ok (.iconst (-1), 1) := by decide +kernel
theorem dX7_advise_43 : decode cX7_advise 43 = .ok (.istore_n 3, 1) := by decide +kernel
theorem dX7_advise_44 : decode cX7_advise 44 = .ok (.iconst 0, 1) := by decide +kernel
theorem dX7_advise_45 : decode cX7_advise 45 = .ok (.istore 4, 2) := by decide +kernel
theorem dX7_advise_47 : decode cX7_advise 47 = .ok (.iload 4, 2) := by decide +kernel
theorem dX7_advise_49 : decode cX7_advise 49 = .ok (.aload_n 0, 1) := by decide +kernel
theorem dX7_advise_50 : decode cX7_advise 50 = .ok (.getfield 37, 3) := by decide +kernel
theorem dX7_advise_53 : decode cX7_advise 53 = .ok (.getfield 90, 3) := by decide +kernel
theorem dX7_advise_56 : decode cX7_advise 56 = .ok (.if_icmp .ge 67, 3) := by decide +kernel
theorem dX7_advise_59 : decode cX7_advise 59 = .ok (.aload_n 0, 1) := by decide +kernel
theorem dX7_advise_60 : decode cX7_advise 60 = .ok (.getfield 37, 3) := by decide +kernel
theorem dX7_advise_63 : decode cX7_advise 63 = .ok (.iload 4, 2) := by decide +kernel
theorem dX7_advise_65 : decode cX7_advise 65 = .ok (.iload_n 1, 1) := by decide +kernel
theorem dX7_advise_66 : decode cX7_advise 66 = .ok (.invokevirtual 233, 3) := by decide +kernel
theorem dX7_advise_69 : decode cX7_advise 69 = .ok (.ifCond .eq 48, 3) := by decide +kernel
theorem dX7_advise_72 : decode cX7_advise 72 = .ok (.aload_n 0, 1) := by decide +kernel
theorem dX7_advise_73 : decode cX7_advise 73 = .ok (.getfield 41, 3) := by decide +kernel
theorem dX7_advise_76 : decode cX7_advise 76 = .ok (.aload_n 0, 1) := by decide +kernel
theorem dX7_advise_77 : decode cX7_advise 77 = .ok (.getfield 37, 3) := by decide +kernel
theorem dX7_advise_80 : decode cX7_advise 80 = .ok (.invokevirtual 80, 3) := by decide +kernel
theorem dX7_advise_83 : decode cX7_advise 83 = .ok (.aload_n 0, 1) := by decide +kernel
theorem dX7_advise_84 : decode cX7_advise 84 = .ok (.getfield 41, 3) := by decide +kernel
theorem dX7_advise_87 : decode cX7_advise 87 = .ok (.iload 4, 2) := by decide +kernel
theorem dX7_advise_89 : decode cX7_advise 89 = .ok (.iload_n 1, 1) := by decide +kernel
theorem dX7_advise_90 : decode cX7_advise 90 = .ok (.invokevirtual 237, 3) := by decide +kernel
theorem dX7_advise_93 : decode cX7_advise 93 = .ok (.pop, 1) := by decide +kernel
theorem dX7_advise_94 : decode cX7_advise 94 = .ok (.aload_n 0, 1) := by decide +kernel
theorem dX7_advise_95 : decode cX7_advise 95 = .ok (.getfield 41, 3) := by decide +kernel
theorem dX7_advise_98 : decode cX7_advise 98 = .ok (.bipush 100, 2) := by decide +kernel
theorem dX7_advise_100 : decode cX7_advise 100 = .ok (.invokevirtual 230, 3) := by decide +kernel
theorem dX7_advise_103 : decode cX7_advise 103 = .ok (.istore 5, 2) := by decide +kernel
theorem dX7_advise_105 : decode cX7_advise 105 = .ok (.iload 5, 2) := by decide +kernel
theorem dX7_advise_107 : decode cX7_advise 107 = .ok (.iload_n 2, 1) := by decide +kernel
theorem dX7_advise_108 : decode cX7_advise 108 = .ok (.if_icmp .ge 9, 3) := by decide +kernel
theorem dX7_advise_111 : decode cX7_advise 111 = .ok (.iload 5, 2) := by decide +kernel
theorem dX7_advise_113 : decode cX7_advise 113 = .ok (.istore_n 2, 1) := by decide +kernel
theorem dX7_advise_114 : decode cX7_advise 114 = .ok (.iload 4, 2) := by decide +kernel
theorem dX7_advise_116 : decode cX7_advise 116 = .ok (.istore_n 3, 1) := by decide +kernel
theorem dX7_advise_117 : decode cX7_advise 117 = .ok (.iinc 4 1, 3) := by decide +kernel
theorem dX7_advise_120 : decode cX7_advise 120 = .ok (.goto (-73), 3) := by decide +kernel
theorem dX7_advise_123 : decode cX7_advise 123 = .ok (.iload_n 3, 1) := by decide +kernel
theorem dX7_advise_124 : decode cX7_advise 124 = .ok (.ireturn, 1) := by decide +kernel
theorem dX7_pass_0 : decode cX7_pass 0 = .ok (.iload_n 1, 1) := by decide +kernel
theorem dX7_pass_1 : decode cX7_pass 1 = .ok (.iconst 1, 1) := by decide +kernel
theorem dX7_pass_2 : decode cX7_pass 2 = .ok (.if_icmp .lt 25, 3) := by decide +kernel
theorem dX7_pass_5 : decode cX7_pass 5 = .ok (.iload_n 1, 1) := by decide +kernel
theorem dX7_pass_6 : decode cX7_pass 6 = .ok (.sipush 200, 3) := by decide +kernel
theorem dX7_pass_9 : decode cX7_pass 9 = .ok (.if_icmp .gt 18, 3) := by decide +kernel
theorem dX7_pass_12 : decode cX7_pass 12 = .ok (.aload_n 0, 1) := by decide +kernel
theorem dX7_pass_13 : decode cX7_pass 13 = .ok (.getfield 37, 3) := by decide +kernel
theorem dX7_pass_16 : decode cX7_pass 16 = .ok (.getfield 87, 3) := by decide +kernel
theorem dX7_pass_19 : decode cX7_pass 19 = .ok (.iload_n 1, 1) := by decide +kernel
theorem dX7_pass_20 : decode cX7_pass 20 = .ok (.iadd, 1) := by decide +kernel
theorem dX7_pass_21 : decode cX7_pass 21 = .ok (.sipush 9999, 3) := by decide +kernel
theorem dX7_pass_24 : decode cX7_pass 24 = .ok (.if_icmp .le 13, 3) := by decide +kernel
theorem dX7_pass_27 : decode cX7_pass 27 = .ok (.new 58, 3) := by decide +kernel
theorem dX7_pass_30 : decode cX7_pass 30 = .ok (.dup, 1) := by decide +kernel
theorem dX7_pass_31 : decode cX7_pass 31 = .ok (.ldc 228, 2) := by decide +kernel
theorem dX7_pass_33 : decode cX7_pass 33 = .ok (.invokespecial 62, 3) := by decide +kernel
theorem dX7_pass_36 : decode cX7_pass 36 = .ok (.athrow, 1) := by decide +kernel
theorem dX7_pass_37 : decode cX7_pass 37 = .ok (.aload_n 0, 1) := by decide +kernel
theorem dX7_pass_38 : decode cX7_pass 38 = .ok (.invokevirtual 77, 3) := by decide +kernel
theorem dX7_pass_41 : decode cX7_pass 41 = .ok (.aload_n 0, 1) := by decide +kernel
theorem dX7_pass_42 : decode cX7_pass 42 = .ok (.getfield 37, 3) := by decide +kernel
theorem dX7_pass_45 : decode cX7_pass 45 = .ok (.iconst 2, 1) := by decide +kernel
theorem dX7_pass_46 : decode cX7_pass 46 = .ok (.invokevirtual 99, 3) := by decide +kernel
theorem dX7_pass_49 : decode cX7_pass 49 = .ok (.istore_n 2, 1) := by decide +kernel
theorem dX7_pass_50 : decode cX7_pass 50 = .ok (.iconst 0, 1) := by decide +kernel
theorem dX7_pass_51 : decode cX7_pass 51 = .ok (.istore_n 3, 1) := by decide +kernel
theorem dX7_pass_52 : decode cX7_pass 52 = .ok (.iload_n 3, 1) := by decide +kernel
theorem dX7_pass_53 : decode cX7_pass 53 = .ok (.iload_n 1, 1) := by decide +kernel
theorem dX7_pass_54 : decode cX7_pass 54 = .ok (.if_icmp .ge 16, 3) := by decide +kernel
theorem dX7_pass_57 : decode cX7_pass 57 = .ok (.aload_n 0, 1) := by decide +kernel
theorem dX7_pass_58 : decode cX7_pass 58 = .ok (.getfield 37, 3) := by decide +kernel
theorem dX7_pass_61 : decode cX7_pass 61 = .ok (.invokevirtual 225, 3) := by decide +kernel
theorem dX7_pass_64 : decode cX7_pass 64 = .ok (.iinc 3 1, 3) := by decide +kernel
theorem dX7_pass_67 : decode cX7_pass 67 = .ok (.goto (-15), 3) := by decide +kernel
theorem dX7_pass_70 : decode cX7_pass 70 = .ok (.aload_n 0, 1) := by decide +kernel
theorem dX7_pass_71 : decode cX7_pass 71 = .ok (.getfield 37, 3) := by decide +kernel
theorem dX7_pass_74 : decode cX7_pass 74 = .ok (.iconst 2, 1) := by decide +kernel
theorem dX7_pass_75 : decode cX7_pass 75 = .ok (.invokevirtual 99, 3) := by decide +kernel
theorem dX7_pass_78 : decode cX7_pass 78 = .ok (.iload_n 2, 1) := by decide +kernel
theorem dX7_pass_79 : decode cX7_pass 79 = .ok (.isub, 1) := by decide +kernel
theorem dX7_pass_80 : decode cX7_pass 80 = .ok (.ireturn, 1) := by decide +kernel
theorem dX7_raise_0 : decode cX7_raise 0 = .ok (.aload_n 0, 1) := by decide +kernel
theorem dX7_raise_1 : decode cX7_raise 1 = .ok (.getfield 37, 3) := by decide +kernel
theorem dX7_raise_4 : decode cX7_raise 4 = .ok (.iload_n 1, 1) := by decide +kernel
theorem dX7_raise_5 : decode cX7_raise 5 = .ok (.invokevirtual 154, 3) := by decide +kernel
theorem dX7_raise_8 : decode cX7_raise 8 = .ok (.ifCond .ne 13, 3) := by decide +kernel
theorem dX7_raise_11 : decode cX7_raise 11 = .ok (.new 116, 3) := by decide +kernel
theorem dX7_raise_14 : decode cX7_raise 14 = .ok (.dup, 1) := by decide +kernel
theorem dX7_raise_15 : decode cX7_raise 15 = .ok (.ldc 157, 2) := by decide +kernel
theorem dX7_raise_17 : decode cX7_raise 17 = .ok (.invokespecial 120, 3) := by decide +kernel
theorem dX7_raise_20 : decode cX7_raise 20 = .ok (.athrow, 1) := by decide +kernel
theorem dX7_raise_21 : decode cX7_raise 21 = .ok (.iload_n 2, 1) := by decide +kernel
theorem dX7_raise_22 : decode cX7_raise 22 = .ok (.iconst 1, 1) := by decide +kernel
theorem dX7_raise_23 : decode cX7_raise 23 = .ok (.if_icmp .lt 9, 3) := by decide +kernel
theorem dX7_raise_26 : decode cX7_raise 26 = .ok (.iload_n 2, 1) := by decide +kernel
theorem dX7_raise_27 : decode cX7_raise 27 = .ok (.bipush 99, 2) := by decide +kernel
theorem dX7_raise_29 : decode cX7_raise 29 = .ok (.if_icmp .le 13, 3) := by decide +kernel
theorem dX7_raise_32 : decode cX7_raise 32 = .ok (.new 58, 3) := by decide +kernel
theorem dX7_raise_35 : decode cX7_raise 35 = .ok (.dup, 1) := by decide +kernel
theorem dX7_raise_36 : decode cX7_raise 36 = .ok (.ldc 240, 2) := by decide +kernel
theorem dX7_raise_38 : decode cX7_raise 38 = .ok (.invokespecial 62, 3) := by decide +kernel
theorem dX7_raise_41 : decode cX7_raise 41 = .ok (.athrow, 1) := by decide +kernel
theorem dX7_raise_42 : decode cX7_raise 42 = .ok (.aload_n 0, 1) := by decide +kernel
theorem dX7_raise_43 : decode cX7_raise 43 = .ok (.getfield 37, 3) := by decide +kernel
theorem dX7_raise_46 : decode cX7_raise 46 = .ok (.getfield 84, 3) := by decide +kernel
theorem dX7_raise_49 : decode cX7_raise 49 = .ok (.bipush 60, 2) := by decide +kernel
theorem dX7_raise_51 : decode cX7_raise 51 = .ok (.if_icmp .lt 13, 3) := by decide +kernel
theorem dX7_raise_54 : decode cX7_raise 54 = .ok (.new 242, 3) := by decide +kernel
theorem dX7_raise_57 : decode cX7_raise 57 = .ok (.dup, 1) := by decide +kernel
theorem dX7_raise_58 : decode cX7_raise 58 = .ok (.ldc 244, 2) := by decide +kernel
theorem dX7_raise_60 : decode cX7_raise 60 = .ok (.invokespecial 246, 3) := by decide +kernel
theorem dX7_raise_63 : decode cX7_raise 63 = .ok (.athrow, 1) := by decide +kernel
theorem dX7_raise_64 : decode cX7_raise 64 = .ok (.aload_n 0, 1) := by decide +kernel
theorem dX7_raise_65 : decode cX7_raise 65 = .ok (.invokevirtual 77, 3) := by decide +kernel
theorem dX7_raise_68 : decode cX7_raise 68 = .ok (.aload_n 0, 1) := by decide +kernel
theorem dX7_raise_69 : decode cX7_raise 69 = .ok (.getfield 37, 3) := by decide +kernel
theorem dX7_raise_72 : decode cX7_raise 72 = .ok (.getfield 84, 3) := by decide +kernel
theorem dX7_raise_75 : decode cX7_raise 75 = .ok (.istore_n 3, 1) := by decide +kernel
theorem dX7_raise_76 : decode cX7_raise 76 = .ok (.aload_n 0, 1) := by decide +kernel
theorem dX7_raise_77 : decode cX7_raise 77 = .ok (.getfield 37, 3) := by decide +kernel
theorem dX7_raise_80 : decode cX7_raise 80 = .ok (.iload_n 1, 1) := by decide +kernel
theorem dX7_raise_81 : decode cX7_raise 81 = .ok (.aload_n 0, 1) := by decide +kernel
theorem dX7_raise_82 : decode cX7_raise 82 = .ok (.getfield 37, 3) := by decide +kernel
theorem dX7_raise_85 : decode cX7_raise 85 = .ok (.getfield 87, 3) := by decide +kernel
theorem dX7_raise_88 : decode cX7_raise 88 = .ok (.iload_n 2, 1) := by decide +kernel
theorem dX7_raise_89 : decode cX7_raise 89 = .ok (.invokevirtual 247, 3) := by decide +kernel
theorem dX7_raise_92 : decode cX7_raise 92 = .ok (.aload_n 0, 1) := by decide +kernel
theorem dX7_raise_93 : decode cX7_raise 93 = .ok (.getfield 37, 3) := by decide +kernel
theorem dX7_raise_96 : decode cX7_raise 96 = .ok (.aload_n 0, 1) := by decide +kernel
theorem dX7_raise_97 : decode cX7_raise 97 = .ok (.getfield 37, 3) := by decide +kernel
theorem dX7_raise_100 : decode cX7_raise 100 = .ok (.getfield 195, 3) := by decide +kernel
theorem dX7_raise_103 : decode cX7_raise 103 = .ok (.iload_n 3, 1) := by decide +kernel
theorem dX7_raise_104 : decode cX7_raise 104 = .ok (.aaload, 1) := by decide +kernel
theorem dX7_raise_105 : decode cX7_raise 105 = .ok (.invokevirtual 251, 3) := by decide +kernel
theorem dX7_raise_108 : decode cX7_raise 108 = .ok (.iload_n 3, 1) := by decide +kernel
theorem dX7_raise_109 : decode cX7_raise 109 = .ok (.ireturn, 1) := by decide +kernel
theorem dX7_lease_0 : decode cX7_lease 0 = .ok (.aload_n 0, 1) := by decide +kernel
theorem dX7_lease_1 : decode cX7_lease 1 = .ok (.getfield 37, 3) := by decide +kernel
theorem dX7_lease_4 : decode cX7_lease 4 = .ok (.iload_n 1, 1) := by decide +kernel
theorem dX7_lease_5 : decode cX7_lease 5 = .ok (.invokevirtual 112, 3) := by decide +kernel
theorem dX7_lease_8 : decode cX7_lease 8 = .ok (.ifCond .eq 14, 3) := by decide +kernel
theorem dX7_lease_11 : decode cX7_lease 11 = .ok (.aload_n 0, 1) := by decide +kernel
theorem dX7_lease_12 : decode cX7_lease 12 = .ok (.getfield 37, 3) := by decide +kernel
theorem dX7_lease_15 : decode cX7_lease 15 = .ok (.iload_n 2, 1) := by decide +kernel
theorem dX7_lease_16 : decode cX7_lease 16 = .ok (.invokevirtual 154, 3) := by decide +kernel
theorem dX7_lease_19 : decode cX7_lease 19 = .ok (.ifCond .ne 13, 3) := by decide +kernel
theorem dX7_lease_22 : decode cX7_lease 22 = .ok (.new 116, 3) := by decide +kernel
theorem dX7_lease_25 : decode cX7_lease 25 = .ok (.dup, 1) := by decide +kernel
theorem dX7_lease_26 : decode cX7_lease 26 = .ok (.ldc 255, 2) := by decide +kernel
theorem dX7_lease_28 : decode cX7_lease 28 = .ok (.invokespecial 120, 3) := by decide +kernel
theorem dX7_lease_31 : decode cX7_lease 31 = .ok (.athrow, 1) := by decide +kernel
theorem dX7_lease_32 : decode cX7_lease 32 = .ok (.aload_n 0, 1) := by decide +kernel
theorem dX7_lease_33 : decode cX7_lease 33 = .ok (.invokevirtual 77, 3) := by decide +kernel
theorem dX7_lease_36 : decode cX7_lease 36 = .ok (.aload_n 0, 1) := by decide +kernel
theorem dX7_lease_37 : decode cX7_lease 37 = .ok (.getfield 37, 3) := by decide +kernel
theorem dX7_lease_40 : decode cX7_lease 40 = .ok (.iload_n 1, 1) := by decide +kernel
theorem dX7_lease_41 : decode cX7_lease 41 = .ok (.iload_n 2, 1) := by decide +kernel
theorem dX7_lease_42 : decode cX7_lease 42 = .ok (.invokevirtual 233, 3) := by decide +kernel
theorem dX7_lease_45 : decode cX7_lease 45 = .ok (.ifCond .eq 15, 3) := by decide +kernel
theorem dX7_lease_48 : decode cX7_lease 48 = .ok (.aload_n 0, 1) := by decide +kernel
theorem dX7_lease_49 : decode cX7_lease 49 = .ok (.getfield 37, 3) := by decide +kernel
theorem dX7_lease_52 : decode cX7_lease 52 = .ok (.iload_n 1, 1) := by decide +kernel
theorem dX7_lease_53 : decode cX7_lease 53 = .ok (.iload_n 2, 1) := by decide +kernel
theorem dX7_lease_54 : decode cX7_lease 54 = .ok (.invokevirtual 237, 3) := by decide +kernel
theorem dX7_lease_57 : decode cX7_lease 57 = .ok (.goto 4, 3) := by decide +kernel
theorem dX7_lease_60 : decode cX7_lease 60 = .ok (.iconst (-1), 1) := by decide +kernel
theorem dX7_lease_61 : decode cX7_lease 61 = .ok (.ireturn, 1) := by decide +kernel
theorem dX7_release_0 : decode cX7_release 0 = .ok (.aload_n 0, 1) := by decide +kernel
theorem dX7_release_1 : decode cX7_release 1 = .ok (.getfield 37, 3) := by decide +kernel
theorem dX7_release_4 : decode cX7_release 4 = .ok (.iload_n 1, 1) := by decide +kernel
theorem dX7_release_5 : decode cX7_release 5 = .ok (.invokevirtual 112, 3) := by decide +kernel
theorem dX7_release_8 : decode cX7_release 8 = .ok (.ifCond .eq 14, 3) := by decide +kernel
theorem dX7_release_11 : decode cX7_release 11 = .ok (.aload_n 0, 1) := by decide +kernel
theorem dX7_release_12 : decode cX7_release 12 = .ok (.getfield 37, 3) := by decide +kernel
theorem dX7_release_15 : decode cX7_release 15 = .ok (.iload_n 2, 1) := by decide +kernel
theorem dX7_release_16 : decode cX7_release 16 = .ok (.invokevirtual 154, 3) := by decide +kernel
theorem dX7_release_19 : decode cX7_release 19 = .ok (.ifCond .ne 13, 3) := by decide +kernel
theorem dX7_release_22 : decode cX7_release 22 = .ok (.new 116, 3) := by decide +kernel
theorem dX7_release_25 : decode cX7_release 25 = .ok (.dup, 1) := by decide +kernel
theorem dX7_release_26 : decode cX7_release 26 = .ok (.ldc 255, 2) := by decide +kernel
theorem dX7_release_28 : decode cX7_release 28 = .ok (.invokespecial 120, 3) := by decide +kernel
theorem dX7_release_31 : decode cX7_release 31 = .ok (.athrow, 1) := by decide +kernel
theorem dX7_release_32 : decode cX7_release 32 = .ok (.aload_n 0, 1) := by decide +kernel
theorem dX7_release_33 : decode cX7_release 33 = .ok (.invokevirtual 77, 3) := by decide +kernel
theorem dX7_release_36 : decode cX7_release 36 = .ok (.aload_n 0, 1) := by decide +kernel
theorem dX7_release_37 : decode cX7_release 37 = .ok (.getfield 37, 3) := by decide +kernel
theorem dX7_release_40 : decode cX7_release 40 = .ok (.getfield 159, 3) := by decide +kernel
theorem dX7_release_43 : decode cX7_release 43 = .ok (.iload_n 2, 1) := by decide +kernel
theorem dX7_release_44 : decode cX7_release 44 = .ok (.aaload, 1) := by decide +kernel
theorem dX7_release_45 : decode cX7_release 45 = .ok (.iload_n 1, 1) := by decide +kernel
theorem dX7_release_46 : decode cX7_release 46 = .ok (.invokevirtual 257, 3) := by decide +kernel
theorem dX7_release_49 : decode cX7_release 49 = .ok (.ifCond .lt 15, 3) := by decide +kernel
theorem dX7_release_52 : decode cX7_release 52 = .ok (.aload_n 0, 1) := by decide +kernel
theorem dX7_release_53 : decode cX7_release 53 = .ok (.getfield 37, 3) := by decide +kernel
theorem dX7_release_56 : decode cX7_release 56 = .ok (.iload_n 1, 1) := by decide +kernel
theorem dX7_release_57 : decode cX7_release 57 = .ok (.iload_n 2, 1) := by decide +kernel
theorem dX7_release_58 : decode cX7_release 58 = .ok (.invokevirtual 260, 3) := by decide +kernel
theorem dX7_release_61 : decode cX7_release 61 = .ok (.goto 4, 3) := by decide +kernel
theorem dX7_release_64 : decode cX7_release 64 = .ok (.iconst (-1), 1) := by decide +kernel
theorem dX7_release_65 : decode cX7_release 65 = .ok (.ireturn, 1) := by decide +kernel
theorem dX7_fund_0 : decode cX7_fund 0 = .ok (.aload_n 0, 1) := by decide +kernel
theorem dX7_fund_1 : decode cX7_fund 1 = .ok (.getfield 37, 3) := by decide +kernel
theorem dX7_fund_4 : decode cX7_fund 4 = .ok (.iload_n 1, 1) := by decide +kernel
theorem dX7_fund_5 : decode cX7_fund 5 = .ok (.invokevirtual 112, 3) := by decide +kernel
theorem dX7_fund_8 : decode cX7_fund 8 = .ok (.ifCond .ne 13, 3) := by decide +kernel
theorem dX7_fund_11 : decode cX7_fund 11 = .ok (.new 116, 3) := by decide +kernel
theorem dX7_fund_14 : decode cX7_fund 14 = .ok (.dup, 1) := by decide +kernel
theorem dX7_fund_15 : decode cX7_fund 15 = .ok (.ldc 118, 2) := by decide +kernel
theorem dX7_fund_17 : decode cX7_fund 17 = .ok (.invokespecial 120, 3) := by decide +kernel
theorem dX7_fund_20 : decode cX7_fund 20 = .ok (.athrow, 1) := by decide +kernel
theorem dX7_fund_21 : decode cX7_fund 21 = .ok (.iload_n 2, 1) := by decide +kernel
theorem dX7_fund_22 : decode cX7_fund 22 = .ok (.iconst 1, 1) := by decide +kernel
theorem dX7_fund_23 : decode cX7_fund 23 = .ok (.if_icmp .lt 10, 3) := by decide +kernel
theorem dX7_fund_26 : decode cX7_fund 26 = .ok (.iload_n 2, 1) := by decide +kernel
theorem dX7_fund_27 : decode cX7_fund 27 = .ok (.sipush 9999, 3) := by decide +kernel
theorem dX7_fund_30 : decode cX7_fund 30 = .ok (.if_icmp .le 14, 3) := by decide +kernel
theorem dX7_fund_33 : decode cX7_fund 33 = .ok (.new 58, 3) := by decide +kernel
theorem dX7_fund_36 : decode cX7_fund 36 = .ok (.dup, 1) := by decide +kernel
theorem dX7_fund_37 : decode cX7_fund 37 = .ok (.ldc_w 263, 3) := by decide +kernel
theorem dX7_fund_40 : decode cX7_fund 40 = .ok (.invokespecial 62, 3) := by decide +kernel
theorem dX7_fund_43 : decode cX7_fund 43 = .ok (.athrow, 1) := by decide +kernel
theorem dX7_fund_44 : decode cX7_fund 44 = .ok (.aload_n 0, 1) := by decide +kernel
theorem dX7_fund_45 : decode cX7_fund 45 = .ok (.invokevirtual 77, 3) := by decide +kernel
theorem dX7_fund_48 : decode cX7_fund 48 = .ok (.aload_n 0, 1) := by decide +kernel
theorem dX7_fund_49 : decode cX7_fund 49 = .ok (.getfield 37, 3) := by decide +kernel
theorem dX7_fund_52 : decode cX7_fund 52 = .ok (.getfield 121, 3) := by decide +kernel
theorem dX7_fund_55 : decode cX7_fund 55 = .ok (.iload_n 1, 1) := by decide +kernel
theorem dX7_fund_56 : decode cX7_fund 56 = .ok (.aaload, 1) := by decide +kernel
theorem dX7_fund_57 : decode cX7_fund 57 = .ok (.astore_n 3, 1) := by decide +kernel
theorem dX7_fund_58 : decode cX7_fund 58 = .ok (.aload_n 3, 1) := by decide +kernel
theorem dX7_fund_59 : decode cX7_fund 59 = .ok (.dup, 1) := by decide +kernel
theorem dX7_fund_60 : decode cX7_fund 60 = .ok (.getfield 125, 3) := by decide +kernel
theorem dX7_fund_63 : decode cX7_fund 63 = .ok (.iload_n 2, 1) := by decide +kernel
theorem dX7_fund_64 : decode cX7_fund 64 = .ok (.iadd, 1) := by decide +kernel
theorem dX7_fund_65 : decode cX7_fund 65 = .ok (.putfield 125, 3) := by decide +kernel
theorem dX7_fund_68 : decode cX7_fund 68 = .ok (.aload_n 3, 1) := by decide +kernel
theorem dX7_fund_69 : decode cX7_fund 69 = .ok (.iconst 0, 1) := by decide +kernel
theorem dX7_fund_70 : decode cX7_fund 70 = .ok (.putfield 133, 3) := by decide +kernel
theorem dX7_fund_73 : decode cX7_fund 73 = .ok (.aload_n 3, 1) := by decide +kernel
theorem dX7_fund_74 : decode cX7_fund 74 = .ok (.getfield 125, 3) := by decide +kernel
theorem dX7_fund_77 : decode cX7_fund 77 = .ok (.ireturn, 1) := by decide +kernel
theorem dX7_undo_0 : decode cX7_undo 0 = .ok (.aload_n 0, 1) := by decide +kernel
theorem dX7_undo_1 : decode cX7_undo 1 = .ok (.getfield 48, 3) := by decide +kernel
theorem dX7_undo_4 : decode cX7_undo 4 = .ok (.ifCond .ne 5, 3) := by decide +kernel
theorem dX7_undo_7 : decode cX7_undo 7 = .ok (.iconst (-1), 1) := by decide +kernel
theorem dX7_undo_8 : decode cX7_undo 8 = .ok (.ireturn, 1) := by decide +kernel
theorem dX7_undo_9 : decode cX7_undo 9 = .ok (.aload_n 0, 1) := by decide +kernel
theorem dX7_undo_10 : decode cX7_undo 10 = .ok (.aload_n 0, 1) := by decide +kernel
theorem dX7_undo_11 : decode cX7_undo 11 = .ok (.getfield 51, 3) := by decide +kernel
theorem dX7_undo_14 : decode cX7_undo 14 = .ok (.ifCond .le 12, 3) := by decide +kernel
theorem dX7_undo_17 : decode cX7_undo 17 = .ok (.aload_n 0, 1) := by decide +kernel
theorem dX7_undo_18 : decode cX7_undo 18 = .ok (.getfield 51, 3) := by decide +kernel
theorem dX7_undo_21 : decode cX7_undo 21 = .ok (.iconst 1, 1) := by decide +kernel
theorem dX7_undo_22 : decode cX7_undo 22 = .ok (.isub, 1) := by decide +kernel
theorem dX7_undo_23 : decode cX7_undo 23 = .ok (.goto 10, 3) := by decide +kernel
theorem dX7_undo_26 : decode cX7_undo 26 = .ok (.aload_n 0, 1) := by decide +kernel
theorem dX7_undo_27 : decode cX7_undo 27 = .ok (.getfield 44, 3) := by decide +kernel
theorem dX7_undo_30 : decode cX7_undo 30 = .ok (.arraylength, 1) := by decide +kernel
theorem dX7_undo_31 : decode cX7_undo 31 = .ok (.iconst 1, 1) := by decide +kernel
theorem dX7_undo_32 : decode cX7_undo 32 = .ok (.isub, 1) := by decide +kernel
theorem dX7_undo_33 : decode cX7_undo 33 = .ok (.putfield 51, 3) := by decide +kernel
theorem dX7_undo_36 : decode cX7_undo 36 = .ok (.aload_n 0, 1) := by decide +kernel
theorem dX7_undo_37 : decode cX7_undo 37 = .ok (.dup, 1) := by decide +kernel
theorem dX7_undo_38 : decode cX7_undo 38 = .ok (.getfield 48, 3) := by decide +kernel
theorem dX7_undo_41 : decode cX7_undo 41 = .ok (.iconst 1, 1) := by decide +kernel
theorem dX7_undo_42 : decode cX7_undo 42 = .ok (.isub, 1) := by decide +kernel
theorem dX7_undo_43 : decode cX7_undo 43 = .ok (.putfield 48, 3) := by decide +kernel
theorem dX7_undo_46 : decode cX7_undo 46 = .ok (.aload_n 0, 1) := by decide +kernel
theorem dX7_undo_47 : decode cX7_undo 47 = .ok (.getfield 37, 3) := by decide +kernel
theorem dX7_undo_50 : decode cX7_undo 50 = .ok (.aload_n 0, 1) := by decide +kernel
theorem dX7_undo_51 : decode cX7_undo 51 = .ok (.getfield 44, 3) := by decide +kernel
theorem dX7_undo_54 : decode cX7_undo 54 = .ok (.aload_n 0, 1) := by decide +kernel
theorem dX7_undo_55 : decode cX7_undo 55 = .ok (.getfield 51, 3) := by decide +kernel
theorem dX7_undo_58 : decode cX7_undo 58 = .ok (.aaload, 1) := by decide +kernel
theorem dX7_undo_59 : decode cX7_undo 59 = .ok (.invokevirtual 80, 3) := by decide +kernel
theorem dX7_undo_62 : decode cX7_undo 62 = .ok (.aload_n 0, 1) := by decide +kernel
theorem dX7_undo_63 : decode cX7_undo 63 = .ok (.getfield 48, 3) := by decide +kernel
theorem dX7_undo_66 : decode cX7_undo 66 = .ok (.ireturn, 1) := by decide +kernel
theorem dX7_keepPresent_0 : decode cX7_keepPresent 0 = .ok (.aload_n 0, 1) := by decide +kernel
theorem dX7_keepPresent_1 : decode cX7_keepPresent 1 = .ok (.getfield 44, 3) := by decide +kernel
theorem dX7_keepPresent_4 : decode cX7_keepPresent 4 = .ok (.aload_n 0, 1) := by decide +kernel
theorem dX7_keepPresent_5 : decode cX7_keepPresent 5 = .ok (.getfield 51, 3) := by decide +kernel
theorem dX7_keepPresent_8 : decode cX7_keepPresent 8 = .ok (.aaload, 1) := by decide +kernel
theorem dX7_keepPresent_9 : decode cX7_keepPresent 9 = .ok (.aload_n 0, 1) := by decide +kernel
theorem dX7_keepPresent_10 : decode cX7_keepPresent 10 = .ok (.getfield 37, 3) := by decide +kernel
theorem dX7_keepPresent_13 : decode cX7_keepPresent 13 = .ok (.invokevirtual 80, 3) := by decide +kernel
theorem dX7_keepPresent_16 : decode cX7_keepPresent 16 = .ok (.aload_n 0, 1) := by decide +kernel
theorem dX7_keepPresent_17 : decode cX7_keepPresent 17 = .ok (.aload_n 0, 1) := by decide +kernel
theorem dX7_keepPresent_18 : decode cX7_keepPresent 18 = .ok (.getfield 51, 3) := by decide +kernel
theorem dX7_keepPresent_21 : decode cX7_keepPresent 21 = .ok (.iconst 1, 1) := by decide +kernel
theorem dX7_keepPresent_22 : decode cX7_keepPresent 22 = .ok (.iadd, 1) := by decide +kernel
theorem dX7_keepPresent_23 : decode cX7_keepPresent 23 = .ok (.aload_n 0, 1) := by decide +kernel
theorem dX7_keepPresent_24 : decode cX7_keepPresent 24 = .ok (.getfield 44, 3) := by decide +kernel
theorem dX7_keepPresent_27 : decode cX7_keepPresent 27 = .ok (.arraylength, 1) := by decide +kernel
theorem dX7_keepPresent_28 : decode cX7_keepPresent 28 = .ok (.if_icmp .ge 12, 3) := by decide +kernel
theorem dX7_keepPresent_31 : decode cX7_keepPresent 31 = .ok (.aload_n 0, 1) := by decide +kernel
theorem dX7_keepPresent_32 : decode cX7_keepPresent 32 = .ok (.getfield 51, 3) := by decide +kernel
theorem dX7_keepPresent_35 : decode cX7_keepPresent 35 = .ok (.iconst 1, 1) := by decide +kernel
theorem dX7_keepPresent_36 : decode cX7_keepPresent 36 = .ok (.iadd, 1) := by decide +kernel
theorem dX7_keepPresent_37 : decode cX7_keepPresent 37 = .ok (.goto 4, 3) := by decide +kernel
theorem dX7_keepPresent_40 : decode cX7_keepPresent 40 = .ok (.iconst 0, 1) := by decide +kernel
theorem dX7_keepPresent_41 : decode cX7_keepPresent 41 = .ok (.putfield 51, 3) := by decide +kernel
theorem dX7_keepPresent_44 : decode cX7_keepPresent 44 = .ok (.aload_n 0, 1) := by decide +kernel
theorem dX7_keepPresent_45 : decode cX7_keepPresent 45 = .ok (.getfield 48, 3) := by decide +kernel
theorem dX7_keepPresent_48 : decode cX7_keepPresent 48 = .ok (.aload_n 0, 1) := by decide +kernel
theorem dX7_keepPresent_49 : decode cX7_keepPresent 49 = .ok (.getfield 44, 3) := by decide +kernel
theorem dX7_keepPresent_52 : decode cX7_keepPresent 52 = .ok (.arraylength, 1) := by decide +kernel
theorem dX7_keepPresent_53 : decode cX7_keepPresent 53 = .ok (.if_icmp .ge 13, 3) := by decide +kernel
theorem dX7_keepPresent_56 : decode cX7_keepPresent 56 = .ok (.aload_n 0, 1) := by decide +kernel
theorem dX7_keepPresent_57 : decode cX7_keepPresent 57 = .ok (.dup, 1) := by decide +kernel
theorem dX7_keepPresent_58 : decode cX7_keepPresent 58 = .ok (.getfield 48, 3) := by decide +kernel
theorem dX7_keepPresent_61 : decode cX7_keepPresent 61 = .ok (.iconst 1, 1) := by decide +kernel
theorem dX7_keepPresent_62 : decode cX7_keepPresent 62 = .ok (.iadd, 1) := by decide +kernel
theorem dX7_keepPresent_63 : decode cX7_keepPresent 63 = .ok (.putfield 48, 3) := by decide +kernel
theorem dX7_keepPresent_66 : decode cX7_keepPresent 66 = .ok (.return_, 1) := by decide +kernel
theorem dX7_checksum_0 : decode cX7_checksum 0 = .ok (.lconst 0, 1) := by decide +kernel
theorem dX7_checksum_1 : decode cX7_checksum 1 = .ok (.lstore_n 1, 1) := by decide +kernel
theorem dX7_checksum_2 : decode cX7_checksum 2 = .ok (.iconst 0, 1) := by decide +kernel
theorem dX7_checksum_3 : decode cX7_checksum 3 = .ok (.istore_n 3, 1) := by decide +kernel
theorem dX7_checksum_4 : decode cX7_checksum 4 = .ok (.iload_n 3, 1) := by decide +kernel
theorem dX7_checksum_5 : decode cX7_checksum 5 = .ok (.bipush 10, 2) := by decide +kernel
theorem dX7_checksum_7 : decode cX7_checksum 7 = .ok (.if_icmp .ge 22, 3) := by decide +kernel
theorem dX7_checksum_10 : decode cX7_checksum 10 = .ok (.ldc2_w 265, 3) := by decide +kernel
theorem dX7_checksum_13 : decode cX7_checksum 13 = .ok (.lload_n 1, 1) := by decide +kernel
theorem dX7_checksum_14 : decode cX7_checksum 14 = .ok (.lmul, 1) := by decide +kernel
theorem dX7_checksum_15 : decode cX7_checksum 15 = .ok (.aload_n 0, 1) := by decide +kernel
theorem dX7_checksum_16 : decode cX7_checksum 16 = .ok (.iload_n 3, 1) := by decide +kernel
theorem dX7_checksum_17 : decode cX7_checksum 17 = .ok (.invokevirtual 267, 3) := by decide +kernel
theorem dX7_checksum_20 : decode cX7_checksum 20 = .ok (.i2l, 1) := by decide +kernel
theorem dX7_checksum_21 : decode cX7_checksum 21 = .ok (.ladd, 1) := by decide +kernel
theorem dX7_checksum_22 : decode cX7_checksum 22 = .ok (.lstore_n 1, 1) := by decide +kernel
theorem dX7_checksum_23 : decode cX7_checksum 23 = .ok (.iinc 3 1, 3) := by decide +kernel
theorem dX7_checksum_26 : decode cX7_checksum 26 = .ok (.goto (-22), 3) := by decide +kernel
theorem dX7_checksum_29 : decode cX7_checksum 29 = .ok (.iconst 0, 1) := by decide +kernel
theorem dX7_checksum_30 : decode cX7_checksum 30 = .ok (.istore_n 3, 1) := by decide +kernel
theorem dX7_checksum_31 : decode cX7_checksum 31 = .ok (.iload_n 3, 1) := by decide +kernel
theorem dX7_checksum_32 : decode cX7_checksum 32 = .ok (.aload_n 0, 1) := by decide +kernel
theorem dX7_checksum_33 : decode cX7_checksum 33 = .ok (.getfield 37, 3) := by decide +kernel
theorem dX7_checksum_36 : decode cX7_checksum 36 = .ok (.getfield 90, 3) := by decide +kernel
theorem dX7_checksum_39 : decode cX7_checksum 39 = .ok (.if_icmp .ge 40, 3) := by decide +kernel
theorem dX7_checksum_42 : decode cX7_checksum 42 = .ok (.iconst 0, 1) := by decide +kernel
theorem dX7_checksum_43 : decode cX7_checksum 43 = .ok (.istore 4, 2) := by decide +kernel
theorem dX7_checksum_45 : decode cX7_checksum 45 = .ok (.iload 4, 2) := by decide +kernel
theorem dX7_checksum_47 : decode cX7_checksum 47 = .ok (.bipush 8, 2) := by decide +kernel
theorem dX7_checksum_49 : decode cX7_checksum 49 = .ok (.if_icmp .ge 24, 3) := by decide +kernel
theorem dX7_checksum_52 : decode cX7_checksum 52 = .ok (.ldc2_w 265, 3) := by decide +kernel
theorem dX7_checksum_55 : decode cX7_checksum 55 = .ok (.lload_n 1, 1) := by decide +kernel
theorem dX7_checksum_56 : decode cX7_checksum 56 = .ok (.lmul, 1) := by decide +kernel
theorem dX7_checksum_57 : decode cX7_checksum 57 = .ok (.aload_n 0, 1) := by decide +kernel
theorem dX7_checksum_58 : decode cX7_checksum 58 = .ok (.iload_n 3, 1) := by decide +kernel
theorem dX7_checksum_59 : decode cX7_checksum 59 = .ok (.iload 4, 2) := by decide +kernel
theorem dX7_checksum_61 : decode cX7_checksum 61 = .ok (.invokevirtual 269, 3) := by decide +kernel
theorem dX7_checksum_64 : decode cX7_checksum 64 = .ok (.i2l, 1) := by decide +kernel
theorem dX7_checksum_65 : decode cX7_checksum 65 = .ok (.ladd, 1) := by decide +kernel
theorem dX7_checksum_66 : decode cX7_checksum 66 = .ok (.lstore_n 1, 1) := by decide +kernel
theorem dX7_checksum_67 : decode cX7_checksum 67 = .ok (.iinc 4 1, 3) := by decide +kernel
theorem dX7_checksum_70 : decode cX7_checksum 70 = .ok (.goto (-25), 3) := by decide +kernel
theorem dX7_checksum_73 : decode cX7_checksum 73 = .ok (.iinc 3 1, 3) := by decide +kernel
theorem dX7_checksum_76 : decode cX7_checksum 76 = .ok (.goto (-45), 3) := by decide +kernel
theorem dX7_checksum_79 : decode cX7_checksum 79 = .ok (.iconst 0, 1) := by decide +kernel
theorem dX7_checksum_80 : decode cX7_checksum 80 = .ok (.istore_n 3, 1) := by decide +kernel
theorem dX7_checksum_81 : decode cX7_checksum 81 = .ok (.iload_n 3, 1) := by decide +kernel
theorem dX7_checksum_82 : decode cX7_checksum 82 = .ok (.aload_n 0, 1) := by decide +kernel
theorem dX7_checksum_83 : decode cX7_checksum 83 = .ok (.getfield 37, 3) := by decide +kernel
theorem dX7_checksum_86 : decode cX7_checksum 86 = .ok (.getfield 93, 3) := by decide +kernel
theorem dX7_checksum_89 : decode cX7_checksum 89 = .ok (.if_icmp .ge 80, 3) := by decide +kernel
theorem dX7_checksum_92 : decode cX7_checksum 92 = .ok (.iconst 0, 1) := by decide +kernel
theorem dX7_checksum_93 : decode cX7_checksum 93 = .ok (.istore 4, 2) := by decide +kernel
theorem dX7_checksum_95 : decode cX7_checksum 95 = .ok (.iload 4, 2) := by decide +kernel
theorem dX7_checksum_97 : decode cX7_checksum 97 = .ok (.iconst 5, 1) := by decide +kernel
theorem dX7_checksum_98 : decode cX7_checksum 98 = .ok (.if_icmp .ge 24, 3) := by decide +kernel
theorem dX7_checksum_101 : decode cX7_checksum 101 = .ok (.ldc2_w 265, 3) := by decide +kernel
theorem dX7_checksum_104 : decode cX7_checksum 104 = .ok (.lload_n 1, 1) := by decide +kernel
theorem dX7_checksum_105 : decode cX7_checksum 105 = .ok (.lmul, 1) := by decide +kernel
theorem dX7_checksum_106 : decode cX7_checksum 106 = .ok (.aload_n 0, 1) := by decide +kernel
theorem dX7_checksum_107 : decode cX7_checksum 107 = .ok (.iload_n 3, 1) := by decide +kernel
theorem dX7_checksum_108 : decode cX7_checksum 108 = .ok (.iload 4, 2) := by decide +kernel
theorem dX7_checksum_110 : decode cX7_checksum 110 = .ok (.invokevirtual 272, 3) := by decide +kernel
theorem dX7_checksum_113 : decode cX7_checksum 113 = .ok (.i2l, 1) := by decide +kernel
theorem dX7_checksum_114 : decode cX7_checksum 114 = .ok (.ladd, 1) := by decide +kernel
theorem dX7_checksum_115 : decode cX7_checksum 115 = .ok (.lstore_n 1, 1) := by decide +kernel
theorem dX7_checksum_116 : decode cX7_checksum 116 = .ok (.iinc 4 1, 3) := by decide +kernel
theorem dX7_checksum_119 : decode cX7_checksum 119 = .ok (.goto (-24), 3) := by decide +kernel
theorem dX7_checksum_122 : decode cX7_checksum 122 = .ok (.iconst 0, 1) := by decide +kernel
theorem dX7_checksum_123 : decode cX7_checksum 123 = .ok (.istore 4, 2) := by decide +kernel
theorem dX7_checksum_125 : decode cX7_checksum 125 = .ok (.iload 4, 2) := by decide +kernel
theorem dX7_checksum_127 : decode cX7_checksum 127 = .ok (.aload_n 0, 1) := by decide +kernel
theorem dX7_checksum_128 : decode cX7_checksum 128 = .ok (.getfield 37, 3) := by decide +kernel
theorem dX7_checksum_131 : decode cX7_checksum 131 = .ok (.getfield 159, 3) := by decide +kernel
theorem dX7_checksum_134 : decode cX7_checksum 134 = .ok (.iload_n 3, 1) := by decide +kernel
theorem dX7_checksum_135 : decode cX7_checksum 135 = .ok (.aaload, 1) := by decide +kernel
theorem dX7_checksum_136 : decode cX7_checksum 136 = .ok (.getfield 172, 3) := by decide +kernel
theorem dX7_checksum_139 : decode cX7_checksum 139 = .ok (.if_icmp .ge 24, 3) := by decide +kernel
theorem dX7_checksum_142 : decode cX7_checksum 142 = .ok (.ldc2_w 265, 3) := by decide +kernel
theorem dX7_checksum_145 : decode cX7_checksum 145 = .ok (.lload_n 1, 1) := by decide +kernel
theorem dX7_checksum_146 : decode cX7_checksum 146 = .ok (.lmul, 1) := by decide +kernel
theorem dX7_checksum_147 : decode cX7_checksum 147 = .ok (.aload_n 0, 1) := by decide +kernel
theorem dX7_checksum_148 : decode cX7_checksum 148 = .ok (.iload_n 3, 1) := by decide +kernel
theorem dX7_checksum_149 : decode cX7_checksum 149 = .ok (.iload 4, 2) := by decide +kernel
theorem dX7_checksum_151 : decode cX7_checksum 151 = .ok (.invokevirtual 274, 3) := by decide +kernel
theorem dX7_checksum_154 : decode cX7_checksum 154 = .ok (.i2l, 1) := by decide +kernel
theorem dX7_checksum_155 : decode cX7_checksum 155 = .ok (.ladd, 1) := by decide +kernel
theorem dX7_checksum_156 : decode cX7_checksum 156 = .ok (.lstore_n 1, 1) := by decide +kernel
theorem dX7_checksum_157 : decode cX7_checksum 157 = .ok (.iinc 4 1, 3) := by decide +kernel
theorem dX7_checksum_160 : decode cX7_checksum 160 = .ok (.goto (-35), 3) := by decide +kernel
theorem dX7_checksum_163 : decode cX7_checksum 163 = .ok (.iinc 3 1, 3) := by decide +kernel
theorem dX7_checksum_166 : decode cX7_checksum 166 = .ok (.goto (-85), 3) := by decide +kernel
theorem dX7_checksum_169 : decode cX7_checksum 169 = .ok (.iconst 0, 1) := by decide +kernel
theorem dX7_checksum_170 : decode cX7_checksum 170 = .ok (.istore_n 3, 1) := by decide +kernel
theorem dX7_checksum_171 : decode cX7_checksum 171 = .ok (.iload_n 3, 1) := by decide +kernel
theorem dX7_checksum_172 : decode cX7_checksum 172 = .ok (.aload_n 0, 1) := by decide +kernel
theorem dX7_checksum_173 : decode cX7_checksum 173 = .ok (.getfield 37, 3) := by decide +kernel
theorem dX7_checksum_176 : decode cX7_checksum 176 = .ok (.getfield 84, 3) := by decide +kernel
theorem dX7_checksum_179 : decode cX7_checksum 179 = .ok (.if_icmp .ge 40, 3) := by decide +kernel
theorem dX7_checksum_182 : decode cX7_checksum 182 = .ok (.iconst 0, 1) := by decide +kernel
theorem dX7_checksum_183 : decode cX7_checksum 183 = .ok (.istore 4, 2) := by decide +kernel
theorem dX7_checksum_185 : decode cX7_checksum 185 = .ok (.iload 4, 2) := by decide +kernel
theorem dX7_checksum_187 : decode cX7_checksum 187 = .ok (.bipush 7, 2) := by decide +kernel
theorem dX7_checksum_189 : decode cX7_checksum 189 = .ok (.if_icmp .ge 24, 3) := by decide +kernel
theorem dX7_checksum_192 : decode cX7_checksum 192 = .ok (.ldc2_w 265, 3) := by decide +kernel
theorem dX7_checksum_195 : decode cX7_checksum 195 = .ok (.lload_n 1, 1) := by decide +kernel
theorem dX7_checksum_196 : decode cX7_checksum 196 = .ok (.lmul, 1) := by decide +kernel
theorem dX7_checksum_197 : decode cX7_checksum 197 = .ok (.aload_n 0, 1) := by decide +kernel
theorem dX7_checksum_198 : decode cX7_checksum 198 = .ok (.iload_n 3, 1) := by decide +kernel
theorem dX7_checksum_199 : decode cX7_checksum 199 = .ok (.iload 4, 2) := by decide +kernel
theorem dX7_checksum_201 : decode cX7_checksum 201 = .ok (.invokevirtual 277, 3) := by decide +kernel
theorem dX7_checksum_204 : decode cX7_checksum 204 = .ok (.i2l, 1) := by decide +kernel
theorem dX7_checksum_205 : decode cX7_checksum 205 = .ok (.ladd, 1) := by decide +kernel
theorem dX7_checksum_206 : decode cX7_checksum 206 = .ok (.lstore_n 1, 1) := by decide +kernel
theorem dX7_checksum_207 : decode cX7_checksum 207 = .ok (.iinc 4 1, 3) := by decide +kernel
theorem dX7_checksum_210 : decode cX7_checksum 210 = .ok (.goto (-25), 3) := by decide +kernel
theorem dX7_checksum_213 : decode cX7_checksum 213 = .ok (.iinc 3 1, 3) := by decide +kernel
theorem dX7_checksum_216 : decode cX7_checksum 216 = .ok (.goto (-45), 3) := by decide +kernel
theorem dX7_checksum_219 : decode cX7_checksum 219 = .ok (.lload_n 1, 1) := by decide +kernel
theorem dX7_checksum_220 : decode cX7_checksum 220 = .ok (.lreturn, 1) := by decide +kernel
theorem dX8_init_0 : decode cX8_init 0 = .ok (.aload_n 0, 1) := by decide +kernel
theorem dX8_init_1 : decode cX8_init 1 = .ok (.invokespecial 3, 3) := by decide +kernel
theorem dX8_init_4 : decode cX8_init 4 = .ok (.aload_n 0, 1) := by decide +kernel
theorem dX8_init_5 : decode cX8_init 5 = .ok (.sipush 700, 3) := by decide +kernel
theorem dX8_init_8 : decode cX8_init 8 = .ok (.newarray .int, 2) := by decide +kernel
theorem dX8_init_10 : decode cX8_init 10 = .ok (.putfield 9, 3) := by decide +kernel
theorem dX8_init_13 : decode cX8_init 13 = .ok (.aload_n 0, 1) := by decide +kernel
theorem dX8_init_14 : decode cX8_init 14 = .ok (.iconst (-1), 1) := by decide +kernel
theorem dX8_init_15 : decode cX8_init 15 = .ok (.putfield 13, 3) := by decide +kernel
theorem dX8_init_18 : decode cX8_init 18 = .ok (.aload_n 0, 1) := by decide +kernel
theorem dX8_init_19 : decode cX8_init 19 = .ok (.sipush 1784, 3) := by decide +kernel
theorem dX8_init_22 : decode cX8_init 22 = .ok (.newarray .int, 2) := by decide +kernel
theorem dX8_init_24 : decode cX8_init 24 = .ok (.putfield 17, 3) := by decide +kernel
theorem dX8_init_27 : decode cX8_init 27 = .ok (.aload_n 0, 1) := by decide +kernel
theorem dX8_init_28 : decode cX8_init 28 = .ok (.sipush 1784, 3) := by decide +kernel
theorem dX8_init_31 : decode cX8_init 31 = .ok (.newarray .int, 2) := by decide +kernel
theorem dX8_init_33 : decode cX8_init 33 = .ok (.putfield 20, 3) := by decide +kernel
theorem dX8_init_36 : decode cX8_init 36 = .ok (.aload_n 0, 1) := by decide +kernel
theorem dX8_init_37 : decode cX8_init 37 = .ok (.sipush 584, 3) := by decide +kernel
theorem dX8_init_40 : decode cX8_init 40 = .ok (.newarray .int, 2) := by decide +kernel
theorem dX8_init_42 : decode cX8_init 42 = .ok (.putfield 23, 3) := by decide +kernel
theorem dX8_init_45 : decode cX8_init 45 = .ok (.aload_n 0, 1) := by decide +kernel
theorem dX8_init_46 : decode cX8_init 46 = .ok (.sipush 584, 3) := by decide +kernel
theorem dX8_init_49 : decode cX8_init 49 = .ok (.newarray .int, 2) := by decide +kernel
theorem dX8_init_51 : decode cX8_init 51 = .ok (.putfield 26, 3) := by decide +kernel
theorem dX8_init_54 : decode cX8_init 54 = .ok (.aload_n 0, 1) := by decide +kernel
theorem dX8_init_55 : decode cX8_init 55 = .ok (.bipush 8, 2) := by decide +kernel
theorem dX8_init_57 : decode cX8_init 57 = .ok (.sipush 1784, 3) := by decide +kernel
theorem dX8_init_60 : decode cX8_init 60 = .ok (.multianewarray 29 2, 4) := by decide +kernel
theorem dX8_init_64 : decode cX8_init 64 = .ok (.putfield 31, 3) := by decide +kernel
theorem dX8_init_67 : decode cX8_init 67 = .ok (.aload_n 0, 1) := by decide +kernel
theorem dX8_init_68 : decode cX8_init 68 = .ok (.sipush 1200, 3) := by decide +kernel
theorem dX8_init_71 : decode cX8_init 71 = .ok (.newarray .long, 2) := by decide +kernel
theorem dX8_init_73 : decode cX8_init 73 = .ok (.putfield 34, 3) := by decide +kernel
theorem dX8_init_76 : decode cX8_init 76 = .ok (.aload_n 0, 1) := by decide +kernel
theorem dX8_init_77 : decode cX8_init 77 = .ok (.iconst 3, 1) := by decide +kernel
theorem dX8_init_78 : decode cX8_init 78 = .ok (.newarray .int, 2) := by decide +kernel
theorem dX8_init_80 : decode cX8_init 80 = .ok (.putfield 38, 3) := by decide +kernel
theorem dX8_init_83 : decode cX8_init 83 = .ok (.aload_n 0, 1) := by decide +kernel
theorem dX8_init_84 : decode cX8_init 84 = .ok (.getfield 17, 3) := by decide +kernel
theorem dX8_init_87 : decode cX8_init 87 = .ok (.invokestatic 41, 3) := by decide +kernel
theorem dX8_init_90 : decode cX8_init 90 = .ok (.return_, 1) := by decide +kernel
theorem dX8_thrown_0 : decode cX8_thrown 0 = .ok (.aload_n 0, 1) := by decide +kernel
theorem dX8_thrown_1 : decode cX8_thrown 1 = .ok (.getfield 45, 3) := by decide +kernel
theorem dX8_thrown_4 : decode cX8_thrown 4 = .ok (.ireturn, 1) := by decide +kernel
theorem dX8_fails_0 : decode cX8_fails 0 = .ok (.iload_n 1, 1) := by decide +kernel
theorem dX8_fails_1 : decode cX8_fails 1 = .ok (.ifCond .eq 15, 3) := by decide +kernel
theorem dX8_fails_4 : decode cX8_fails 4 = .ok (.aload_n 0, 1) := by decide +kernel
theorem dX8_fails_5 : decode cX8_fails 5 = .ok (.getfield 45, 3) := by decide +kernel
theorem dX8_fails_8 : decode cX8_fails 8 = .ok (.ifCond .ne 8, 3) := by decide +kernel
theorem dX8_fails_11 : decode cX8_fails 11 = .ok (.aload_n 0, 1) := by decide +kernel
theorem dX8_fails_12 : decode cX8_fails 12 = .ok (.iload_n 2, 1) := by decide +kernel
theorem dX8_fails_13 : decode cX8_fails 13 = .ok (.putfield 45, 3) := by decide +kernel
theorem dX8_fails_16 : decode cX8_fails 16 = .ok (.aload_n 0, 1) := by decide +kernel
theorem dX8_fails_17 : decode cX8_fails 17 = .ok (.getfield 45, 3) := by decide +kernel
theorem dX8_fails_20 : decode cX8_fails 20 = .ok (.ifCond .eq 7, 3) := by decide +kernel
theorem dX8_fails_23 : decode cX8_fails 23 = .ok (.iconst 1, 1) := by decide +kernel
theorem dX8_fails_24 : decode cX8_fails 24 = .ok (.goto 4, 3) := by decide +kernel
theorem dX8_fails_27 : decode cX8_fails 27 = .ok (.iconst 0, 1) := by decide +kernel
theorem dX8_fails_28 : decode cX8_fails 28 = .ok (.ireturn, 1) := by decide +kernel
theorem dX8_in_0 : decode cX8_in 0 = .ok (.iload_n 0, 1) := by decide +kernel
theorem dX8_in_1 : decode cX8_in 1 = .ok (.iload_n 1, 1) := by decide +kernel
theorem dX8_in_2 : decode cX8_in 2 = .ok (.if_icmp .lt 12, 3) := by decide +kernel
theorem dX8_in_5 : decode cX8_in 5 = .ok (.iload_n 0, 1) := by decide +kernel
theorem dX8_in_6 : decode cX8_in 6 = .ok (.iload_n 2, 1) := by decide +kernel
theorem dX8_in_7 : decode cX8_in 7 = .ok (.if_icmp .gt 7, 3) := by decide +kernel
theorem dX8_in_10 : decode cX8_in 10 = .ok (.iconst 1, 1) := by decide +kernel
theorem dX8_in_11 : decode cX8_in 11 = .ok (.goto 4, 3) := by decide +kernel
theorem dX8_in_14 : decode cX8_in 14 = .ok (.iconst 0, 1) := by decide +kernel
theorem dX8_in_15 : decode cX8_in 15 = .ok (.ireturn, 1) := by decide +kernel
theorem dX8_min_0 : decode cX8_min 0 = .ok (.iload_n 0, 1) := by decide +kernel
theorem dX8_min_1 : decode cX8_min 1 = .ok (.iload_n 1, 1) := by decide +kernel
theorem dX8_min_2 : decode cX8_min 2 = .ok (.if_icmp .ge 7, 3) := by decide +kernel
theorem dX8_min_5 : decode cX8_min 5 = .ok (.iload_n 0, 1) := by decide +kernel
theorem dX8_min_6 : decode cX8_min 6 = .ok (.goto 4, 3) := by decide +kernel
theorem dX8_min_9 : decode cX8_min 9 = .ok (.iload_n 1, 1) := by decide +kernel
theorem dX8_min_10 : decode cX8_min 10 = .ok (.ireturn, 1) := by decide +kernel
theorem dX8_copy_0 : decode cX8_copy 0 = .ok (.iconst 0, 1) := by decide +kernel
theorem dX8_copy_1 : decode cX8_copy 1 = .ok (.istore_n 3, 1) := by decide +kernel
theorem dX8_copy_2 : decode cX8_copy 2 = .ok (.iload_n 3, 1) := by decide +kernel
theorem dX8_copy_3 : decode cX8_copy 3 = .ok (.iload_n 2, 1) := by decide +kernel
theorem dX8_copy_4 : decode cX8_copy 4 = .ok (.if_icmp .ge 15, 3) := by decide +kernel
theorem dX8_copy_7 : decode cX8_copy 7 = .ok (.aload_n 1, 1) := by decide +kernel
theorem dX8_copy_8 : decode cX8_copy 8 = .ok (.iload_n 3, 1) := by decide +kernel
theorem dX8_copy_9 : decode cX8_copy 9 = .ok (.aload_n 0, 1) := by decide +kernel
theorem dX8_copy_10 : decode cX8_copy 10 = .ok (.iload_n 3, 1) := by decide +kernel
theorem dX8_copy_11 : decode cX8_copy 11 = .ok (.iaload, 1) := by decide +kernel
theorem dX8_copy_12 : decode cX8_copy 12 = .ok (.iastore, 1) := by decide +kernel
theorem dX8_copy_13 : decode cX8_copy 13 = .ok (.iinc 3 1, 3) := by decide +kernel
theorem dX8_copy_16 : decode cX8_copy 16 = .ok (.goto (-14), 3) := by decide +kernel
theorem dX8_copy_19 : decode cX8_copy 19 = .ok (.return_, 1) := by decide +kernel
theorem dX8_layUsual_0 : decode cX8_layUsual 0 = .ok (.iconst 0, 1) := by decide +kernel
theorem dX8_layUsual_1 : decode cX8_layUsual 1 = .ok (.istore_n 1, 1) := by decide +kernel
theorem dX8_layUsual_2 : decode cX8_layUsual 2 = .ok (.iload_n 1, 1) := by decide +kernel
theorem dX8_layUsual_3 : decode cX8_layUsual 3 = .ok (.sipush 1784, 3) := by decide +kernel
theorem dX8_layUsual_6 : decode cX8_layUsual 6 = .ok (.if_icmp .ge 13, 3) := by decide +kernel
theorem dX8_layUsual_9 : decode cX8_layUsual 9 = .ok (.aload_n 0, 1) := by decide +kernel
theorem dX8_layUsual_10 : decode cX8_layUsual 10 = .ok (.iload_n 1, 1) := by decide +kernel
theorem dX8_layUsual_11 : decode cX8_layUsual 11 = .ok (.iconst 0, 1) := by decide +kernel
theorem dX8_layUsual_12 : decode cX8_layUsual 12 = .ok (.iastore, 1) := by decide +kernel
theorem dX8_layUsual_13 : decode cX8_layUsual 13 = .ok (.iinc 1 1, 3) := by decide +kernel
theorem dX8_layUsual_16 : decode cX8_layUsual 16 = .ok (.goto (-14), 3) := by decide +kernel
theorem dX8_layUsual_19 : decode cX8_layUsual 19 = .ok (.aload_n 0, 1) := by decide +kernel
theorem dX8_layUsual_20 : decode cX8_layUsual 20 = .ok (.iconst 5, 1) := by decide +kernel
theorem dX8_layUsual_21 : decode cX8_layUsual 21 = .ok (.iconst 5, 1) := by decide +kernel
theorem dX8_layUsual_22 : decode cX8_layUsual 22 = .ok (.iastore, 1) := by decide +kernel
theorem dX8_layUsual_23 : decode cX8_layUsual 23 = .ok (.aload_n 0, 1) := by decide +kernel
theorem dX8_layUsual_24 : decode cX8_layUsual 24 = .ok (.bipush 6, 2) := by decide +kernel
theorem dX8_layUsual_26 : decode cX8_layUsual 26 = .ok (.bipush 10, 2) := by decide +kernel
theorem dX8_layUsual_28 : decode cX8_layUsual 28 = .ok (.iastore, 1) := by decide +kernel
theorem dX8_layUsual_29 : decode cX8_layUsual 29 = .ok (.aload_n 0, 1) := by decide +kernel
theorem dX8_layUsual_30 : decode cX8_layUsual 30 = .ok (.bipush 7, 2) := by decide +kernel
theorem dX8_layUsual_32 : decode cX8_layUsual 32 = .ok (.bipush 10, 2) := by decide +kernel
theorem dX8_layUsual_34 : decode cX8_layUsual 34 = .ok (.iastore, 1) := by decide +kernel
theorem dX8_layUsual_35 : decode cX8_layUsual 35 = .ok (.aload_n 0, 1) := by decide +kernel
theorem dX8_layUsual_36 : decode cX8_layUsual 36 = .ok (.bipush 8, 2) := by decide +kernel
theorem dX8_layUsual_38 : decode cX8_layUsual 38 = .ok (.bipush 10, 2) := by decide +kernel
theorem dX8_layUsual_40 : decode cX8_layUsual 40 = .ok (.iastore, 1) := by decide +kernel
theorem dX8_layUsual_41 : decode cX8_layUsual 41 = .ok (.aload_n 0, 1) := by decide +kernel
theorem dX8_layUsual_42 : decode cX8_layUsual 42 = .ok (.bipush 9, 2) := by decide +kernel
theorem dX8_layUsual_44 : decode cX8_layUsual 44 = .ok (.iconst 1, 1) := by decide +kernel
theorem dX8_layUsual_45 : decode cX8_layUsual 45 = .ok (.iastore, 1) := by decide +kernel
theorem dX8_layUsual_46 : decode cX8_layUsual 46 = .ok (.return_, 1) := by decide +kernel
theorem dX8_append_0 : decode cX8_append 0 = .ok (.aload_n 0, 1) := by decide +kernel
theorem dX8_append_1 : decode cX8_append 1 = .ok (.iconst 0, 1) := by decide +kernel
theorem dX8_append_2 : decode cX8_append 2 = .ok (.putfield 45, 3) := by decide +kernel
theorem dX8_append_5 : decode cX8_append 5 = .ok (.aload_n 0, 1) := by decide +kernel
theorem dX8_append_6 : decode cX8_append 6 = .ok (.getfield 48, 3) := by decide +kernel
theorem dX8_append_9 : decode cX8_append 9 = .ok (.bipush 20, 2) := by decide +kernel
theorem dX8_append_11 : decode cX8_append 11 = .ok (.iadd, 1) := by decide +kernel
theorem dX8_append_12 : decode cX8_append 12 = .ok (.sipush 700, 3) := by decide +kernel
theorem dX8_append_15 : decode cX8_append 15 = .ok (.if_icmp .le 5, 3) := by decide +kernel
theorem dX8_append_18 : decode cX8_append 18 = .ok (.iconst (-1), 1) := by decide +kernel
theorem dX8_append_19 : decode cX8_append 19 = .ok (.ireturn, 1) := by decide +kernel
theorem dX8_append_20 : decode cX8_append 20 = .ok (.iconst 0, 1) := by decide +kernel
theorem dX8_append_21 : decode cX8_append 21 = .ok (.istore 6, 2) := by decide +kernel
theorem dX8_append_23 : decode cX8_append 23 = .ok (.iload 6, 2) := by decide +kernel
theorem dX8_append_25 : decode cX8_append 25 = .ok (.bipush 20, 2) := by decide +kernel
theorem dX8_append_27 : decode cX8_append 27 = .ok (.if_icmp .ge 93, 3) := by decide +kernel
theorem dX8_append_30 : decode cX8_append 30 = .ok (.iload 6, 2) := by decide +kernel
theorem dX8_append_32 : decode cX8_append 32 = .ok (.iconst 4, 1) := by decide +kernel
theorem dX8_append_33 : decode cX8_append 33 = .ok (.if_icmp .ge 7, 3) := by decide +kernel
theorem dX8_append_36 : decode cX8_append 36 = .ok (.iload_n 1, 1) := by decide +kernel
theorem dX8_append_37 : decode cX8_append 37 = .ok (.goto 39, 3) := by decide +kernel
theorem dX8_append_40 : decode cX8_append 40 = .ok (.iload 6, 2) := by decide +kernel
theorem dX8_append_42 : decode cX8_append 42 = .ok (.bipush 8, 2) := by decide +kernel
theorem dX8_append_44 : decode cX8_append 44 = .ok (.if_icmp .ge 7, 3) := by decide +kernel
theorem dX8_append_47 : decode cX8_append 47 = .ok (.iload_n 2, 1) := by decide +kernel
theorem dX8_append_48 : decode cX8_append 48 = .ok (.goto 28, 3) := by decide +kernel
theorem dX8_append_51 : decode cX8_append 51 = .ok (.iload 6, 2) := by decide +kernel
theorem dX8_append_53 : decode cX8_append 53 = .ok (.bipush 12, 2) := by decide +kernel
theorem dX8_append_55 : decode cX8_append 55 = .ok (.if_icmp .ge 7, 3) := by decide +kernel
theorem dX8_append_58 : decode cX8_append 58 = .ok (.iload_n 3, 1) := by decide +kernel
theorem dX8_append_59 : decode cX8_append 59 = .ok (.goto 17, 3) := by decide +kernel
theorem dX8_append_62 : decode cX8_append 62 = .ok (.iload 6, 2) := by decide +kernel
theorem dX8_append_64 : decode cX8_append 64 = .ok (.bipush 16, 2) := by decide +kernel
theorem dX8_append_66 : decode cX8_append 66 = .ok (.if_icmp .ge 8, 3) := by decide +kernel
theorem dX8_append_69 : decode cX8_append 69 = .ok (.iload 4, 2) := by decide +kernel
theorem dX8_append_71 : decode cX8_append 71 = .ok (.goto 5, 3) := by decide +kernel
theorem dX8_append_74 : decode cX8_append 74 = .ok (.iload 5, 2) := by decide +kernel
theorem dX8_append_76 : decode cX8_append 76 = .ok (.istore 7, 2) := by decide +kernel
theorem dX8_append_78 : decode cX8_append 78 = .ok (.aload_n 0, 1) := by decide +kernel
theorem dX8_append_79 : decode cX8_append 79 = .ok (.getfield 9, 3) := by decide +kernel
theorem dX8_append_82 : decode cX8_append 82 = .ok (.aload_n 0, 1) := by decide +kernel
theorem dX8_append_83 : decode cX8_append 83 = .ok (.getfield 48, 3) := by decide +kernel
theorem dX8_append_86 : decode cX8_append 86 = .ok (.iload 7, 2) := by decide +kernel
theorem dX8_append_88 : decode cX8_append 88 = .ok (.bipush 24, 2) := by decide +kernel
theorem dX8_append_90 : decode cX8_append 90 = .ok (.bipush 8, 2) := by decide +kernel
theorem dX8_append_92 : decode cX8_append 92 = .ok (.iload 6, 2) := by decide +kernel
theorem dX8_append_94 : decode cX8_append 94 = .ok (.iconst 4, 1) := by decide +kernel
theorem dX8_append_95 : decode cX8_append 95 = .ok (.irem, 1) := by decide +kernel
theorem dX8_append_96 : decode cX8_append 96 = .ok (.imul, 1) := by decide +kernel
theorem dX8_append_97 : decode cX8_append 97 = .ok (.isub, 1) := by decide +kernel
theorem dX8_append_98 : decode cX8_append 98 = .ok (.ishr, 1) := by decide +kernel
theorem dX8_append_99 : decode cX8_append 99 = .ok (.sipush 255, 3) := by decide +kernel
theorem dX8_append_102 : decode cX8_append 102 = .ok (.iand, 1) := by decide +kernel
theorem dX8_append_103 : decode cX8_append 103 = .ok (.iastore, 1) := by decide +kernel
theorem dX8_append_104 : decode cX8_append 104 = .ok (.aload_n 0, 1) := by decide +kernel
theorem dX8_append_105 : decode cX8_append 105 = .ok (.dup, 1) := by decide +kernel
theorem dX8_append_106 : decode cX8_append 106 = .ok (.getfield 48, 3) := by decide +kernel
theorem dX8_append_109 : decode cX8_append 109 = .ok (.iconst 1, 1) := by decide +kernel
theorem dX8_append_110 : decode cX8_append 110 = .ok (.iadd, 1) := by decide +kernel
theorem dX8_append_111 : decode cX8_append 111 = .ok (.putfield 48, 3) := by decide +kernel
theorem dX8_append_114 : decode cX8_append 114 = .ok (.iinc 6 1, 3) := by decide +kernel
theorem dX8_append_117 : decode cX8_append 117 = .ok (.goto (-94), 3) := by decide +kernel
theorem dX8_append_120 : decode cX8_append 120 = .ok (.aload_n 0, 1) := by decide +kernel
theorem dX8_append_121 : decode cX8_append 121 = .ok (.getfield 48, 3) := by decide +kernel
theorem dX8_append_124 : decode cX8_append 124 = .ok (.ireturn, 1) := by decide +kernel
theorem dX8_byteAt_0 : decode cX8_byteAt 0 = .ok (.iload_n 1, 1) := by decide +kernel
theorem dX8_byteAt_1 : decode cX8_byteAt 1 = .ok (.aload_n 0, 1) := by decide +kernel
theorem dX8_byteAt_2 : decode cX8_byteAt 2 = .ok (.getfield 51, 3) := by decide +kernel
theorem dX8_byteAt_5 : decode cX8_byteAt 5 = .ok (.if_icmp .ge 12, 3) := by decide +kernel
theorem dX8_byteAt_8 : decode cX8_byteAt 8 = .ok (.aload_n 0, 1) := by decide +kernel
theorem dX8_byteAt_9 : decode cX8_byteAt 9 = .ok (.getfield 9, 3) := by decide +kernel
theorem dX8_byteAt_12 : decode cX8_byteAt 12 = .ok (.iload_n 1, 1) := by decide +kernel
theorem dX8_byteAt_13 : decode cX8_byteAt 13 = .ok (.iaload, 1) := by decide +kernel
theorem dX8_byteAt_14 : decode cX8_byteAt 14 = .ok (.goto 4, 3) := by decide +kernel
theorem dX8_byteAt_17 : decode cX8_byteAt 17 = .ok (.iconst (-1), 1) := by decide +kernel
theorem dX8_byteAt_18 : decode cX8_byteAt 18 = .ok (.ireturn, 1) := by decide +kernel
theorem dX8_next_0 : decode cX8_next 0 = .ok (.aload_n 0, 1) := by decide +kernel
theorem dX8_next_1 : decode cX8_next 1 = .ok (.aload_n 0, 1) := by decide +kernel
theorem dX8_next_2 : decode cX8_next 2 = .ok (.getfield 54, 3) := by decide +kernel
theorem dX8_next_5 : decode cX8_next 5 = .ok (.invokevirtual 57, 3) := by decide +kernel
theorem dX8_next_8 : decode cX8_next 8 = .ok (.bipush 32, 2) := by decide +kernel
theorem dX8_next_10 : decode cX8_next 10 = .ok (.if_icmp .ne 16, 3) := by decide +kernel
theorem dX8_next_13 : decode cX8_next 13 = .ok (.aload_n 0, 1) := by decide +kernel
theorem dX8_next_14 : decode cX8_next 14 = .ok (.dup, 1) := by decide +kernel
theorem dX8_next_15 : decode cX8_next 15 = .ok (.getfield 54, 3) := by decide +kernel
theorem dX8_next_18 : decode cX8_next 18 = .ok (.iconst 1, 1) := by decide +kernel
theorem dX8_next_19 : decode cX8_next 19 = .ok (.iadd, 1) := by decide +kernel
theorem dX8_next_20 : decode cX8_next 20 = .ok (.putfield 54, 3) := by decide +kernel
theorem dX8_next_23 : decode cX8_next 23 = .ok (.goto (-23), 3) := by decide +kernel
theorem dX8_next_26 : decode cX8_next 26 = .ok (.aload_n 0, 1) := by decide +kernel
theorem dX8_next_27 : decode cX8_next 27 = .ok (.aload_n 0, 1) := by decide +kernel
theorem dX8_next_28 : decode cX8_next 28 = .ok (.getfield 54, 3) := by decide +kernel
theorem dX8_next_31 : decode cX8_next 31 = .ok (.invokevirtual 57, 3) := by decide +kernel
theorem dX8_next_34 : decode cX8_next 34 = .ok (.ireturn, 1) := by decide +kernel
theorem dX8_isGood_0 : decode cX8_isGood 0 = .ok (.aload_n 0, 1) := by decide +kernel
theorem dX8_isGood_1 : decode cX8_isGood 1 = .ok (.getfield 61, 3) := by decide +kernel
theorem dX8_isGood_4 : decode cX8_isGood 4 = .ok (.ifCond .ne 7, 3) := by decide +kernel
theorem dX8_isGood_7 : decode cX8_isGood 7 = .ok (.iconst 1, 1) := by decide +kernel
theorem dX8_isGood_8 : decode cX8_isGood 8 = .ok (.goto 4, 3) := by decide +kernel
theorem dX8_isGood_11 : decode cX8_isGood 11 = .ok (.iconst 0, 1) := by decide +kernel
theorem dX8_isGood_12 : decode cX8_isGood 12 = .ok (.ireturn, 1) := by decide +kernel
theorem dX8_report_0 : decode cX8_report 0 = .ok (.aload_n 0, 1) := by decide +kernel
theorem dX8_report_1 : decode cX8_report 1 = .ok (.getfield 61, 3) := by decide +kernel
theorem dX8_report_4 : decode cX8_report 4 = .ok (.ifCond .eq 4, 3) := by decide +kernel
theorem dX8_report_7 : decode cX8_report 7 = .ok (.return_, 1) := by decide +kernel
theorem dX8_report_8 : decode cX8_report 8 = .ok (.aload_n 0, 1) := by decide +kernel
theorem dX8_report_9 : decode cX8_report 9 = .ok (.iload_n 1, 1) := by decide +kernel
theorem dX8_report_10 : decode cX8_report 10 = .ok (.putfield 61, 3) := by decide +kernel
theorem dX8_report_13 : decode cX8_report 13 = .ok (.aload_n 0, 1) := by decide +kernel
theorem dX8_report_14 : decode cX8_report 14 = .ok (.iload_n 2, 1) := by decide +kernel
theorem dX8_report_15 : decode cX8_report 15 = .ok (.putfield 64, 3) := by decide +kernel
theorem dX8_report_18 : decode cX8_report 18 = .ok (.return_, 1) := by decide +kernel
theorem dX8_isDigit_0 : decode cX8_isDigit 0 = .ok (.iload_n 0, 1) := by decide +kernel
theorem dX8_isDigit_1 : decode cX8_isDigit 1 = .ok (.bipush 48, 2) := by decide +kernel
theorem dX8_isDigit_3 : decode cX8_isDigit 3 = .ok (.bipush 57, 2) := by decide +kernel
theorem dX8_isDigit_5 : decode cX8_isDigit 5 = .ok (.invokestatic 67, 3) := by decide +kernel
theorem dX8_isDigit_8 : decode cX8_isDigit 8 = .ok (.ireturn, 1) := by decide +kernel
theorem dX8_takeWord_0 : decode cX8_takeWord 0 = .ok (.aload_n 0, 1) := by decide +kernel
theorem dX8_takeWord_1 : decode cX8_takeWord 1 = .ok (.invokevirtual 71, 3) := by decide +kernel
theorem dX8_takeWord_4 : decode cX8_takeWord 4 = .ok (.ifCond .ne 5, 3) := by decide +kernel
theorem dX8_takeWord_7 : decode cX8_takeWord 7 = .ok (.iconst 0, 1) := by decide +kernel
theorem dX8_takeWord_8 : decode cX8_takeWord 8 = .ok (.ireturn, 1) := by decide +kernel
theorem dX8_takeWord_9 : decode cX8_takeWord 9 = .ok (.aload_n 0, 1) := by decide +kernel
theorem dX8_takeWord_10 : decode cX8_takeWord 10 = .ok (.invokevirtual 75, 3) := by decide +kernel
theorem dX8_takeWord_13 : decode cX8_takeWord 13 = .ok (.pop, 1) := by decide +kernel
theorem dX8_takeWord_14 : decode cX8_takeWord 14 = .ok (.iconst 0, 1) := by decide +kernel
theorem dX8_takeWord_15 : decode cX8_takeWord 15 = .ok (.istore_n 2, 1) := by decide +kernel
theorem dX8_takeWord_16 : decode cX8_takeWord 16 = .ok (.iload_n 2, 1) := by decide +kernel
theorem dX8_takeWord_17 : decode cX8_takeWord 17 = .ok (.aload_n 1, 1) := by decide +kernel
theorem dX8_takeWord_18 : decode cX8_takeWord 18 = .ok (.invokevirtual 79, 3) := by decide +kernel
theorem dX8_takeWord_21 : decode cX8_takeWord 21 = .ok (.if_icmp .ge 27, 3) := by decide +kernel
theorem dX8_takeWord_24 : decode cX8_takeWord 24 = .ok (.aload_n 0, 1) := by decide +kernel
theorem dX8_takeWord_25 : decode cX8_takeWord 25 = .ok (.aload_n 0, 1) := by decide +kernel
theorem dX8_takeWord_26 : decode cX8_takeWord 26 = .ok (.getfield 54, 3) := by decide +kernel
theorem dX8_takeWord_29 : decode cX8_takeWord 29 = .ok (.iload_n 2, 1) := by decide +kernel
theorem dX8_takeWord_30 : decode cX8_takeWord 30 = .ok (.iadd, 1) := by decide +kernel
theorem dX8_takeWord_31 : decode cX8_takeWord 31 = .ok (.invokevirtual 57, 3) := by decide +kernel
theorem dX8_takeWord_34 : decode cX8_takeWord 34 = .ok (.aload_n 1, 1) := by decide +kernel
theorem dX8_takeWord_35 : decode cX8_takeWord 35 = .ok (.iload_n 2, 1) := by decide +kernel
theorem dX8_takeWord_36 : decode cX8_takeWord 36 = .ok (.invokevirtual 84, 3) := by decide +kernel
theorem dX8_takeWord_39 : decode cX8_takeWord 39 = .ok (.if_icmp .ne 9, 3) := by decide +kernel
theorem dX8_takeWord_42 : decode cX8_takeWord 42 = .ok (.iinc 2 1, 3) := by decide +kernel
theorem dX8_takeWord_45 : decode cX8_takeWord 45 = .ok (.goto (-29), 3) := by decide +kernel
theorem dX8_takeWord_48 : decode cX8_takeWord 48 = .ok (.iload_n 2, 1) := by decide +kernel
theorem dX8_takeWord_49 : decode cX8_takeWord 49 = .ok (.aload_n 1, 1) := by decide +kernel
theorem dX8_takeWord_50 : decode cX8_takeWord 50 = .ok (.invokevirtual 79, 3) := by decide +kernel
theorem dX8_takeWord_53 : decode cX8_takeWord 53 = .ok (.if_icmp .lt 23, 3) := by decide +kernel
theorem dX8_takeWord_56 : decode cX8_takeWord 56 = .ok (.aload_n 0, 1) := by decide +kernel
theorem dX8_takeWord_57 : decode cX8_takeWord 57 = .ok (.aload_n 0, 1) := by decide +kernel
theorem dX8_takeWord_58 : decode cX8_takeWord 58 = .ok (.getfield 54, 3) := by decide +kernel
theorem dX8_takeWord_61 : decode cX8_takeWord 61 = .ok (.iload_n 2, 1) := by decide +kernel
theorem dX8_takeWord_62 : decode cX8_takeWord 62 = .ok (.iadd, 1) := by decide +kernel
theorem dX8_takeWord_63 : decode cX8_takeWord 63 = .ok (.invokevirtual 57, 3) := by decide +kernel
theorem dX8_takeWord_66 : decode cX8_takeWord 66 = .ok (.bipush 97, 2) := by decide +kernel
theorem dX8_takeWord_68 : decode cX8_takeWord 68 = .ok (.bipush 122, 2) := by decide +kernel
theorem dX8_takeWord_70 : decode cX8_takeWord 70 = .ok (.invokestatic 67, 3) := by decide +kernel
theorem dX8_takeWord_73 : decode cX8_takeWord 73 = .ok (.ifCond .eq 5, 3) := by decide +kernel
theorem dX8_takeWord_76 : decode cX8_takeWord 76 = .ok (.iconst 0, 1) := by decide +kernel
theorem dX8_takeWord_77 : decode cX8_takeWord 77 = .ok (.ireturn, 1) := by decide +kernel
theorem dX8_takeWord_78 : decode cX8_takeWord 78 = .ok (.aload_n 0, 1) := by decide +kernel
theorem dX8_takeWord_79 : decode cX8_takeWord 79 = .ok (.dup, 1) := by decide +kernel
theorem dX8_takeWord_80 : decode cX8_takeWord 80 = .ok (.getfield 54, 3) := by decide +kernel
theorem dX8_takeWord_83 : decode cX8_takeWord 83 = .ok (.iload_n 2, 1) := by decide +kernel
theorem dX8_takeWord_84 : decode cX8_takeWord 84 = .ok (.iadd, 1) := by decide +kernel
theorem dX8_takeWord_85 : decode cX8_takeWord 85 = .ok (.putfield 54, 3) := by decide +kernel
theorem dX8_takeWord_88 : decode cX8_takeWord 88 = .ok (.iconst 1, 1) := by decide +kernel
theorem dX8_takeWord_89 : decode cX8_takeWord 89 = .ok (.ireturn, 1) := by decide +kernel
theorem dX8_expect_0 : decode cX8_expect 0 = .ok (.aload_n 0, 1) := by decide +kernel
theorem dX8_expect_1 : decode cX8_expect 1 = .ok (.invokevirtual 71, 3) := by decide +kernel
theorem dX8_expect_4 : decode cX8_expect 4 = .ok (.ifCond .ne 4, 3) := by decide +kernel
theorem dX8_expect_7 : decode cX8_expect 7 = .ok (.return_, 1) := by decide +kernel
theorem dX8_expect_8 : decode cX8_expect 8 = .ok (.aload_n 0, 1) := by decide +kernel
theorem dX8_expect_9 : decode cX8_expect 9 = .ok (.invokevirtual 75, 3) := by decide +kernel
theorem dX8_expect_12 : decode cX8_expect 12 = .ok (.iload_n 1, 1) := by decide +kernel
theorem dX8_expect_13 : decode cX8_expect 13 = .ok (.if_icmp .ne 16, 3) := by decide +kernel
theorem dX8_expect_16 : decode cX8_expect 16 = .ok (.aload_n 0, 1) := by decide +kernel
theorem dX8_expect_17 : decode cX8_expect 17 = .ok (.dup, 1) := by decide +kernel
theorem dX8_expect_18 : decode cX8_expect 18 = .ok (.getfield 54, 3) := by decide +kernel
theorem dX8_expect_21 : decode cX8_expect 21 = .ok (.iconst 1, 1) := by decide +kernel
theorem dX8_expect_22 : decode cX8_expect 22 = .ok (.iadd, 1) := by decide +kernel
theorem dX8_expect_23 : decode cX8_expect 23 = .ok (.putfield 54, 3) := by decide +kernel
theorem dX8_expect_26 : decode cX8_expect 26 = .ok (.goto 13, 3) := by decide +kernel
theorem dX8_expect_29 : decode cX8_expect 29 = .ok (.aload_n 0, 1) := by decide +kernel
theorem dX8_expect_30 : decode cX8_expect 30 = .ok (.bipush (-2), 2) := by decide +kernel
theorem dX8_expect_32 : decode cX8_expect 32 = .ok (.aload_n 0, 1) := by decide +kernel
theorem dX8_expect_33 : decode cX8_expect 33 = .ok (.getfield 54, 3) := by decide +kernel
theorem dX8_expect_36 : decode cX8_expect 36 = .ok (.invokevirtual 88, 3) := by decide +kernel
theorem dX8_expect_39 : decode cX8_expect 39 = .ok (.return_, 1) := by decide +kernel
theorem dX8_number_0 : decode cX8_number 0 = .ok (.aload_n 0, 1) := by decide +kernel
theorem dX8_number_1 : decode cX8_number 1 = .ok (.invokevirtual 71, 3) := by decide +kernel
theorem dX8_number_4 : decode cX8_number 4 = .ok (.ifCond .ne 5, 3) := by decide +kernel
theorem dX8_number_7 : decode cX8_number 7 = .ok (.iconst 0, 1) := by decide +kernel
theorem dX8_number_8 : decode cX8_number 8 = .ok (.ireturn, 1) := by decide +kernel
theorem dX8_number_9 : decode cX8_number 9 = .ok (.aload_n 0, 1) := by decide +kernel
theorem dX8_number_10 : decode cX8_number 10 = .ok (.invokevirtual 75, 3) := by decide +kernel
theorem dX8_number_13 : decode cX8_number 13 = .ok (.invokestatic 92, 3) := by decide +kernel
theorem dX8_number_16 : decode cX8_number 16 = .ok (.ifCond .ne 15, 3) := by decide +kernel
theorem dX8_number_19 : decode cX8_number 19 = .ok (.aload_n 0, 1) := by decide +kernel
theorem dX8_number_20 : decode cX8_number 20 = .ok (.bipush (-2), 2) := by decide +kernel
theorem dX8_number_22 : decode cX8_number 22 = .ok (.aload_n 0, 1) := by decide +kernel
theorem dX8_number_23 : decode cX8_number 23 = .ok (.getfield 54, 3) := by decide +kernel
theorem dX8_number_26 : decode cX8_number 26 = .ok (.invokevirtual 88, 3) := by decide +kernel
theorem dX8_number_29 : decode cX8_number 29 = .ok (.iconst 0, 1) := by decide +kernel
theorem dX8_number_30 : decode cX8_number 30 = .ok (.ireturn, 1) := by decide +kernel
theorem dX8_number_31 : decode cX8_number 31 = .ok (.aload_n 0, 1) := by decide +kernel
theorem dX8_number_32 : decode cX8_number 32 = .ok (.aload_n 0, 1) := by decide +kernel
theorem dX8_number_33 : decode cX8_number 33 = .ok (.getfield 54, 3) := by decide +kernel
theorem dX8_number_36 : decode cX8_number 36 = .ok (.putfield 96, 3) := by decide +kernel
theorem dX8_number_39 : decode cX8_number 39 = .ok (.iconst 0, 1) := by decide +kernel
theorem dX8_number_40 : decode cX8_number 40 = .ok (.istore_n 3, 1) := by decide +kernel
theorem dX8_number_41 : decode cX8_number 41 = .ok (.aload_n 0, 1) := by decide +kernel
theorem dX8_number_42 : decode cX8_number 42 = .ok (.aload_n 0, 1) := by decide +kernel
theorem dX8_number_43 : decode cX8_number 43 = .ok (.getfield 54, 3) := by decide +kernel
theorem dX8_number_46 : decode cX8_number 46 = .ok (.invokevirtual 57, 3) := by decide +kernel
theorem dX8_number_49 : decode cX8_number 49 = .ok (.invokestatic 92, 3) := by decide +kernel
theorem dX8_number_52 : decode cX8_number 52 = .ok (.ifCond .eq 38, 3) := by decide +kernel
theorem dX8_number_55 : decode cX8_number 55 = .ok (.ldc 99, 2) := by decide +kernel
theorem dX8_number_57 : decode cX8_number 57 = .ok (.bipush 10, 2) := by decide +kernel
theorem dX8_number_59 : decode cX8_number 59 = .ok (.iload_n 3, 1) := by decide +kernel
theorem dX8_number_60 : decode cX8_number 60 = .ok (.imul, 1) := by decide +kernel
theorem dX8_number_61 : decode cX8_number 61 = .ok (.aload_n 0, 1) := by decide +kernel
theorem dX8_number_62 : decode cX8_number 62 = .ok (.aload_n 0, 1) := by decide +kernel
theorem dX8_number_63 : decode cX8_number 63 = .ok (.getfield 54, 3) := by decide +kernel
theorem dX8_number_66 : decode cX8_number 66 = .ok (.invokevirtual 57, 3) := by decide +kernel
theorem dX8_number_69 : decode cX8_number 69 = .ok (.iadd, 1) := by decide +kernel
theorem dX8_number_70 : decode cX8_number 70 = .ok (.bipush 48, 2) := by decide +kernel
theorem dX8_number_72 : decode cX8_number 72 = .ok (.isub, 1) := by decide +kernel
theorem dX8_number_73 : decode cX8_number 73 = .ok (.invokestatic 100, 3) := by decide +kernel
theorem dX8_number_76 : decode cX8_number 76 = .ok (.istore_n 3, 1) := by decide +kernel
theorem dX8_number_77 : decode cX8_number 77 = .ok (.aload_n 0, 1) := by decide +kernel
theorem dX8_number_78 : decode cX8_number 78 = .ok (.dup, 1) := by decide +kernel
theorem dX8_number_79 : decode cX8_number 79 = .ok (.getfield 54, 3) := by decide +kernel
theorem dX8_number_82 : decode cX8_number 82 = .ok (.iconst 1, 1) := by decide +kernel
theorem dX8_number_83 : decode cX8_number 83 = .ok (.iadd, 1) := by decide +kernel
theorem dX8_number_84 : decode cX8_number 84 = .ok (.putfield 54, 3) := by decide +kernel
theorem dX8_number_87 : decode cX8_number 87 = .ok (.goto (-46), 3) := by decide +kernel
theorem dX8_number_90 : decode cX8_number 90 = .ok (.iload_n 3, 1) := by decide +kernel
theorem dX8_number_91 : decode cX8_number 91 = .ok (.iload_n 1, 1) := by decide +kernel
theorem dX8_number_92 : decode cX8_number 92 = .ok (.iload_n 2, 1) := by decide +kernel
theorem dX8_number_93 : decode cX8_number 93 = .ok (.invokestatic 67, 3) := by decide +kernel
theorem dX8_number_96 : decode cX8_number 96 = .ok (.ifCond .ne 13, 3) := by decide +kernel
theorem dX8_number_99 : decode cX8_number 99 = .ok (.aload_n 0, 1) := by decide +kernel
theorem dX8_number_100 : decode cX8_number 100 = .ok (.bipush (-3), 2) := by decide +kernel
theorem dX8_number_102 : decode cX8_number 102 = .ok (.aload_n 0, 1) := by decide +kernel
theorem dX8_number_103 : decode cX8_number 103 = .ok (.getfield 96, 3) := by decide +kernel
theorem dX8_number_106 : decode cX8_number 106 = .ok (.invokevirtual 88, 3) := by decide +kernel
theorem dX8_number_109 : decode cX8_number 109 = .ok (.iload_n 3, 1) := by decide +kernel
theorem dX8_number_110 : decode cX8_number 110 = .ok (.ireturn, 1) := by decide +kernel
theorem dX8_emit_0 : decode cX8_emit 0 = .ok (.aload_n 0, 1) := by decide +kernel
theorem dX8_emit_1 : decode cX8_emit 1 = .ok (.invokevirtual 71, 3) := by decide +kernel
theorem dX8_emit_4 : decode cX8_emit 4 = .ok (.ifCond .ne 4, 3) := by decide +kernel
theorem dX8_emit_7 : decode cX8_emit 7 = .ok (.return_, 1) := by decide +kernel
theorem dX8_emit_8 : decode cX8_emit 8 = .ok (.aload_n 0, 1) := by decide +kernel
theorem dX8_emit_9 : decode cX8_emit 9 = .ok (.getfield 20, 3) := by decide +kernel
theorem dX8_emit_12 : decode cX8_emit 12 = .ok (.sipush 584, 3) := by decide +kernel
theorem dX8_emit_15 : decode cX8_emit 15 = .ok (.aload_n 0, 1) := by decide +kernel
theorem dX8_emit_16 : decode cX8_emit 16 = .ok (.getfield 20, 3) := by decide +kernel
theorem dX8_emit_19 : decode cX8_emit 19 = .ok (.bipush 11, 2) := by decide +kernel
theorem dX8_emit_21 : decode cX8_emit 21 = .ok (.iaload, 1) := by decide +kernel
theorem dX8_emit_22 : decode cX8_emit 22 = .ok (.iadd, 1) := by decide +kernel
theorem dX8_emit_23 : decode cX8_emit 23 = .ok (.iload_n 1, 1) := by decide +kernel
theorem dX8_emit_24 : decode cX8_emit 24 = .ok (.iastore, 1) := by decide +kernel
theorem dX8_emit_25 : decode cX8_emit 25 = .ok (.aload_n 0, 1) := by decide +kernel
theorem dX8_emit_26 : decode cX8_emit 26 = .ok (.getfield 20, 3) := by decide +kernel
theorem dX8_emit_29 : decode cX8_emit 29 = .ok (.bipush 11, 2) := by decide +kernel
theorem dX8_emit_31 : decode cX8_emit 31 = .ok (.dup2, 1) := by decide +kernel
theorem dX8_emit_32 : decode cX8_emit 32 = .ok (.iaload, 1) := by decide +kernel
theorem dX8_emit_33 : decode cX8_emit 33 = .ok (.iconst 1, 1) := by decide +kernel
theorem dX8_emit_34 : decode cX8_emit 34 = .ok (.iadd, 1) := by decide +kernel
theorem dX8_emit_35 : decode cX8_emit 35 = .ok (.iastore, 1) := by decide +kernel
theorem dX8_emit_36 : decode cX8_emit 36 = .ok (.return_, 1) := by decide +kernel
theorem dX8_factor_0 : decode cX8_factor 0 = .ok (.aload_n 0, 1) := by decide +kernel
theorem dX8_factor_1 : decode cX8_factor 1 = .ok (.invokevirtual 71, 3) := by decide +kernel
theorem dX8_factor_4 : decode cX8_factor 4 = .ok (.ifCond .ne 4, 3) := by decide +kernel
theorem dX8_factor_7 : decode cX8_factor 7 = .ok (.return_, 1) := by decide +kernel
theorem dX8_factor_8 : decode cX8_factor 8 = .ok (.aload_n 0, 1) := by decide +kernel
theorem dX8_factor_9 : decode cX8_factor 9 = .ok (.invokevirtual 75, 3) := by decide +kernel
theorem dX8_factor_12 : decode cX8_factor 12 = .ok (.istore_n 1, 1) := by decide +kernel
theorem dX8_factor_13 : decode cX8_factor 13 = .ok (.iload_n 1, 1) := by decide +kernel
theorem dX8_factor_14 : decode cX8_factor 14 = .ok (.bipush 40, 2) := by decide +kernel
theorem dX8_factor_16 : decode cX8_factor 16 = .ok (.if_icmp .ne 62, 3) := by decide +kernel
theorem dX8_factor_19 : decode cX8_factor 19 = .ok (.aload_n 0, 1) := by decide +kernel
theorem dX8_factor_20 : decode cX8_factor 20 = .ok (.getfield 104, 3) := by decide +kernel
theorem dX8_factor_23 : decode cX8_factor 23 = .ok (.iconst 4, 1) := by decide +kernel
theorem dX8_factor_24 : decode cX8_factor 24 = .ok (.if_icmp .ne 13, 3) := by decide +kernel
theorem dX8_factor_27 : decode cX8_factor 27 = .ok (.aload_n 0, 1) := by decide +kernel
theorem dX8_factor_28 : decode cX8_factor 28 = .ok (.bipush (-6), 2) := by decide +kernel
theorem dX8_factor_30 : decode cX8_factor 30 = .ok (.aload_n 0, 1) := by decide +kernel
theorem dX8_factor_31 : decode cX8_factor 31 = .ok (.getfield 54, 3) := by decide +kernel
theorem dX8_factor_34 : decode cX8_factor 34 = .ok (.invokevirtual 88, 3) := by decide +kernel
theorem dX8_factor_37 : decode cX8_factor 37 = .ok (.aload_n 0, 1) := by decide +kernel
theorem dX8_factor_38 : decode cX8_factor 38 = .ok (.dup, 1) := by decide +kernel
theorem dX8_factor_39 : decode cX8_factor 39 = .ok (.getfield 54, 3) := by decide +kernel
theorem dX8_factor_42 : decode cX8_factor 42 = .ok (.iconst 1, 1) := by decide +kernel
theorem dX8_factor_43 : decode cX8_factor 43 = .ok (.iadd, 1) := by decide +kernel
theorem dX8_factor_44 : decode cX8_factor 44 = .ok (.putfield 54, 3) := by decide +kernel
theorem dX8_factor_47 : decode cX8_factor 47 = .ok (.aload_n 0, 1) := by decide +kernel
theorem dX8_factor_48 : decode cX8_factor 48 = .ok (.dup, 1) := by decide +kernel
theorem dX8_factor_49 : decode cX8_factor 49 = .ok (.getfield 104, 3) := by decide +kernel
theorem dX8_factor_52 : decode cX8_factor 52 = .ok (.iconst 1, 1) := by decide +kernel
theorem dX8_factor_53 : decode cX8_factor 53 = .ok (.iadd, 1) := by decide +kernel
theorem dX8_factor_54 : decode cX8_factor 54 = .ok (.putfield 104, 3) := by decide +kernel
theorem dX8_factor_57 : decode cX8_factor 57 = .ok (.aload_n 0, 1) := by decide +kernel
theorem dX8_factor_58 : decode cX8_factor 58 = .ok (.invokevirtual 107, 3) := by decide +kernel
theorem dX8_factor_61 : decode cX8_factor 61 = .ok (.aload_n 0, 1) := by decide +kernel
theorem dX8_factor_62 : decode cX8_factor 62 = .ok (.bipush 41, 2) := by decide +kernel
theorem dX8_factor_64 : decode cX8_factor 64 = .ok (.invokevirtual 110, 3) := by decide +kernel
theorem dX8_factor_67 : decode cX8_factor 67 = .ok (.aload_n 0, 1) := by decide +kernel
theorem dX8_factor_68 : decode cX8_factor 68 = .ok (.dup, 1) := by decide +kernel
theorem dX8_factor_69 : decode cX8_factor 69 = .ok (.getfield 104, 3) := by decide +kernel
theorem dX8_factor_72 : decode cX8_factor 72 = .ok (.iconst 1, 1) := by decide +kernel
theorem dX8_factor_73 : decode cX8_factor 73 = .ok (.isub, 1) := by decide +kernel
theorem dX8_factor_74 : decode cX8_factor 74 = .ok (.putfield 104, 3) := by decide +kernel
theorem dX8_factor_77 : decode cX8_factor 77 = .ok (.return_, 1) := by decide +kernel
theorem dX8_factor_78 : decode cX8_factor 78 = .ok (.iload_n 1, 1) := by decide +kernel
theorem dX8_factor_79 : decode cX8_factor 79 = .ok (.invokestatic 92, 3) := by decide +kernel
theorem dX8_factor_82 : decode cX8_factor 82 = .ok (.ifCond .eq 7, 3) := by decide +kernel
theorem dX8_factor_85 : decode cX8_factor 85 = .ok (.iconst (-1), 1) := by decide +kernel
theorem dX8_factor_86 : decode cX8_factor 86 = .ok (.goto 56, 3) := by decide +kernel
theorem dX8_factor_89 : decode cX8_factor 89 = .ok (.aload_n 0, 1) := by decide +kernel
theorem dX8_factor_90 : decode cX8_factor 90 = .ok (.ldc 114, 2) := by decide +kernel
theorem dX8_factor_92 : decode cX8_factor 92 = .ok (.invokevirtual 116, 3) := by decide +kernel
theorem dX8_factor_95 : decode cX8_factor 95 = .ok (.ifCond .eq 7, 3) := by decide +kernel
theorem dX8_factor_98 : decode cX8_factor 98 = .ok (.iconst 0, 1) := by decide +kernel
theorem dX8_factor_99 : decode cX8_factor 99 = .ok (.goto 43, 3) := by decide +kernel
theorem dX8_factor_102 : decode cX8_factor 102 = .ok (.aload_n 0, 1) := by decide +kernel
theorem dX8_factor_103 : decode cX8_factor 103 = .ok (.ldc 120, 2) := by decide +kernel
theorem dX8_factor_105 : decode cX8_factor 105 = .ok (.invokevirtual 116, 3) := by decide +kernel
theorem dX8_factor_108 : decode cX8_factor 108 = .ok (.ifCond .eq 7, 3) := by decide +kernel
theorem dX8_factor_111 : decode cX8_factor 111 = .ok (.iconst 1, 1) := by decide +kernel
theorem dX8_factor_112 : decode cX8_factor 112 = .ok (.goto 30, 3) := by decide +kernel
theorem dX8_factor_115 : decode cX8_factor 115 = .ok (.aload_n 0, 1) := by decide +kernel
theorem dX8_factor_116 : decode cX8_factor 116 = .ok (.ldc 122, 2) := by decide +kernel
theorem dX8_factor_118 : decode cX8_factor 118 = .ok (.invokevirtual 116, 3) := by decide +kernel
theorem dX8_factor_121 : decode cX8_factor 121 = .ok (.ifCond .eq 7, 3) := by decide +kernel
theorem dX8_factor_124 : decode cX8_factor 124 = .ok (.iconst 2, 1) := by decide +kernel
theorem dX8_factor_125 : decode cX8_factor 125 = .ok (.goto 17, 3) := by decide +kernel
theorem dX8_factor_128 : decode cX8_factor 128 = .ok (.aload_n 0, 1) := by decide +kernel
theorem dX8_factor_129 : decode cX8_factor 129 = .ok (.ldc 124, 2) := by decide +kernel
theorem dX8_factor_131 : decode cX8_factor 131 = .ok (.invokevirtual 116, 3) := by decide +kernel
theorem dX8_factor_134 : decode cX8_factor 134 = .ok (.ifCond .eq 7, 3) := by decide +kernel
theorem dX8_factor_137 : decode cX8_factor 137 = .ok (.iconst 3, 1) := by decide +kernel
theorem dX8_factor_138 : decode cX8_factor 138 = .ok (.goto 4, 3) := by decide +kernel
theorem dX8_factor_141 : decode cX8_factor 141 = .ok (.iconst (-1), 1) := by decide +kernel
theorem dX8_factor_142 : decode cX8_factor 142 = .ok (.istore_n 2, 1) := by decide +kernel
theorem dX8_factor_143 : decode cX8_factor 143 = .ok (.iload_n 2, 1) := by decide +kernel
theorem dX8_factor_144 : decode cX8_factor 144 = .ok (.ifCond .ge 14, 3) := by decide +kernel
theorem dX8_factor_147 : decode cX8_factor 147 = .ok (.aload_n 0, 1) := by decide +kernel
theorem dX8_factor_148 : decode cX8_factor 148 = .ok (.iconst 0, 1) := by decide +kernel
theorem dX8_factor_149 : decode cX8_factor 149 = .ok (.sipush 9999, 3) := by decide +kernel
theorem dX8_factor_152 : decode cX8_factor 152 = .ok (.invokevirtual 126, 3) := by decide +kernel
theorem dX8_factor_155 : decode cX8_factor 155 = .ok (.goto 4, 3) := by decide +kernel
theorem dX8_factor_158 : decode cX8_factor 158 = .ok (.iload_n 2, 1) := by decide +kernel
theorem dX8_factor_159 : decode cX8_factor 159 = .ok (.istore_n 3, 1) := by decide +kernel
theorem dX8_factor_160 : decode cX8_factor 160 = .ok (.aload_n 0, 1) := by decide +kernel
theorem dX8_factor_161 : decode cX8_factor 161 = .ok (.iload_n 2, 1) := by decide +kernel
theorem dX8_factor_162 : decode cX8_factor 162 = .ok (.ifCond .ge 7, 3) := by decide +kernel
theorem dX8_factor_165 : decode cX8_factor 165 = .ok (.iconst 0, 1) := by decide +kernel
theorem dX8_factor_166 : decode cX8_factor 166 = .ok (.goto 4, 3) := by decide +kernel
theorem dX8_factor_169 : decode cX8_factor 169 = .ok (.iconst 1, 1) := by decide +kernel
theorem dX8_factor_170 : decode cX8_factor 170 = .ok (.invokevirtual 129, 3) := by decide +kernel
theorem dX8_factor_173 : decode cX8_factor 173 = .ok (.aload_n 0, 1) := by decide +kernel
theorem dX8_factor_174 : decode cX8_factor 174 = .ok (.iload_n 3, 1) := by decide +kernel
theorem dX8_factor_175 : decode cX8_factor 175 = .ok (.invokevirtual 129, 3) := by decide +kernel
theorem dX8_factor_178 : decode cX8_factor 178 = .ok (.return_, 1) := by decide +kernel
theorem dX8_term_0 : decode cX8_term 0 = .ok (.aload_n 0, 1) := by decide +kernel
theorem dX8_term_1 : decode cX8_term 1 = .ok (.invokevirtual 132, 3) := by decide +kernel
theorem dX8_term_4 : decode cX8_term 4 = .ok (.aload_n 0, 1) := by decide +kernel
theorem dX8_term_5 : decode cX8_term 5 = .ok (.invokevirtual 71, 3) := by decide +kernel
theorem dX8_term_8 : decode cX8_term 8 = .ok (.ifCond .eq 66, 3) := by decide +kernel
theorem dX8_term_11 : decode cX8_term 11 = .ok (.aload_n 0, 1) := by decide +kernel
theorem dX8_term_12 : decode cX8_term 12 = .ok (.invokevirtual 75, 3) := by decide +kernel
theorem dX8_term_15 : decode cX8_term 15 = .ok (.bipush 42, 2) := by decide +kernel
theorem dX8_term_17 : decode cX8_term 17 = .ok (.if_icmp .eq 12, 3) := by decide +kernel
theorem dX8_term_20 : decode cX8_term 20 = .ok (.aload_n 0, 1) := by decide +kernel
theorem dX8_term_21 : decode cX8_term 21 = .ok (.invokevirtual 75, 3) := by decide +kernel
theorem dX8_term_24 : decode cX8_term 24 = .ok (.bipush 47, 2) := by decide +kernel
theorem dX8_term_26 : decode cX8_term 26 = .ok (.if_icmp .ne 48, 3) := by decide +kernel
theorem dX8_term_29 : decode cX8_term 29 = .ok (.aload_n 0, 1) := by decide +kernel
theorem dX8_term_30 : decode cX8_term 30 = .ok (.invokevirtual 75, 3) := by decide +kernel
theorem dX8_term_33 : decode cX8_term 33 = .ok (.bipush 42, 2) := by decide +kernel
theorem dX8_term_35 : decode cX8_term 35 = .ok (.if_icmp .ne 7, 3) := by decide +kernel
theorem dX8_term_38 : decode cX8_term 38 = .ok (.iconst 1, 1) := by decide +kernel
theorem dX8_term_39 : decode cX8_term 39 = .ok (.goto 4, 3) := by decide +kernel
theorem dX8_term_42 : decode cX8_term 42 = .ok (.iconst 0, 1) := by decide +kernel
theorem dX8_term_43 : decode cX8_term 43 = .ok (.istore_n 1, 1) := by decide +kernel
theorem dX8_term_44 : decode cX8_term 44 = .ok (.aload_n 0, 1) := by decide +kernel
theorem dX8_term_45 : decode cX8_term 45 = .ok (.dup, 1) := by decide +kernel
theorem dX8_term_46 : decode cX8_term 46 = .ok (.getfield 54, 3) := by decide +kernel
theorem dX8_term_49 : decode cX8_term 49 = .ok (.iconst 1, 1) := by decide +kernel
theorem dX8_term_50 : decode cX8_term 50 = .ok (.iadd, 1) := by decide +kernel
theorem dX8_term_51 : decode cX8_term 51 = .ok (.putfield 54, 3) := by decide +kernel
theorem dX8_term_54 : decode cX8_term 54 = .ok (.aload_n 0, 1) := by decide +kernel
theorem dX8_term_55 : decode cX8_term 55 = .ok (.invokevirtual 132, 3) := by decide +kernel
theorem dX8_term_58 : decode cX8_term 58 = .ok (.aload_n 0, 1) := by decide +kernel
theorem dX8_term_59 : decode cX8_term 59 = .ok (.iload_n 1, 1) := by decide +kernel
theorem dX8_term_60 : decode cX8_term 60 = .ok (.ifCond .eq 7, 3) := by decide +kernel
theorem dX8_term_63 : decode cX8_term 63 = .ok (.iconst 4, 1) := by decide +kernel
theorem dX8_term_64 : decode cX8_term 64 = .ok (.goto 4, 3) := by decide +kernel
theorem dX8_term_67 : decode cX8_term 67 = .ok (.iconst 5, 1) := by decide +kernel
theorem dX8_term_68 : decode cX8_term 68 = .ok (.invokevirtual 129, 3) := by decide +kernel
theorem dX8_term_71 : decode cX8_term 71 = .ok (.goto (-67), 3) := by decide +kernel
theorem dX8_term_74 : decode cX8_term 74 = .ok (.return_, 1) := by decide +kernel
theorem dX8_sum_0 : decode cX8_sum 0 = .ok (.aload_n 0, 1) := by decide +kernel
theorem dX8_sum_1 : decode cX8_sum 1 = .ok (.invokevirtual 135, 3) := by decide +kernel
theorem dX8_sum_4 : decode cX8_sum 4 = .ok (.aload_n 0, 1) := by decide +kernel
theorem dX8_sum_5 : decode cX8_sum 5 = .ok (.invokevirtual 71, 3) := by decide +kernel
theorem dX8_sum_8 : decode cX8_sum 8 = .ok (.ifCond .eq 66, 3) := by decide +kernel
theorem dX8_sum_11 : decode cX8_sum 11 = .ok (.aload_n 0, 1) := by decide +kernel
theorem dX8_sum_12 : decode cX8_sum 12 = .ok (.invokevirtual 75, 3) := by decide +kernel
theorem dX8_sum_15 : decode cX8_sum 15 = .ok (.bipush 43, 2) := by decide +kernel
theorem dX8_sum_17 : decode cX8_sum 17 = .ok (.if_icmp .eq 12, 3) := by decide +kernel
theorem dX8_sum_20 : decode cX8_sum 20 = .ok (.aload_n 0, 1) := by decide +kernel
theorem dX8_sum_21 : decode cX8_sum 21 = .ok (.invokevirtual 75, 3) := by decide +kernel
theorem dX8_sum_24 : decode cX8_sum 24 = .ok (.bipush 45, 2) := by decide +kernel
theorem dX8_sum_26 : decode cX8_sum 26 = .ok (.if_icmp .ne 48, 3) := by decide +kernel
theorem dX8_sum_29 : decode cX8_sum 29 = .ok (.aload_n 0, 1) := by decide +kernel
theorem dX8_sum_30 : decode cX8_sum 30 = .ok (.invokevirtual 75, 3) := by decide +kernel
theorem dX8_sum_33 : decode cX8_sum 33 = .ok (.bipush 43, 2) := by decide +kernel
theorem dX8_sum_35 : decode cX8_sum 35 = .ok (.if_icmp .ne 7, 3) := by decide +kernel
theorem dX8_sum_38 : decode cX8_sum 38 = .ok (.iconst 1, 1) := by decide +kernel
theorem dX8_sum_39 : decode cX8_sum 39 = .ok (.goto 4, 3) := by decide +kernel
theorem dX8_sum_42 : decode cX8_sum 42 = .ok (.iconst 0, 1) := by decide +kernel
theorem dX8_sum_43 : decode cX8_sum 43 = .ok (.istore_n 1, 1) := by decide +kernel
theorem dX8_sum_44 : decode cX8_sum 44 = .ok (.aload_n 0, 1) := by decide +kernel
theorem dX8_sum_45 : decode cX8_sum 45 = .ok (.dup, 1) := by decide +kernel
theorem dX8_sum_46 : decode cX8_sum 46 = .ok (.getfield 54, 3) := by decide +kernel
theorem dX8_sum_49 : decode cX8_sum 49 = .ok (.iconst 1, 1) := by decide +kernel
theorem dX8_sum_50 : decode cX8_sum 50 = .ok (.iadd, 1) := by decide +kernel
theorem dX8_sum_51 : decode cX8_sum 51 = .ok (.putfield 54, 3) := by decide +kernel
theorem dX8_sum_54 : decode cX8_sum 54 = .ok (.aload_n 0, 1) := by decide +kernel
theorem dX8_sum_55 : decode cX8_sum 55 = .ok (.invokevirtual 135, 3) := by decide +kernel
theorem dX8_sum_58 : decode cX8_sum 58 = .ok (.aload_n 0, 1) := by decide +kernel
theorem dX8_sum_59 : decode cX8_sum 59 = .ok (.iload_n 1, 1) := by decide +kernel
theorem dX8_sum_60 : decode cX8_sum 60 = .ok (.ifCond .eq 7, 3) := by decide +kernel
theorem dX8_sum_63 : decode cX8_sum 63 = .ok (.iconst 2, 1) := by decide +kernel
theorem dX8_sum_64 : decode cX8_sum 64 = .ok (.goto 4, 3) := by decide +kernel
theorem dX8_sum_67 : decode cX8_sum 67 = .ok (.iconst 3, 1) := by decide +kernel
theorem dX8_sum_68 : decode cX8_sum 68 = .ok (.invokevirtual 129, 3) := by decide +kernel
theorem dX8_sum_71 : decode cX8_sum 71 = .ok (.goto (-67), 3) := by decide +kernel
theorem dX8_sum_74 : decode cX8_sum 74 = .ok (.return_, 1) := by decide +kernel
theorem dX8_once_0 : decode cX8_once 0 = .ok (.aload_n 0, 1) := by decide +kernel
theorem dX8_once_1 : decode cX8_once 1 = .ok (.getfield 138, 3) := by decide +kernel
theorem dX8_once_4 : decode cX8_once 4 = .ok (.iload_n 1, 1) := by decide +kernel
theorem dX8_once_5 : decode cX8_once 5 = .ok (.ishr, 1) := by decide +kernel
theorem dX8_once_6 : decode cX8_once 6 = .ok (.iconst 1, 1) := by decide +kernel
theorem dX8_once_7 : decode cX8_once 7 = .ok (.iand, 1) := by decide +kernel
theorem dX8_once_8 : decode cX8_once 8 = .ok (.iconst 1, 1) := by decide +kernel
theorem dX8_once_9 : decode cX8_once 9 = .ok (.if_icmp .ne 10, 3) := by decide +kernel
theorem dX8_once_12 : decode cX8_once 12 = .ok (.aload_n 0, 1) := by decide +kernel
theorem dX8_once_13 : decode cX8_once 13 = .ok (.bipush (-2), 2) := by decide +kernel
theorem dX8_once_15 : decode cX8_once 15 = .ok (.iload_n 2, 1) := by decide +kernel
theorem dX8_once_16 : decode cX8_once 16 = .ok (.invokevirtual 88, 3) := by decide +kernel
theorem dX8_once_19 : decode cX8_once 19 = .ok (.aload_n 0, 1) := by decide +kernel
theorem dX8_once_20 : decode cX8_once 20 = .ok (.dup, 1) := by decide +kernel
theorem dX8_once_21 : decode cX8_once 21 = .ok (.getfield 138, 3) := by decide +kernel
theorem dX8_once_24 : decode cX8_once 24 = .ok (.iconst 1, 1) := by decide +kernel
theorem dX8_once_25 : decode cX8_once 25 = .ok (.iload_n 1, 1) := by decide +kernel
theorem dX8_once_26 : decode cX8_once 26 = .ok (.ishl, 1) := by decide +kernel
theorem dX8_once_27 : decode cX8_once 27 = .ok (.ior, 1) := by decide +kernel
theorem dX8_once_28 : decode cX8_once 28 = .ok (.putfield 138, 3) := by decide +kernel
theorem dX8_once_31 : decode cX8_once 31 = .ok (.return_, 1) := by decide +kernel
theorem dX8_readHandler_0 : decode cX8_readHandler 0 = .ok (.aload_n 0, 1) := by decide +kernel
theorem dX8_readHandler_1 : decode cX8_readHandler 1 = .ok (.getfield 20, 3) := by decide +kernel
theorem dX8_readHandler_4 : decode cX8_readHandler 4 = .ok (.iconst 1, 1) := by decide +kernel
theorem dX8_readHandler_5 : decode cX8_readHandler 5 = .ok (.iaload, 1) := by decide +kernel
theorem dX8_readHandler_6 : decode cX8_readHandler 6 = .ok (.bipush 6, 2) := by decide +kernel
theorem dX8_readHandler_8 : decode cX8_readHandler 8 = .ok (.if_icmp .ne 10, 3) := by decide +kernel
theorem dX8_readHandler_11 : decode cX8_readHandler 11 = .ok (.aload_n 0, 1) := by decide +kernel
theorem dX8_readHandler_12 : decode cX8_readHandler 12 = .ok (.bipush (-5), 2) := by decide +kernel
theorem dX8_readHandler_14 : decode cX8_readHandler 14 = .ok (.iload_n 1, 1) := by decide +kernel
theorem dX8_readHandler_15 : decode cX8_readHandler 15 = .ok (.invokevirtual 88, 3) := by decide +kernel
theorem dX8_readHandler_18 : decode cX8_readHandler 18 = .ok (.aload_n 0, 1) := by decide +kernel
theorem dX8_readHandler_19 : decode cX8_readHandler 19 = .ok (.iconst 0, 1) := by decide +kernel
theorem dX8_readHandler_20 : decode cX8_readHandler 20 = .ok (.sipush 9999, 3) := by decide +kernel
theorem dX8_readHandler_23 : decode cX8_readHandler 23 = .ok (.invokevirtual 126, 3) := by decide +kernel
theorem dX8_readHandler_26 : decode cX8_readHandler 26 = .ok (.istore_n 2, 1) := by decide +kernel
theorem dX8_readHandler_27 : decode cX8_readHandler 27 = .ok (.aload_n 0, 1) := by decide +kernel
theorem dX8_readHandler_28 : decode cX8_readHandler 28 = .ok (.iconst 1, 1) := by decide +kernel
theorem dX8_readHandler_29 : decode cX8_readHandler 29 = .ok (.bipush 20, 2) := by decide +kernel
theorem dX8_readHandler_31 : decode cX8_readHandler 31 = .ok (.invokevirtual 126, 3) := by decide +kernel
theorem dX8_readHandler_34 : decode cX8_readHandler 34 = .ok (.istore_n 3, 1) := by decide +kernel
theorem dX8_readHandler_35 : decode cX8_readHandler 35 = .ok (.aload_n 0, 1) := by decide +kernel
theorem dX8_readHandler_36 : decode cX8_readHandler 36 = .ok (.invokevirtual 71, 3) := by decide +kernel
theorem dX8_readHandler_39 : decode cX8_readHandler 39 = .ok (.ifCond .ne 4, 3) := by decide +kernel
theorem dX8_readHandler_42 : decode cX8_readHandler 42 = .ok (.return_, 1) := by decide +kernel
theorem dX8_readHandler_43 : decode cX8_readHandler 43 = .ok (.aload_n 0, 1) := by decide +kernel
theorem dX8_readHandler_44 : decode cX8_readHandler 44 = .ok (.getfield 20, 3) := by decide +kernel
theorem dX8_readHandler_47 : decode cX8_readHandler 47 = .ok (.bipush 12, 2) := by decide +kernel
theorem dX8_readHandler_49 : decode cX8_readHandler 49 = .ok (.bipush 6, 2) := by decide +kernel
theorem dX8_readHandler_51 : decode cX8_readHandler 51 = .ok (.aload_n 0, 1) := by decide +kernel
theorem dX8_readHandler_52 : decode cX8_readHandler 52 = .ok (.getfield 20, 3) := by decide +kernel
theorem dX8_readHandler_55 : decode cX8_readHandler 55 = .ok (.iconst 1, 1) := by decide +kernel
theorem dX8_readHandler_56 : decode cX8_readHandler 56 = .ok (.iaload, 1) := by decide +kernel
theorem dX8_readHandler_57 : decode cX8_readHandler 57 = .ok (.imul, 1) := by decide +kernel
theorem dX8_readHandler_58 : decode cX8_readHandler 58 = .ok (.iadd, 1) := by decide +kernel
theorem dX8_readHandler_59 : decode cX8_readHandler 59 = .ok (.iconst 0, 1) := by decide +kernel
theorem dX8_readHandler_60 : decode cX8_readHandler 60 = .ok (.iadd, 1) := by decide +kernel
theorem dX8_readHandler_61 : decode cX8_readHandler 61 = .ok (.iload_n 2, 1) := by decide +kernel
theorem dX8_readHandler_62 : decode cX8_readHandler 62 = .ok (.iastore, 1) := by decide +kernel
theorem dX8_readHandler_63 : decode cX8_readHandler 63 = .ok (.aload_n 0, 1) := by decide +kernel
theorem dX8_readHandler_64 : decode cX8_readHandler 64 = .ok (.getfield 20, 3) := by decide +kernel
theorem dX8_readHandler_67 : decode cX8_readHandler 67 = .ok (.bipush 12, 2) := by decide +kernel
theorem dX8_readHandler_69 : decode cX8_readHandler 69 = .ok (.bipush 6, 2) := by decide +kernel
theorem dX8_readHandler_71 : decode cX8_readHandler 71 = .ok (.aload_n 0, 1) := by decide +kernel
theorem dX8_readHandler_72 : decode cX8_readHandler 72 = .ok (.getfield 20, 3) := by decide +kernel
theorem dX8_readHandler_75 : decode cX8_readHandler 75 = .ok (.iconst 1, 1) := by decide +kernel
theorem dX8_readHandler_76 : decode cX8_readHandler 76 = .ok (.iaload, 1) := by decide +kernel
theorem dX8_readHandler_77 : decode cX8_readHandler 77 = .ok (.imul, 1) := by decide +kernel
theorem dX8_readHandler_78 : decode cX8_readHandler 78 = .ok (.iadd, 1) := by decide +kernel
theorem dX8_readHandler_79 : decode cX8_readHandler 79 = .ok (.iconst 1, 1) := by decide +kernel
theorem dX8_readHandler_80 : decode cX8_readHandler 80 = .ok (.iadd, 1) := by decide +kernel
theorem dX8_readHandler_81 : decode cX8_readHandler 81 = .ok (.iload_n 3, 1) := by decide +kernel
theorem dX8_readHandler_82 : decode cX8_readHandler 82 = .ok (.iastore, 1) := by decide +kernel
theorem dX8_readHandler_83 : decode cX8_readHandler 83 = .ok (.aload_n 0, 1) := by decide +kernel
theorem dX8_readHandler_84 : decode cX8_readHandler 84 = .ok (.getfield 20, 3) := by decide +kernel
theorem dX8_readHandler_87 : decode cX8_readHandler 87 = .ok (.iconst 1, 1) := by decide +kernel
theorem dX8_readHandler_88 : decode cX8_readHandler 88 = .ok (.dup2, 1) := by decide +kernel
theorem dX8_readHandler_89 : decode cX8_readHandler 89 = .ok (.iaload, 1) := by decide +kernel
theorem dX8_readHandler_90 : decode cX8_readHandler 90 = .ok (.iconst 1, 1) := by decide +kernel
theorem dX8_readHandler_91 : decode cX8_readHandler 91 = .ok (.iadd, 1) := by decide +kernel
theorem dX8_readHandler_92 : decode cX8_readHandler 92 = .ok (.iastore, 1) := by decide +kernel
theorem dX8_readHandler_93 : decode cX8_readHandler 93 = .ok (.return_, 1) := by decide +kernel
theorem dX8_tenantPlace_0 : decode cX8_tenantPlace 0 = .ok (.bipush 48, 2) := by decide +kernel
theorem dX8_tenantPlace_2 : decode cX8_tenantPlace 2 = .ok (.bipush 7, 2) := by decide +kernel
theorem dX8_tenantPlace_4 : decode cX8_tenantPlace 4 = .ok (.iload_n 1, 1) := by decide +kernel
theorem dX8_tenantPlace_5 : decode cX8_tenantPlace 5 = .ok (.imul, 1) := by decide +kernel
theorem dX8_tenantPlace_6 : decode cX8_tenantPlace 6 = .ok (.iadd, 1) := by decide +kernel
theorem dX8_tenantPlace_7 : decode cX8_tenantPlace 7 = .ok (.istore_n 3, 1) := by decide +kernel
theorem dX8_tenantPlace_8 : decode cX8_tenantPlace 8 = .ok (.iconst 0, 1) := by decide +kernel
theorem dX8_tenantPlace_9 : decode cX8_tenantPlace 9 = .ok (.istore 4, 2) := by decide +kernel
theorem dX8_tenantPlace_11 : decode cX8_tenantPlace 11 = .ok (.iload 4, 2) := by decide +kernel
theorem dX8_tenantPlace_13 : decode cX8_tenantPlace 13 = .ok (.aload_n 0, 1) := by decide +kernel
theorem dX8_tenantPlace_14 : decode cX8_tenantPlace 14 = .ok (.iload_n 3, 1) := by decide +kernel
theorem dX8_tenantPlace_15 : decode cX8_tenantPlace 15 = .ok (.iconst 3, 1) := by decide +kernel
theorem dX8_tenantPlace_16 : decode cX8_tenantPlace 16 = .ok (.iadd, 1) := by decide +kernel
theorem dX8_tenantPlace_17 : decode cX8_tenantPlace 17 = .ok (.iaload, 1) := by decide +kernel
theorem dX8_tenantPlace_18 : decode cX8_tenantPlace 18 = .ok (.if_icmp .ge 24, 3) := by decide +kernel
theorem dX8_tenantPlace_21 : decode cX8_tenantPlace 21 = .ok (.aload_n 0, 1) := by decide +kernel
theorem dX8_tenantPlace_22 : decode cX8_tenantPlace 22 = .ok (.iload_n 3, 1) := by decide +kernel
theorem dX8_tenantPlace_23 : decode cX8_tenantPlace 23 = .ok (.iconst 4, 1) := by decide +kernel
theorem dX8_tenantPlace_24 : decode cX8_tenantPlace 24 = .ok (.iadd, 1) := by decide +kernel
theorem dX8_tenantPlace_25 : decode cX8_tenantPlace 25 = .ok (.iload 4, 2) := by decide +kernel
theorem dX8_tenantPlace_27 : decode cX8_tenantPlace 27 = .ok (.iadd, 1) := by decide +kernel
theorem dX8_tenantPlace_28 : decode cX8_tenantPlace 28 = .ok (.iaload, 1) := by decide +kernel
theorem dX8_tenantPlace_29 : decode cX8_tenantPlace 29 = .ok (.iload_n 2, 1) := by decide +kernel
theorem dX8_tenantPlace_30 : decode cX8_tenantPlace 30 = .ok (.if_icmp .ne 6, 3) := by decide +kernel
theorem dX8_tenantPlace_33 : decode cX8_tenantPlace 33 = .ok (.iload 4, 2) := by decide +kernel
theorem dX8_tenantPlace_35 : decode cX8_tenantPlace 35 = .ok (.ireturn, 1) := by decide +kernel
theorem dX8_tenantPlace_36 : decode cX8_tenantPlace 36 = .ok (.iinc 4 1, 3) := by decide +kernel
theorem dX8_tenantPlace_39 : decode cX8_tenantPlace 39 = .ok (.goto (-28), 3) := by decide +kernel
theorem dX8_tenantPlace_42 : decode cX8_tenantPlace 42 = .ok (.iconst (-1), 1) := by decide +kernel
theorem dX8_tenantPlace_43 : decode cX8_tenantPlace 43 = .ok (.ireturn, 1) := by decide +kernel
theorem dX8_readLine_0 : decode cX8_readLine 0 = .ok (.aload_n 0, 1) := by decide +kernel
theorem dX8_readLine_1 : decode cX8_readLine 1 = .ok (.getfield 20, 3) := by decide +kernel
theorem dX8_readLine_4 : decode cX8_readLine 4 = .ok (.iconst 2, 1) := by decide +kernel
theorem dX8_readLine_5 : decode cX8_readLine 5 = .ok (.iaload, 1) := by decide +kernel
theorem dX8_readLine_6 : decode cX8_readLine 6 = .ok (.bipush 8, 2) := by decide +kernel
theorem dX8_readLine_8 : decode cX8_readLine 8 = .ok (.if_icmp .ne 10, 3) := by decide +kernel
theorem dX8_readLine_11 : decode cX8_readLine 11 = .ok (.aload_n 0, 1) := by decide +kernel
theorem dX8_readLine_12 : decode cX8_readLine 12 = .ok (.bipush (-5), 2) := by decide +kernel
theorem dX8_readLine_14 : decode cX8_readLine 14 = .ok (.iload_n 1, 1) := by decide +kernel
theorem dX8_readLine_15 : decode cX8_readLine 15 = .ok (.invokevirtual 88, 3) := by decide +kernel
theorem dX8_readLine_18 : decode cX8_readLine 18 = .ok (.aload_n 0, 1) := by decide +kernel
theorem dX8_readLine_19 : decode cX8_readLine 19 = .ok (.iconst 0, 1) := by decide +kernel
theorem dX8_readLine_20 : decode cX8_readLine 20 = .ok (.bipush 99, 2) := by decide +kernel
theorem dX8_readLine_22 : decode cX8_readLine 22 = .ok (.invokevirtual 126, 3) := by decide +kernel
theorem dX8_readLine_25 : decode cX8_readLine 25 = .ok (.istore_n 2, 1) := by decide +kernel
theorem dX8_readLine_26 : decode cX8_readLine 26 = .ok (.aload_n 0, 1) := by decide +kernel
theorem dX8_readLine_27 : decode cX8_readLine 27 = .ok (.iconst 1, 1) := by decide +kernel
theorem dX8_readLine_28 : decode cX8_readLine 28 = .ok (.bipush 20, 2) := by decide +kernel
theorem dX8_readLine_30 : decode cX8_readLine 30 = .ok (.invokevirtual 126, 3) := by decide +kernel
theorem dX8_readLine_33 : decode cX8_readLine 33 = .ok (.istore_n 3, 1) := by decide +kernel
theorem dX8_readLine_34 : decode cX8_readLine 34 = .ok (.aload_n 0, 1) := by decide +kernel
theorem dX8_readLine_35 : decode cX8_readLine 35 = .ok (.iconst 0, 1) := by decide +kernel
theorem dX8_readLine_36 : decode cX8_readLine 36 = .ok (.sipush 9999, 3) := by decide +kernel
theorem dX8_readLine_39 : decode cX8_readLine 39 = .ok (.invokevirtual 126, 3) := by decide +kernel
theorem dX8_readLine_42 : decode cX8_readLine 42 = .ok (.istore 4, 2) := by decide +kernel
theorem dX8_readLine_44 : decode cX8_readLine 44 = .ok (.aload_n 0, 1) := by decide +kernel
theorem dX8_readLine_45 : decode cX8_readLine 45 = .ok (.invokevirtual 71, 3) := by decide +kernel
theorem dX8_readLine_48 : decode cX8_readLine 48 = .ok (.ifCond .ne 4, 3) := by decide +kernel
theorem dX8_readLine_51 : decode cX8_readLine 51 = .ok (.return_, 1) := by decide +kernel
theorem dX8_readLine_52 : decode cX8_readLine 52 = .ok (.aload_n 0, 1) := by decide +kernel
theorem dX8_readLine_53 : decode cX8_readLine 53 = .ok (.getfield 20, 3) := by decide +kernel
theorem dX8_readLine_56 : decode cX8_readLine 56 = .ok (.iconst 2, 1) := by decide +kernel
theorem dX8_readLine_57 : decode cX8_readLine 57 = .ok (.iaload, 1) := by decide +kernel
theorem dX8_readLine_58 : decode cX8_readLine 58 = .ok (.istore 5, 2) := by decide +kernel
theorem dX8_readLine_60 : decode cX8_readLine 60 = .ok (.bipush 48, 2) := by decide +kernel
theorem dX8_readLine_62 : decode cX8_readLine 62 = .ok (.bipush 7, 2) := by decide +kernel
theorem dX8_readLine_64 : decode cX8_readLine 64 = .ok (.iload 5, 2) := by decide +kernel
theorem dX8_readLine_66 : decode cX8_readLine 66 = .ok (.imul, 1) := by decide +kernel
theorem dX8_readLine_67 : decode cX8_readLine 67 = .ok (.iadd, 1) := by decide +kernel
theorem dX8_readLine_68 : decode cX8_readLine 68 = .ok (.istore 6, 2) := by decide +kernel
theorem dX8_readLine_70 : decode cX8_readLine 70 = .ok (.aload_n 0, 1) := by decide +kernel
theorem dX8_readLine_71 : decode cX8_readLine 71 = .ok (.getfield 20, 3) := by decide +kernel
theorem dX8_readLine_74 : decode cX8_readLine 74 = .ok (.iload 6, 2) := by decide +kernel
theorem dX8_readLine_76 : decode cX8_readLine 76 = .ok (.iconst 0, 1) := by decide +kernel
theorem dX8_readLine_77 : decode cX8_readLine 77 = .ok (.iadd, 1) := by decide +kernel
theorem dX8_readLine_78 : decode cX8_readLine 78 = .ok (.iload_n 2, 1) := by decide +kernel
theorem dX8_readLine_79 : decode cX8_readLine 79 = .ok (.iastore, 1) := by decide +kernel
theorem dX8_readLine_80 : decode cX8_readLine 80 = .ok (.aload_n 0, 1) := by decide +kernel
theorem dX8_readLine_81 : decode cX8_readLine 81 = .ok (.getfield 20, 3) := by decide +kernel
theorem dX8_readLine_84 : decode cX8_readLine 84 = .ok (.iload 6, 2) := by decide +kernel
theorem dX8_readLine_86 : decode cX8_readLine 86 = .ok (.iconst 1, 1) := by decide +kernel
theorem dX8_readLine_87 : decode cX8_readLine 87 = .ok (.iadd, 1) := by decide +kernel
theorem dX8_readLine_88 : decode cX8_readLine 88 = .ok (.iload_n 3, 1) := by decide +kernel
theorem dX8_readLine_89 : decode cX8_readLine 89 = .ok (.iastore, 1) := by decide +kernel
theorem dX8_readLine_90 : decode cX8_readLine 90 = .ok (.aload_n 0, 1) := by decide +kernel
theorem dX8_readLine_91 : decode cX8_readLine 91 = .ok (.getfield 20, 3) := by decide +kernel
theorem dX8_readLine_94 : decode cX8_readLine 94 = .ok (.iload 6, 2) := by decide +kernel
theorem dX8_readLine_96 : decode cX8_readLine 96 = .ok (.iconst 2, 1) := by decide +kernel
theorem dX8_readLine_97 : decode cX8_readLine 97 = .ok (.iadd, 1) := by decide +kernel
theorem dX8_readLine_98 : decode cX8_readLine 98 = .ok (.iload 4, 2) := by decide +kernel
theorem dX8_readLine_100 : decode cX8_readLine 100 = .ok (.iastore, 1) := by decide +kernel
theorem dX8_readLine_101 : decode cX8_readLine 101 = .ok (.aload_n 0, 1) := by decide +kernel
theorem dX8_readLine_102 : decode cX8_readLine 102 = .ok (.invokevirtual 71, 3) := by decide +kernel
theorem dX8_readLine_105 : decode cX8_readLine 105 = .ok (.ifCond .eq 135, 3) := by decide +kernel
theorem dX8_readLine_108 : decode cX8_readLine 108 = .ok (.aload_n 0, 1) := by decide +kernel
theorem dX8_readLine_109 : decode cX8_readLine 109 = .ok (.invokevirtual 75, 3) := by decide +kernel
theorem dX8_readLine_112 : decode cX8_readLine 112 = .ok (.invokestatic 92, 3) := by decide +kernel
theorem dX8_readLine_115 : decode cX8_readLine 115 = .ok (.ifCond .eq 125, 3) := by decide +kernel
theorem dX8_readLine_118 : decode cX8_readLine 118 = .ok (.aload_n 0, 1) := by decide +kernel
theorem dX8_readLine_119 : decode cX8_readLine 119 = .ok (.iconst 0, 1) := by decide +kernel
theorem dX8_readLine_120 : decode cX8_readLine 120 = .ok (.aload_n 0, 1) := by decide +kernel
theorem dX8_readLine_121 : decode cX8_readLine 121 = .ok (.getfield 20, 3) := by decide +kernel
theorem dX8_readLine_124 : decode cX8_readLine 124 = .ok (.iconst 1, 1) := by decide +kernel
theorem dX8_readLine_125 : decode cX8_readLine 125 = .ok (.iaload, 1) := by decide +kernel
theorem dX8_readLine_126 : decode cX8_readLine 126 = .ok (.iconst 1, 1) := by decide +kernel
theorem dX8_readLine_127 : decode cX8_readLine 127 = .ok (.isub, 1) := by decide +kernel
theorem dX8_readLine_128 : decode cX8_readLine 128 = .ok (.invokevirtual 126, 3) := by decide +kernel
theorem dX8_readLine_131 : decode cX8_readLine 131 = .ok (.istore 7, 2) := by decide +kernel
theorem dX8_readLine_133 : decode cX8_readLine 133 = .ok (.aload_n 0, 1) := by decide +kernel
theorem dX8_readLine_134 : decode cX8_readLine 134 = .ok (.invokevirtual 71, 3) := by decide +kernel
theorem dX8_readLine_137 : decode cX8_readLine 137 = .ok (.ifCond .eq 28, 3) := by decide +kernel
theorem dX8_readLine_140 : decode cX8_readLine 140 = .ok (.aload_n 0, 1) := by decide +kernel
theorem dX8_readLine_141 : decode cX8_readLine 141 = .ok (.getfield 20, 3) := by decide +kernel
theorem dX8_readLine_144 : decode cX8_readLine 144 = .ok (.iload 5, 2) := by decide +kernel
theorem dX8_readLine_146 : decode cX8_readLine 146 = .ok (.iload 7, 2) := by decide +kernel
theorem dX8_readLine_148 : decode cX8_readLine 148 = .ok (.invokestatic 141, 3) := by decide +kernel
theorem dX8_readLine_151 : decode cX8_readLine 151 = .ok (.iconst (-1), 1) := by decide +kernel
theorem dX8_readLine_152 : decode cX8_readLine 152 = .ok (.if_icmp .eq 13, 3) := by decide +kernel
theorem dX8_readLine_155 : decode cX8_readLine 155 = .ok (.aload_n 0, 1) := by decide +kernel
theorem dX8_readLine_156 : decode cX8_readLine 156 = .ok (.bipush (-4), 2) := by decide +kernel
theorem dX8_readLine_158 : decode cX8_readLine 158 = .ok (.aload_n 0, 1) := by decide +kernel
theorem dX8_readLine_159 : decode cX8_readLine 159 = .ok (.getfield 96, 3) := by decide +kernel
theorem dX8_readLine_162 : decode cX8_readLine 162 = .ok (.invokevirtual 88, 3) := by decide +kernel
theorem dX8_readLine_165 : decode cX8_readLine 165 = .ok (.aload_n 0, 1) := by decide +kernel
theorem dX8_readLine_166 : decode cX8_readLine 166 = .ok (.invokevirtual 71, 3) := by decide +kernel
theorem dX8_readLine_169 : decode cX8_readLine 169 = .ok (.ifCond .eq 26, 3) := by decide +kernel
theorem dX8_readLine_172 : decode cX8_readLine 172 = .ok (.aload_n 0, 1) := by decide +kernel
theorem dX8_readLine_173 : decode cX8_readLine 173 = .ok (.getfield 20, 3) := by decide +kernel
theorem dX8_readLine_176 : decode cX8_readLine 176 = .ok (.iload 6, 2) := by decide +kernel
theorem dX8_readLine_178 : decode cX8_readLine 178 = .ok (.iconst 3, 1) := by decide +kernel
theorem dX8_readLine_179 : decode cX8_readLine 179 = .ok (.iadd, 1) := by decide +kernel
theorem dX8_readLine_180 : decode cX8_readLine 180 = .ok (.iaload, 1) := by decide +kernel
theorem dX8_readLine_181 : decode cX8_readLine 181 = .ok (.iconst 3, 1) := by decide +kernel
theorem dX8_readLine_182 : decode cX8_readLine 182 = .ok (.if_icmp .ne 13, 3) := by decide +kernel
theorem dX8_readLine_185 : decode cX8_readLine 185 = .ok (.aload_n 0, 1) := by decide +kernel
theorem dX8_readLine_186 : decode cX8_readLine 186 = .ok (.bipush (-5), 2) := by decide +kernel
theorem dX8_readLine_188 : decode cX8_readLine 188 = .ok (.aload_n 0, 1) := by decide +kernel
theorem dX8_readLine_189 : decode cX8_readLine 189 = .ok (.getfield 96, 3) := by decide +kernel
theorem dX8_readLine_192 : decode cX8_readLine 192 = .ok (.invokevirtual 88, 3) := by decide +kernel
theorem dX8_readLine_195 : decode cX8_readLine 195 = .ok (.aload_n 0, 1) := by decide +kernel
theorem dX8_readLine_196 : decode cX8_readLine 196 = .ok (.invokevirtual 71, 3) := by decide +kernel
theorem dX8_readLine_199 : decode cX8_readLine 199 = .ok (.ifCond .ne 4, 3) := by decide +kernel
theorem dX8_readLine_202 : decode cX8_readLine 202 = .ok (.return_, 1) := by decide +kernel
theorem dX8_readLine_203 : decode cX8_readLine 203 = .ok (.aload_n 0, 1) := by decide +kernel
theorem dX8_readLine_204 : decode cX8_readLine 204 = .ok (.getfield 20, 3) := by decide +kernel
theorem dX8_readLine_207 : decode cX8_readLine 207 = .ok (.iload 6, 2) := by decide +kernel
theorem dX8_readLine_209 : decode cX8_readLine 209 = .ok (.iconst 4, 1) := by decide +kernel
theorem dX8_readLine_210 : decode cX8_readLine 210 = .ok (.iadd, 1) := by decide +kernel
theorem dX8_readLine_211 : decode cX8_readLine 211 = .ok (.aload_n 0, 1) := by decide +kernel
theorem dX8_readLine_212 : decode cX8_readLine 212 = .ok (.getfield 20, 3) := by decide +kernel
theorem dX8_readLine_215 : decode cX8_readLine 215 = .ok (.iload 6, 2) := by decide +kernel
theorem dX8_readLine_217 : decode cX8_readLine 217 = .ok (.iconst 3, 1) := by decide +kernel
theorem dX8_readLine_218 : decode cX8_readLine 218 = .ok (.iadd, 1) := by decide +kernel
theorem dX8_readLine_219 : decode cX8_readLine 219 = .ok (.iaload, 1) := by decide +kernel
theorem dX8_readLine_220 : decode cX8_readLine 220 = .ok (.iadd, 1) := by decide +kernel
theorem dX8_readLine_221 : decode cX8_readLine 221 = .ok (.iload 7, 2) := by decide +kernel
theorem dX8_readLine_223 : decode cX8_readLine 223 = .ok (.iastore, 1) := by decide +kernel
theorem dX8_readLine_224 : decode cX8_readLine 224 = .ok (.aload_n 0, 1) := by decide +kernel
theorem dX8_readLine_225 : decode cX8_readLine 225 = .ok (.getfield 20, 3) := by decide +kernel
theorem dX8_readLine_228 : decode cX8_readLine 228 = .ok (.iload 6, 2) := by decide +kernel
theorem dX8_readLine_230 : decode cX8_readLine 230 = .ok (.iconst 3, 1) := by decide +kernel
theorem dX8_readLine_231 : decode cX8_readLine 231 = .ok (.iadd, 1) := by decide +kernel
theorem dX8_readLine_232 : decode cX8_readLine 232 = .ok (.dup2, 1) := by decide +kernel
theorem dX8_readLine_233 : decode cX8_readLine 233 = .ok (.iaload, 1) := by decide +kernel
theorem dX8_readLine_234 : decode cX8_readLine 234 = .ok (.iconst 1, 1) := by decide +kernel
theorem dX8_readLine_235 : decode cX8_readLine 235 = .ok (.iadd, 1) := by decide +kernel
theorem dX8_readLine_236 : decode cX8_readLine 236 = .ok (.iastore, 1) := by decide +kernel
theorem dX8_readLine_237 : decode cX8_readLine 237 = .ok (.goto (-136), 3) := by decide +kernel
theorem dX8_readLine_240 : decode cX8_readLine 240 = .ok (.aload_n 0, 1) := by decide +kernel
theorem dX8_readLine_241 : decode cX8_readLine 241 = .ok (.getfield 20, 3) := by decide +kernel
theorem dX8_readLine_244 : decode cX8_readLine 244 = .ok (.iconst 2, 1) := by decide +kernel
theorem dX8_readLine_245 : decode cX8_readLine 245 = .ok (.dup2, 1) := by decide +kernel
theorem dX8_readLine_246 : decode cX8_readLine 246 = .ok (.iaload, 1) := by decide +kernel
theorem dX8_readLine_247 : decode cX8_readLine 247 = .ok (.iconst 1, 1) := by decide +kernel
theorem dX8_readLine_248 : decode cX8_readLine 248 = .ok (.iadd, 1) := by decide +kernel
theorem dX8_readLine_249 : decode cX8_readLine 249 = .ok (.iastore, 1) := by decide +kernel
theorem dX8_readLine_250 : decode cX8_readLine 250 = .ok (.return_, 1) := by decide +kernel
theorem dX8_readRequest_0 : decode cX8_readRequest 0 = .ok (.aload_n 0, 1) := by decide +kernel
theorem dX8_readRequest_1 : decode cX8_readRequest 1 = .ok (.getfield 20, 3) := by decide +kernel
theorem dX8_readRequest_4 : decode cX8_readRequest 4 = .ok (.iconst 3, 1) := by decide +kernel
theorem dX8_readRequest_5 : decode cX8_readRequest 5 = .ok (.iaload, 1) := by decide +kernel
theorem dX8_readRequest_6 : decode cX8_readRequest 6 = .ok (.bipush 60, 2) := by decide +kernel
theorem dX8_readRequest_8 : decode cX8_readRequest 8 = .ok (.if_icmp .ne 10, 3) := by decide +kernel
theorem dX8_readRequest_11 : decode cX8_readRequest 11 = .ok (.aload_n 0, 1) := by decide +kernel
theorem dX8_readRequest_12 : decode cX8_readRequest 12 = .ok (.bipush (-5), 2) := by decide +kernel
theorem dX8_readRequest_14 : decode cX8_readRequest 14 = .ok (.iload_n 1, 1) := by decide +kernel
theorem dX8_readRequest_15 : decode cX8_readRequest 15 = .ok (.invokevirtual 88, 3) := by decide +kernel
theorem dX8_readRequest_18 : decode cX8_readRequest 18 = .ok (.aload_n 0, 1) := by decide +kernel
theorem dX8_readRequest_19 : decode cX8_readRequest 19 = .ok (.iconst 0, 1) := by decide +kernel
theorem dX8_readRequest_20 : decode cX8_readRequest 20 = .ok (.aload_n 0, 1) := by decide +kernel
theorem dX8_readRequest_21 : decode cX8_readRequest 21 = .ok (.getfield 20, 3) := by decide +kernel
theorem dX8_readRequest_24 : decode cX8_readRequest 24 = .ok (.iconst 2, 1) := by decide +kernel
theorem dX8_readRequest_25 : decode cX8_readRequest 25 = .ok (.iaload, 1) := by decide +kernel
theorem dX8_readRequest_26 : decode cX8_readRequest 26 = .ok (.iconst 1, 1) := by decide +kernel
theorem dX8_readRequest_27 : decode cX8_readRequest 27 = .ok (.isub, 1) := by decide +kernel
theorem dX8_readRequest_28 : decode cX8_readRequest 28 = .ok (.invokevirtual 126, 3) := by decide +kernel
theorem dX8_readRequest_31 : decode cX8_readRequest 31 = .ok (.istore_n 2, 1) := by decide +kernel
theorem dX8_readRequest_32 : decode cX8_readRequest 32 = .ok (.aload_n 0, 1) := by decide +kernel
theorem dX8_readRequest_33 : decode cX8_readRequest 33 = .ok (.iconst 0, 1) := by decide +kernel
theorem dX8_readRequest_34 : decode cX8_readRequest 34 = .ok (.sipush 999, 3) := by decide +kernel
theorem dX8_readRequest_37 : decode cX8_readRequest 37 = .ok (.invokevirtual 126, 3) := by decide +kernel
theorem dX8_readRequest_40 : decode cX8_readRequest 40 = .ok (.istore_n 3, 1) := by decide +kernel
theorem dX8_readRequest_41 : decode cX8_readRequest 41 = .ok (.aload_n 0, 1) := by decide +kernel
theorem dX8_readRequest_42 : decode cX8_readRequest 42 = .ok (.iconst 1, 1) := by decide +kernel
theorem dX8_readRequest_43 : decode cX8_readRequest 43 = .ok (.bipush 99, 2) := by decide +kernel
theorem dX8_readRequest_45 : decode cX8_readRequest 45 = .ok (.invokevirtual 126, 3) := by decide +kernel
theorem dX8_readRequest_48 : decode cX8_readRequest 48 = .ok (.istore 4, 2) := by decide +kernel
theorem dX8_readRequest_50 : decode cX8_readRequest 50 = .ok (.aload_n 0, 1) := by decide +kernel
theorem dX8_readRequest_51 : decode cX8_readRequest 51 = .ok (.invokevirtual 71, 3) := by decide +kernel
theorem dX8_readRequest_54 : decode cX8_readRequest 54 = .ok (.ifCond .eq 14, 3) := by decide +kernel
theorem dX8_readRequest_57 : decode cX8_readRequest 57 = .ok (.aload_n 0, 1) := by decide +kernel
theorem dX8_readRequest_58 : decode cX8_readRequest 58 = .ok (.getfield 20, 3) := by decide +kernel
theorem dX8_readRequest_61 : decode cX8_readRequest 61 = .ok (.iload_n 2, 1) := by decide +kernel
theorem dX8_readRequest_62 : decode cX8_readRequest 62 = .ok (.iload_n 3, 1) := by decide +kernel
theorem dX8_readRequest_63 : decode cX8_readRequest 63 = .ok (.iload 4, 2) := by decide +kernel
theorem dX8_readRequest_65 : decode cX8_readRequest 65 = .ok (.invokestatic 145, 3) := by decide +kernel
theorem dX8_readRequest_68 : decode cX8_readRequest 68 = .ok (.return_, 1) := by decide +kernel
theorem dX8_putRequest_0 : decode cX8_putRequest 0 = .ok (.bipush 104, 2) := by decide +kernel
theorem dX8_putRequest_2 : decode cX8_putRequest 2 = .ok (.bipush 8, 2) := by decide +kernel
theorem dX8_putRequest_4 : decode cX8_putRequest 4 = .ok (.aload_n 0, 1) := by decide +kernel
theorem dX8_putRequest_5 : decode cX8_putRequest 5 = .ok (.iconst 3, 1) := by decide +kernel
theorem dX8_putRequest_6 : decode cX8_putRequest 6 = .ok (.iaload, 1) := by decide +kernel
theorem dX8_putRequest_7 : decode cX8_putRequest 7 = .ok (.imul, 1) := by decide +kernel
theorem dX8_putRequest_8 : decode cX8_putRequest 8 = .ok (.iadd, 1) := by decide +kernel
theorem dX8_putRequest_9 : decode cX8_putRequest 9 = .ok (.istore 4, 2) := by decide +kernel
theorem dX8_putRequest_11 : decode cX8_putRequest 11 = .ok (.aload_n 0, 1) := by decide +kernel
theorem dX8_putRequest_12 : decode cX8_putRequest 12 = .ok (.iload 4, 2) := by decide +kernel
theorem dX8_putRequest_14 : decode cX8_putRequest 14 = .ok (.iconst 0, 1) := by decide +kernel
theorem dX8_putRequest_15 : decode cX8_putRequest 15 = .ok (.iadd, 1) := by decide +kernel
theorem dX8_putRequest_16 : decode cX8_putRequest 16 = .ok (.iload_n 1, 1) := by decide +kernel
theorem dX8_putRequest_17 : decode cX8_putRequest 17 = .ok (.iastore, 1) := by decide +kernel
theorem dX8_putRequest_18 : decode cX8_putRequest 18 = .ok (.aload_n 0, 1) := by decide +kernel
theorem dX8_putRequest_19 : decode cX8_putRequest 19 = .ok (.iload 4, 2) := by decide +kernel
theorem dX8_putRequest_21 : decode cX8_putRequest 21 = .ok (.iconst 1, 1) := by decide +kernel
theorem dX8_putRequest_22 : decode cX8_putRequest 22 = .ok (.iadd, 1) := by decide +kernel
theorem dX8_putRequest_23 : decode cX8_putRequest 23 = .ok (.iload_n 2, 1) := by decide +kernel
theorem dX8_putRequest_24 : decode cX8_putRequest 24 = .ok (.iastore, 1) := by decide +kernel
theorem dX8_putRequest_25 : decode cX8_putRequest 25 = .ok (.aload_n 0, 1) := by decide +kernel
theorem dX8_putRequest_26 : decode cX8_putRequest 26 = .ok (.iload 4, 2) := by decide +kernel
theorem dX8_putRequest_28 : decode cX8_putRequest 28 = .ok (.iconst 2, 1) := by decide +kernel
theorem dX8_putRequest_29 : decode cX8_putRequest 29 = .ok (.iadd, 1) := by decide +kernel
theorem dX8_putRequest_30 : decode cX8_putRequest 30 = .ok (.iload_n 3, 1) := by decide +kernel
theorem dX8_putRequest_31 : decode cX8_putRequest 31 = .ok (.iastore, 1) := by decide +kernel
theorem dX8_putRequest_32 : decode cX8_putRequest 32 = .ok (.aload_n 0, 1) := by decide +kernel
theorem dX8_putRequest_33 : decode cX8_putRequest 33 = .ok (.iload 4, 2) := by decide +kernel
theorem dX8_putRequest_35 : decode cX8_putRequest 35 = .ok (.iconst 3, 1) := by decide +kernel
theorem dX8_putRequest_36 : decode cX8_putRequest 36 = .ok (.iadd, 1) := by decide +kernel
theorem dX8_putRequest_37 : decode cX8_putRequest 37 = .ok (.iconst 0, 1) := by decide +kernel
theorem dX8_putRequest_38 : decode cX8_putRequest 38 = .ok (.iastore, 1) := by decide +kernel
theorem dX8_putRequest_39 : decode cX8_putRequest 39 = .ok (.aload_n 0, 1) := by decide +kernel
theorem dX8_putRequest_40 : decode cX8_putRequest 40 = .ok (.iload 4, 2) := by decide +kernel
theorem dX8_putRequest_42 : decode cX8_putRequest 42 = .ok (.iconst 4, 1) := by decide +kernel
theorem dX8_putRequest_43 : decode cX8_putRequest 43 = .ok (.iadd, 1) := by decide +kernel
theorem dX8_putRequest_44 : decode cX8_putRequest 44 = .ok (.iconst (-1), 1) := by decide +kernel
theorem dX8_putRequest_45 : decode cX8_putRequest 45 = .ok (.iastore, 1) := by decide +kernel
theorem dX8_putRequest_46 : decode cX8_putRequest 46 = .ok (.aload_n 0, 1) := by decide +kernel
theorem dX8_putRequest_47 : decode cX8_putRequest 47 = .ok (.iload 4, 2) := by decide +kernel
theorem dX8_putRequest_49 : decode cX8_putRequest 49 = .ok (.iconst 5, 1) := by decide +kernel
theorem dX8_putRequest_50 : decode cX8_putRequest 50 = .ok (.iadd, 1) := by decide +kernel
theorem dX8_putRequest_51 : decode cX8_putRequest 51 = .ok (.iconst 0, 1) := by decide +kernel
theorem dX8_putRequest_52 : decode cX8_putRequest 52 = .ok (.iastore, 1) := by decide +kernel
theorem dX8_putRequest_53 : decode cX8_putRequest 53 = .ok (.aload_n 0, 1) := by decide +kernel
theorem dX8_putRequest_54 : decode cX8_putRequest 54 = .ok (.iload 4, 2) := by decide +kernel
theorem dX8_putRequest_56 : decode cX8_putRequest 56 = .ok (.bipush 6, 2) := by decide +kernel
theorem dX8_putRequest_58 : decode cX8_putRequest 58 = .ok (.iadd, 1) := by decide +kernel
theorem dX8_putRequest_59 : decode cX8_putRequest 59 = .ok (.iconst (-1), 1) := by decide +kernel
theorem dX8_putRequest_60 : decode cX8_putRequest 60 = .ok (.iastore, 1) := by decide +kernel
theorem dX8_putRequest_61 : decode cX8_putRequest 61 = .ok (.aload_n 0, 1) := by decide +kernel
theorem dX8_putRequest_62 : decode cX8_putRequest 62 = .ok (.iload 4, 2) := by decide +kernel
theorem dX8_putRequest_64 : decode cX8_putRequest 64 = .ok (.bipush 7, 2) := by decide +kernel
theorem dX8_putRequest_66 : decode cX8_putRequest 66 = .ok (.iadd, 1) := by decide +kernel
theorem dX8_putRequest_67 : decode cX8_putRequest 67 = .ok (.iconst 0, 1) := by decide +kernel
theorem dX8_putRequest_68 : decode cX8_putRequest 68 = .ok (.iastore, 1) := by decide +kernel
theorem dX8_putRequest_69 : decode cX8_putRequest 69 = .ok (.aload_n 0, 1) := by decide +kernel
theorem dX8_putRequest_70 : decode cX8_putRequest 70 = .ok (.iconst 3, 1) := by decide +kernel
theorem dX8_putRequest_71 : decode cX8_putRequest 71 = .ok (.dup2, 1) := by decide +kernel
theorem dX8_putRequest_72 : decode cX8_putRequest 72 = .ok (.iaload, 1) := by decide +kernel
theorem dX8_putRequest_73 : decode cX8_putRequest 73 = .ok (.iconst 1, 1) := by decide +kernel
theorem dX8_putRequest_74 : decode cX8_putRequest 74 = .ok (.iadd, 1) := by decide +kernel
theorem dX8_putRequest_75 : decode cX8_putRequest 75 = .ok (.iastore, 1) := by decide +kernel
theorem dX8_putRequest_76 : decode cX8_putRequest 76 = .ok (.return_, 1) := by decide +kernel
theorem dX8_readOnce_0 : decode cX8_readOnce 0 = .ok (.aload_n 0, 1) := by decide +kernel
theorem dX8_readOnce_1 : decode cX8_readOnce 1 = .ok (.iload_n 1, 1) := by decide +kernel
theorem dX8_readOnce_2 : decode cX8_readOnce 2 = .ok (.iload_n 2, 1) := by decide +kernel
theorem dX8_readOnce_3 : decode cX8_readOnce 3 = .ok (.invokevirtual 149, 3) := by decide +kernel
theorem dX8_readOnce_6 : decode cX8_readOnce 6 = .ok (.aload_n 0, 1) := by decide +kernel
theorem dX8_readOnce_7 : decode cX8_readOnce 7 = .ok (.getfield 20, 3) := by decide +kernel
theorem dX8_readOnce_10 : decode cX8_readOnce 10 = .ok (.iload_n 3, 1) := by decide +kernel
theorem dX8_readOnce_11 : decode cX8_readOnce 11 = .ok (.aload_n 0, 1) := by decide +kernel
theorem dX8_readOnce_12 : decode cX8_readOnce 12 = .ok (.iload 4, 2) := by decide +kernel
theorem dX8_readOnce_14 : decode cX8_readOnce 14 = .ok (.iload 5, 2) := by decide +kernel
theorem dX8_readOnce_16 : decode cX8_readOnce 16 = .ok (.invokevirtual 126, 3) := by decide +kernel
theorem dX8_readOnce_19 : decode cX8_readOnce 19 = .ok (.iastore, 1) := by decide +kernel
theorem dX8_readOnce_20 : decode cX8_readOnce 20 = .ok (.return_, 1) := by decide +kernel
theorem dX8_statement_0 : decode cX8_statement 0 = .ok (.aload_n 0, 1) := by decide +kernel
theorem dX8_statement_1 : decode cX8_statement 1 = .ok (.invokevirtual 75, 3) := by decide +kernel
theorem dX8_statement_4 : decode cX8_statement 4 = .ok (.pop, 1) := by decide +kernel
theorem dX8_statement_5 : decode cX8_statement 5 = .ok (.aload_n 0, 1) := by decide +kernel
theorem dX8_statement_6 : decode cX8_statement 6 = .ok (.getfield 54, 3) := by decide +kernel
theorem dX8_statement_9 : decode cX8_statement 9 = .ok (.istore_n 1, 1) := by decide +kernel
theorem dX8_statement_10 : decode cX8_statement 10 = .ok (.aload_n 0, 1) := by decide +kernel
theorem dX8_statement_11 : decode cX8_statement 11 = .ok (.ldc 152, 2) := by decide +kernel
theorem dX8_statement_13 : decode cX8_statement 13 = .ok (.invokevirtual 116, 3) := by decide +kernel
theorem dX8_statement_16 : decode cX8_statement 16 = .ok (.ifCond .eq 11, 3) := by decide +kernel
theorem dX8_statement_19 : decode cX8_statement 19 = .ok (.aload_n 0, 1) := by decide +kernel
theorem dX8_statement_20 : decode cX8_statement 20 = .ok (.iload_n 1, 1) := by decide +kernel
theorem dX8_statement_21 : decode cX8_statement 21 = .ok (.invokevirtual 154, 3) := by decide +kernel
theorem dX8_statement_24 : decode cX8_statement 24 = .ok (.goto 189, 3) := by decide +kernel
theorem dX8_statement_27 : decode cX8_statement 27 = .ok (.aload_n 0, 1) := by decide +kernel
theorem dX8_statement_28 : decode cX8_statement 28 = .ok (.ldc 114, 2) := by decide +kernel
theorem dX8_statement_30 : decode cX8_statement 30 = .ok (.invokevirtual 116, 3) := by decide +kernel
theorem dX8_statement_33 : decode cX8_statement 33 = .ok (.ifCond .eq 11, 3) := by decide +kernel
theorem dX8_statement_36 : decode cX8_statement 36 = .ok (.aload_n 0, 1) := by decide +kernel
theorem dX8_statement_37 : decode cX8_statement 37 = .ok (.iload_n 1, 1) := by decide +kernel
theorem dX8_statement_38 : decode cX8_statement 38 = .ok (.invokevirtual 157, 3) := by decide +kernel
theorem dX8_statement_41 : decode cX8_statement 41 = .ok (.goto 172, 3) := by decide +kernel
theorem dX8_statement_44 : decode cX8_statement 44 = .ok (.aload_n 0, 1) := by decide +kernel
theorem dX8_statement_45 : decode cX8_statement 45 = .ok (.ldc 160, 2) := by decide +kernel
theorem dX8_statement_47 : decode cX8_statement 47 = .ok (.invokevirtual 116, 3) := by decide +kernel
theorem dX8_statement_50 : decode cX8_statement 50 = .ok (.ifCond .eq 11, 3) := by decide +kernel
theorem dX8_statement_53 : decode cX8_statement 53 = .ok (.aload_n 0, 1) := by decide +kernel
theorem dX8_statement_54 : decode cX8_statement 54 = .ok (.iload_n 1, 1) := by decide +kernel
theorem dX8_statement_55 : decode cX8_statement 55 = .ok (.invokevirtual 162, 3) := by decide +kernel
theorem dX8_statement_58 : decode cX8_statement 58 = .ok (.goto 155, 3) := by decide +kernel
theorem dX8_statement_61 : decode cX8_statement 61 = .ok (.aload_n 0, 1) := by decide +kernel
theorem dX8_statement_62 : decode cX8_statement 62 = .ok (.ldc 165, 2) := by decide +kernel
theorem dX8_statement_64 : decode cX8_statement 64 = .ok (.invokevirtual 116, 3) := by decide +kernel
theorem dX8_statement_67 : decode cX8_statement 67 = .ok (.ifCond .eq 16, 3) := by decide +kernel
theorem dX8_statement_70 : decode cX8_statement 70 = .ok (.aload_n 0, 1) := by decide +kernel
theorem dX8_statement_71 : decode cX8_statement 71 = .ok (.iconst 0, 1) := by decide +kernel
theorem dX8_statement_72 : decode cX8_statement 72 = .ok (.iload_n 1, 1) := by decide +kernel
theorem dX8_statement_73 : decode cX8_statement 73 = .ok (.iconst 5, 1) := by decide +kernel
theorem dX8_statement_74 : decode cX8_statement 74 = .ok (.iconst 1, 1) := by decide +kernel
theorem dX8_statement_75 : decode cX8_statement 75 = .ok (.bipush 99, 2) := by decide +kernel
theorem dX8_statement_77 : decode cX8_statement 77 = .ok (.invokevirtual 167, 3) := by decide +kernel
theorem dX8_statement_80 : decode cX8_statement 80 = .ok (.goto 133, 3) := by decide +kernel
theorem dX8_statement_83 : decode cX8_statement 83 = .ok (.aload_n 0, 1) := by decide +kernel
theorem dX8_statement_84 : decode cX8_statement 84 = .ok (.ldc 171, 2) := by decide +kernel
theorem dX8_statement_86 : decode cX8_statement 86 = .ok (.invokevirtual 116, 3) := by decide +kernel
theorem dX8_statement_89 : decode cX8_statement 89 = .ok (.ifCond .eq 17, 3) := by decide +kernel
theorem dX8_statement_92 : decode cX8_statement 92 = .ok (.aload_n 0, 1) := by decide +kernel
theorem dX8_statement_93 : decode cX8_statement 93 = .ok (.iconst 1, 1) := by decide +kernel
theorem dX8_statement_94 : decode cX8_statement 94 = .ok (.iload_n 1, 1) := by decide +kernel
theorem dX8_statement_95 : decode cX8_statement 95 = .ok (.bipush 6, 2) := by decide +kernel
theorem dX8_statement_97 : decode cX8_statement 97 = .ok (.iconst 1, 1) := by decide +kernel
theorem dX8_statement_98 : decode cX8_statement 98 = .ok (.bipush 99, 2) := by decide +kernel
theorem dX8_statement_100 : decode cX8_statement 100 = .ok (.invokevirtual 167, 3) := by decide +kernel
theorem dX8_statement_103 : decode cX8_statement 103 = .ok (.goto 110, 3) := by decide +kernel
theorem dX8_statement_106 : decode cX8_statement 106 = .ok (.aload_n 0, 1) := by decide +kernel
theorem dX8_statement_107 : decode cX8_statement 107 = .ok (.ldc 173, 2) := by decide +kernel
theorem dX8_statement_109 : decode cX8_statement 109 = .ok (.invokevirtual 116, 3) := by decide +kernel
theorem dX8_statement_112 : decode cX8_statement 112 = .ok (.ifCond .eq 18, 3) := by decide +kernel
theorem dX8_statement_115 : decode cX8_statement 115 = .ok (.aload_n 0, 1) := by decide +kernel
theorem dX8_statement_116 : decode cX8_statement 116 = .ok (.iconst 2, 1) := by decide +kernel
theorem dX8_statement_117 : decode cX8_statement 117 = .ok (.iload_n 1, 1) := by decide +kernel
theorem dX8_statement_118 : decode cX8_statement 118 = .ok (.bipush 7, 2) := by decide +kernel
theorem dX8_statement_120 : decode cX8_statement 120 = .ok (.iconst 0, 1) := by decide +kernel
theorem dX8_statement_121 : decode cX8_statement 121 = .ok (.sipush 999, 3) := by decide +kernel
theorem dX8_statement_124 : decode cX8_statement 124 = .ok (.invokevirtual 167, 3) := by decide +kernel
theorem dX8_statement_127 : decode cX8_statement 127 = .ok (.goto 86, 3) := by decide +kernel
theorem dX8_statement_130 : decode cX8_statement 130 = .ok (.aload_n 0, 1) := by decide +kernel
theorem dX8_statement_131 : decode cX8_statement 131 = .ok (.ldc 175, 2) := by decide +kernel
theorem dX8_statement_133 : decode cX8_statement 133 = .ok (.invokevirtual 116, 3) := by decide +kernel
theorem dX8_statement_136 : decode cX8_statement 136 = .ok (.ifCond .eq 17, 3) := by decide +kernel
theorem dX8_statement_139 : decode cX8_statement 139 = .ok (.aload_n 0, 1) := by decide +kernel
theorem dX8_statement_140 : decode cX8_statement 140 = .ok (.iconst 3, 1) := by decide +kernel
theorem dX8_statement_141 : decode cX8_statement 141 = .ok (.iload_n 1, 1) := by decide +kernel
theorem dX8_statement_142 : decode cX8_statement 142 = .ok (.bipush 8, 2) := by decide +kernel
theorem dX8_statement_144 : decode cX8_statement 144 = .ok (.iconst 1, 1) := by decide +kernel
theorem dX8_statement_145 : decode cX8_statement 145 = .ok (.bipush 99, 2) := by decide +kernel
theorem dX8_statement_147 : decode cX8_statement 147 = .ok (.invokevirtual 167, 3) := by decide +kernel
theorem dX8_statement_150 : decode cX8_statement 150 = .ok (.goto 63, 3) := by decide +kernel
theorem dX8_statement_153 : decode cX8_statement 153 = .ok (.aload_n 0, 1) := by decide +kernel
theorem dX8_statement_154 : decode cX8_statement 154 = .ok (.ldc 177, 2) := by decide +kernel
theorem dX8_statement_156 : decode cX8_statement 156 = .ok (.invokevirtual 116, 3) := by decide +kernel
theorem dX8_statement_159 : decode cX8_statement 159 = .ok (.ifCond .eq 17, 3) := by decide +kernel
theorem dX8_statement_162 : decode cX8_statement 162 = .ok (.aload_n 0, 1) := by decide +kernel
theorem dX8_statement_163 : decode cX8_statement 163 = .ok (.iconst 4, 1) := by decide +kernel
theorem dX8_statement_164 : decode cX8_statement 164 = .ok (.iload_n 1, 1) := by decide +kernel
theorem dX8_statement_165 : decode cX8_statement 165 = .ok (.bipush 9, 2) := by decide +kernel
theorem dX8_statement_167 : decode cX8_statement 167 = .ok (.iconst 0, 1) := by decide +kernel
theorem dX8_statement_168 : decode cX8_statement 168 = .ok (.bipush 99, 2) := by decide +kernel
theorem dX8_statement_170 : decode cX8_statement 170 = .ok (.invokevirtual 167, 3) := by decide +kernel
theorem dX8_statement_173 : decode cX8_statement 173 = .ok (.goto 40, 3) := by decide +kernel
theorem dX8_statement_176 : decode cX8_statement 176 = .ok (.aload_n 0, 1) := by decide +kernel
theorem dX8_statement_177 : decode cX8_statement 177 = .ok (.ldc 179, 2) := by decide +kernel
theorem dX8_statement_179 : decode cX8_statement 179 = .ok (.invokevirtual 116, 3) := by decide +kernel
theorem dX8_statement_182 : decode cX8_statement 182 = .ok (.ifCond .eq 24, 3) := by decide +kernel
theorem dX8_statement_185 : decode cX8_statement 185 = .ok (.aload_n 0, 1) := by decide +kernel
theorem dX8_statement_186 : decode cX8_statement 186 = .ok (.iconst 5, 1) := by decide +kernel
theorem dX8_statement_187 : decode cX8_statement 187 = .ok (.iload_n 1, 1) := by decide +kernel
theorem dX8_statement_188 : decode cX8_statement 188 = .ok (.invokevirtual 149, 3) := by decide +kernel
theorem dX8_statement_191 : decode cX8_statement 191 = .ok (.aload_n 0, 1) := by decide +kernel
theorem dX8_statement_192 : decode cX8_statement 192 = .ok (.getfield 20, 3) := by decide +kernel
theorem dX8_statement_195 : decode cX8_statement 195 = .ok (.bipush 10, 2) := by decide +kernel
theorem dX8_statement_197 : decode cX8_statement 197 = .ok (.iconst 1, 1) := by decide +kernel
theorem dX8_statement_198 : decode cX8_statement 198 = .ok (.iastore, 1) := by decide +kernel
theorem dX8_statement_199 : decode cX8_statement 199 = .ok (.aload_n 0, 1) := by decide +kernel
theorem dX8_statement_200 : decode cX8_statement 200 = .ok (.invokevirtual 107, 3) := by decide +kernel
theorem dX8_statement_203 : decode cX8_statement 203 = .ok (.goto 10, 3) := by decide +kernel
theorem dX8_statement_206 : decode cX8_statement 206 = .ok (.aload_n 0, 1) := by decide +kernel
theorem dX8_statement_207 : decode cX8_statement 207 = .ok (.bipush (-2), 2) := by decide +kernel
theorem dX8_statement_209 : decode cX8_statement 209 = .ok (.iload_n 1, 1) := by decide +kernel
theorem dX8_statement_210 : decode cX8_statement 210 = .ok (.invokevirtual 88, 3) := by decide +kernel
theorem dX8_statement_213 : decode cX8_statement 213 = .ok (.aload_n 0, 1) := by decide +kernel
theorem dX8_statement_214 : decode cX8_statement 214 = .ok (.bipush 59, 2) := by decide +kernel
theorem dX8_statement_216 : decode cX8_statement 216 = .ok (.invokevirtual 110, 3) := by decide +kernel
theorem dX8_statement_219 : decode cX8_statement 219 = .ok (.return_, 1) := by decide +kernel
theorem dX8_load_0 : decode cX8_load 0 = .ok (.aload_n 0, 1) := by decide +kernel
theorem dX8_load_1 : decode cX8_load 1 = .ok (.iconst 0, 1) := by decide +kernel
theorem dX8_load_2 : decode cX8_load 2 = .ok (.putfield 45, 3) := by decide +kernel
theorem dX8_load_5 : decode cX8_load 5 = .ok (.aload_n 0, 1) := by decide +kernel
theorem dX8_load_6 : decode cX8_load 6 = .ok (.iload_n 1, 1) := by decide +kernel
theorem dX8_load_7 : decode cX8_load 7 = .ok (.iconst 0, 1) := by decide +kernel
theorem dX8_load_8 : decode cX8_load 8 = .ok (.aload_n 0, 1) := by decide +kernel
theorem dX8_load_9 : decode cX8_load 9 = .ok (.getfield 48, 3) := by decide +kernel
theorem dX8_load_12 : decode cX8_load 12 = .ok (.invokestatic 67, 3) := by decide +kernel
theorem dX8_load_15 : decode cX8_load 15 = .ok (.ifCond .ne 7, 3) := by decide +kernel
theorem dX8_load_18 : decode cX8_load 18 = .ok (.iconst 1, 1) := by decide +kernel
theorem dX8_load_19 : decode cX8_load 19 = .ok (.goto 4, 3) := by decide +kernel
theorem dX8_load_22 : decode cX8_load 22 = .ok (.iconst 0, 1) := by decide +kernel
theorem dX8_load_23 : decode cX8_load 23 = .ok (.iconst 1, 1) := by decide +kernel
theorem dX8_load_24 : decode cX8_load 24 = .ok (.invokevirtual 181, 3) := by decide +kernel
theorem dX8_load_27 : decode cX8_load 27 = .ok (.ifCond .eq 5, 3) := by decide +kernel
theorem dX8_load_30 : decode cX8_load 30 = .ok (.iconst 0, 1) := by decide +kernel
theorem dX8_load_31 : decode cX8_load 31 = .ok (.ireturn, 1) := by decide +kernel
theorem dX8_load_32 : decode cX8_load 32 = .ok (.aload_n 0, 1) := by decide +kernel
theorem dX8_load_33 : decode cX8_load 33 = .ok (.iconst 0, 1) := by decide +kernel
theorem dX8_load_34 : decode cX8_load 34 = .ok (.putfield 48, 3) := by decide +kernel
theorem dX8_load_37 : decode cX8_load 37 = .ok (.aload_n 0, 1) := by decide +kernel
theorem dX8_load_38 : decode cX8_load 38 = .ok (.iload_n 1, 1) := by decide +kernel
theorem dX8_load_39 : decode cX8_load 39 = .ok (.putfield 51, 3) := by decide +kernel
theorem dX8_load_42 : decode cX8_load 42 = .ok (.aload_n 0, 1) := by decide +kernel
theorem dX8_load_43 : decode cX8_load 43 = .ok (.iconst 0, 1) := by decide +kernel
theorem dX8_load_44 : decode cX8_load 44 = .ok (.putfield 54, 3) := by decide +kernel
theorem dX8_load_47 : decode cX8_load 47 = .ok (.aload_n 0, 1) := by decide +kernel
theorem dX8_load_48 : decode cX8_load 48 = .ok (.iconst 0, 1) := by decide +kernel
theorem dX8_load_49 : decode cX8_load 49 = .ok (.putfield 61, 3) := by decide +kernel
theorem dX8_load_52 : decode cX8_load 52 = .ok (.aload_n 0, 1) := by decide +kernel
theorem dX8_load_53 : decode cX8_load 53 = .ok (.iconst (-1), 1) := by decide +kernel
theorem dX8_load_54 : decode cX8_load 54 = .ok (.putfield 64, 3) := by decide +kernel
theorem dX8_load_57 : decode cX8_load 57 = .ok (.aload_n 0, 1) := by decide +kernel
theorem dX8_load_58 : decode cX8_load 58 = .ok (.iconst 0, 1) := by decide +kernel
theorem dX8_load_59 : decode cX8_load 59 = .ok (.putfield 104, 3) := by decide +kernel
theorem dX8_load_62 : decode cX8_load 62 = .ok (.aload_n 0, 1) := by decide +kernel
theorem dX8_load_63 : decode cX8_load 63 = .ok (.iconst 0, 1) := by decide +kernel
theorem dX8_load_64 : decode cX8_load 64 = .ok (.putfield 138, 3) := by decide +kernel
theorem dX8_load_67 : decode cX8_load 67 = .ok (.aload_n 0, 1) := by decide +kernel
theorem dX8_load_68 : decode cX8_load 68 = .ok (.getfield 20, 3) := by decide +kernel
theorem dX8_load_71 : decode cX8_load 71 = .ok (.invokestatic 41, 3) := by decide +kernel
theorem dX8_load_74 : decode cX8_load 74 = .ok (.aload_n 0, 1) := by decide +kernel
theorem dX8_load_75 : decode cX8_load 75 = .ok (.ldc 185, 2) := by decide +kernel
theorem dX8_load_77 : decode cX8_load 77 = .ok (.invokevirtual 116, 3) := by decide +kernel
theorem dX8_load_80 : decode cX8_load 80 = .ok (.ifCond .ne 13, 3) := by decide +kernel
theorem dX8_load_83 : decode cX8_load 83 = .ok (.aload_n 0, 1) := by decide +kernel
theorem dX8_load_84 : decode cX8_load 84 = .ok (.bipush (-2), 2) := by decide +kernel
theorem dX8_load_86 : decode cX8_load 86 = .ok (.aload_n 0, 1) := by decide +kernel
theorem dX8_load_87 : decode cX8_load 87 = .ok (.getfield 54, 3) := by decide +kernel
theorem dX8_load_90 : decode cX8_load 90 = .ok (.invokevirtual 88, 3) := by decide +kernel
theorem dX8_load_93 : decode cX8_load 93 = .ok (.aload_n 0, 1) := by decide +kernel
theorem dX8_load_94 : decode cX8_load 94 = .ok (.bipush 59, 2) := by decide +kernel
theorem dX8_load_96 : decode cX8_load 96 = .ok (.invokevirtual 110, 3) := by decide +kernel
theorem dX8_load_99 : decode cX8_load 99 = .ok (.aload_n 0, 1) := by decide +kernel
theorem dX8_load_100 : decode cX8_load 100 = .ok (.invokevirtual 71, 3) := by decide +kernel
theorem dX8_load_103 : decode cX8_load 103 = .ok (.ifCond .eq 18, 3) := by decide +kernel
theorem dX8_load_106 : decode cX8_load 106 = .ok (.aload_n 0, 1) := by decide +kernel
theorem dX8_load_107 : decode cX8_load 107 = .ok (.invokevirtual 75, 3) := by decide +kernel
theorem dX8_load_110 : decode cX8_load 110 = .ok (.iconst (-1), 1) := by decide +kernel
theorem dX8_load_111 : decode cX8_load 111 = .ok (.if_icmp .eq 10, 3) := by decide +kernel
theorem dX8_load_114 : decode cX8_load 114 = .ok (.aload_n 0, 1) := by decide +kernel
theorem dX8_load_115 : decode cX8_load 115 = .ok (.invokevirtual 187, 3) := by decide +kernel
theorem dX8_load_118 : decode cX8_load 118 = .ok (.goto (-19), 3) := by decide +kernel
theorem dX8_load_121 : decode cX8_load 121 = .ok (.aload_n 0, 1) := by decide +kernel
theorem dX8_load_122 : decode cX8_load 122 = .ok (.aload_n 0, 1) := by decide +kernel
theorem dX8_load_123 : decode cX8_load 123 = .ok (.getfield 64, 3) := by decide +kernel
theorem dX8_load_126 : decode cX8_load 126 = .ok (.putfield 13, 3) := by decide +kernel
theorem dX8_load_129 : decode cX8_load 129 = .ok (.aload_n 0, 1) := by decide +kernel
theorem dX8_load_130 : decode cX8_load 130 = .ok (.invokevirtual 71, 3) := by decide +kernel
theorem dX8_load_133 : decode cX8_load 133 = .ok (.ifCond .ne 8, 3) := by decide +kernel
theorem dX8_load_136 : decode cX8_load 136 = .ok (.aload_n 0, 1) := by decide +kernel
theorem dX8_load_137 : decode cX8_load 137 = .ok (.getfield 61, 3) := by decide +kernel
theorem dX8_load_140 : decode cX8_load 140 = .ok (.ireturn, 1) := by decide +kernel
theorem dX8_load_141 : decode cX8_load 141 = .ok (.aload_n 0, 1) := by decide +kernel
theorem dX8_load_142 : decode cX8_load 142 = .ok (.invokevirtual 190, 3) := by decide +kernel
theorem dX8_load_145 : decode cX8_load 145 = .ok (.aload_n 0, 1) := by decide +kernel
theorem dX8_load_146 : decode cX8_load 146 = .ok (.getfield 20, 3) := by decide +kernel
theorem dX8_load_149 : decode cX8_load 149 = .ok (.aload_n 0, 1) := by decide +kernel
theorem dX8_load_150 : decode cX8_load 150 = .ok (.getfield 17, 3) := by decide +kernel
theorem dX8_load_153 : decode cX8_load 153 = .ok (.sipush 1784, 3) := by decide +kernel
theorem dX8_load_156 : decode cX8_load 156 = .ok (.invokestatic 193, 3) := by decide +kernel
theorem dX8_load_159 : decode cX8_load 159 = .ok (.aload_n 0, 1) := by decide +kernel
theorem dX8_load_160 : decode cX8_load 160 = .ok (.getfield 17, 3) := by decide +kernel
theorem dX8_load_163 : decode cX8_load 163 = .ok (.iconst 3, 1) := by decide +kernel
theorem dX8_load_164 : decode cX8_load 164 = .ok (.iaload, 1) := by decide +kernel
theorem dX8_load_165 : decode cX8_load 165 = .ok (.ireturn, 1) := by decide +kernel
theorem dX8_errorOffset_0 : decode cX8_errorOffset 0 = .ok (.aload_n 0, 1) := by decide +kernel
theorem dX8_errorOffset_1 : decode cX8_errorOffset 1 = .ok (.iconst 0, 1) := by decide +kernel
theorem dX8_errorOffset_2 : decode cX8_errorOffset 2 = .ok (.putfield 45, 3) := by decide +kernel
theorem dX8_errorOffset_5 : decode cX8_errorOffset 5 = .ok (.aload_n 0, 1) := by decide +kernel
theorem dX8_errorOffset_6 : decode cX8_errorOffset 6 = .ok (.getfield 13, 3) := by decide +kernel
theorem dX8_errorOffset_9 : decode cX8_errorOffset 9 = .ok (.ireturn, 1) := by decide +kernel
theorem dX8_handlerAt_0 : decode cX8_handlerAt 0 = .ok (.bipush 12, 2) := by decide +kernel
theorem dX8_handlerAt_2 : decode cX8_handlerAt 2 = .ok (.bipush 6, 2) := by decide +kernel
theorem dX8_handlerAt_4 : decode cX8_handlerAt 4 = .ok (.iload_n 0, 1) := by decide +kernel
theorem dX8_handlerAt_5 : decode cX8_handlerAt 5 = .ok (.imul, 1) := by decide +kernel
theorem dX8_handlerAt_6 : decode cX8_handlerAt 6 = .ok (.iadd, 1) := by decide +kernel
theorem dX8_handlerAt_7 : decode cX8_handlerAt 7 = .ok (.ireturn, 1) := by decide +kernel
theorem dX8_lineAt_0 : decode cX8_lineAt 0 = .ok (.bipush 48, 2) := by decide +kernel
theorem dX8_lineAt_2 : decode cX8_lineAt 2 = .ok (.bipush 7, 2) := by decide +kernel
theorem dX8_lineAt_4 : decode cX8_lineAt 4 = .ok (.iload_n 0, 1) := by decide +kernel
theorem dX8_lineAt_5 : decode cX8_lineAt 5 = .ok (.imul, 1) := by decide +kernel
theorem dX8_lineAt_6 : decode cX8_lineAt 6 = .ok (.iadd, 1) := by decide +kernel
theorem dX8_lineAt_7 : decode cX8_lineAt 7 = .ok (.ireturn, 1) := by decide +kernel
theorem dX8_requestAt_0 : decode cX8_requestAt 0 = .ok (.bipush 104, 2) := by decide +kernel
theorem dX8_requestAt_2 : decode cX8_requestAt 2 = .ok (.bipush 8, 2) := by decide +kernel
theorem dX8_requestAt_4 : decode cX8_requestAt 4 = .ok (.iload_n 0, 1) := by decide +kernel
theorem dX8_requestAt_5 : decode cX8_requestAt 5 = .ok (.imul, 1) := by decide +kernel
theorem dX8_requestAt_6 : decode cX8_requestAt 6 = .ok (.iadd, 1) := by decide +kernel
theorem dX8_requestAt_7 : decode cX8_requestAt 7 = .ok (.ireturn, 1) := by decide +kernel
theorem dX8_ofHandler_0 : decode cX8_ofHandler 0 = .ok (.aload_n 0, 1) := by decide +kernel
theorem dX8_ofHandler_1 : decode cX8_ofHandler 1 = .ok (.getfield 17, 3) := by decide +kernel
theorem dX8_ofHandler_4 : decode cX8_ofHandler 4 = .ok (.iload_n 1, 1) := by decide +kernel
theorem dX8_ofHandler_5 : decode cX8_ofHandler 5 = .ok (.invokestatic 197, 3) := by decide +kernel
theorem dX8_ofHandler_8 : decode cX8_ofHandler 8 = .ok (.iload_n 2, 1) := by decide +kernel
theorem dX8_ofHandler_9 : decode cX8_ofHandler 9 = .ok (.iadd, 1) := by decide +kernel
theorem dX8_ofHandler_10 : decode cX8_ofHandler 10 = .ok (.iaload, 1) := by decide +kernel
theorem dX8_ofHandler_11 : decode cX8_ofHandler 11 = .ok (.ireturn, 1) := by decide +kernel
theorem dX8_ofLine_0 : decode cX8_ofLine 0 = .ok (.aload_n 0, 1) := by decide +kernel
theorem dX8_ofLine_1 : decode cX8_ofLine 1 = .ok (.getfield 17, 3) := by decide +kernel
theorem dX8_ofLine_4 : decode cX8_ofLine 4 = .ok (.iload_n 1, 1) := by decide +kernel
theorem dX8_ofLine_5 : decode cX8_ofLine 5 = .ok (.invokestatic 200, 3) := by decide +kernel
theorem dX8_ofLine_8 : decode cX8_ofLine 8 = .ok (.iload_n 2, 1) := by decide +kernel
theorem dX8_ofLine_9 : decode cX8_ofLine 9 = .ok (.iadd, 1) := by decide +kernel
theorem dX8_ofLine_10 : decode cX8_ofLine 10 = .ok (.iaload, 1) := by decide +kernel
theorem dX8_ofLine_11 : decode cX8_ofLine 11 = .ok (.ireturn, 1) := by decide +kernel
theorem dX8_ofRequest_0 : decode cX8_ofRequest 0 = .ok (.aload_n 0, 1) := by decide +kernel
theorem dX8_ofRequest_1 : decode cX8_ofRequest 1 = .ok (.getfield 17, 3) := by decide +kernel
theorem dX8_ofRequest_4 : decode cX8_ofRequest 4 = .ok (.iload_n 1, 1) := by decide +kernel
theorem dX8_ofRequest_5 : decode cX8_ofRequest 5 = .ok (.invokestatic 203, 3) := by decide +kernel
theorem dX8_ofRequest_8 : decode cX8_ofRequest 8 = .ok (.iload_n 2, 1) := by decide +kernel
theorem dX8_ofRequest_9 : decode cX8_ofRequest 9 = .ok (.iadd, 1) := by decide +kernel
theorem dX8_ofRequest_10 : decode cX8_ofRequest 10 = .ok (.iaload, 1) := by decide +kernel
theorem dX8_ofRequest_11 : decode cX8_ofRequest 11 = .ok (.ireturn, 1) := by decide +kernel
theorem dX8_isOpen_0 : decode cX8_isOpen 0 = .ok (.aload_n 0, 1) := by decide +kernel
theorem dX8_isOpen_1 : decode cX8_isOpen 1 = .ok (.iload_n 1, 1) := by decide +kernel
theorem dX8_isOpen_2 : decode cX8_isOpen 2 = .ok (.iconst 3, 1) := by decide +kernel
theorem dX8_isOpen_3 : decode cX8_isOpen 3 = .ok (.invokevirtual 206, 3) := by decide +kernel
theorem dX8_isOpen_6 : decode cX8_isOpen 6 = .ok (.iconst 1, 1) := by decide +kernel
theorem dX8_isOpen_7 : decode cX8_isOpen 7 = .ok (.if_icmp .ne 7, 3) := by decide +kernel
theorem dX8_isOpen_10 : decode cX8_isOpen 10 = .ok (.iconst 1, 1) := by decide +kernel
theorem dX8_isOpen_11 : decode cX8_isOpen 11 = .ok (.goto 4, 3) := by decide +kernel
theorem dX8_isOpen_14 : decode cX8_isOpen 14 = .ok (.iconst 0, 1) := by decide +kernel
theorem dX8_isOpen_15 : decode cX8_isOpen 15 = .ok (.ireturn, 1) := by decide +kernel
theorem dX8_holds_0 : decode cX8_holds 0 = .ok (.aload_n 0, 1) := by decide +kernel
theorem dX8_holds_1 : decode cX8_holds 1 = .ok (.iload_n 2, 1) := by decide +kernel
theorem dX8_holds_2 : decode cX8_holds 2 = .ok (.invokevirtual 209, 3) := by decide +kernel
theorem dX8_holds_5 : decode cX8_holds 5 = .ok (.ifCond .eq 17, 3) := by decide +kernel
theorem dX8_holds_8 : decode cX8_holds 8 = .ok (.aload_n 0, 1) := by decide +kernel
theorem dX8_holds_9 : decode cX8_holds 9 = .ok (.iload_n 2, 1) := by decide +kernel
theorem dX8_holds_10 : decode cX8_holds 10 = .ok (.iconst 4, 1) := by decide +kernel
theorem dX8_holds_11 : decode cX8_holds 11 = .ok (.invokevirtual 206, 3) := by decide +kernel
theorem dX8_holds_14 : decode cX8_holds 14 = .ok (.iload_n 1, 1) := by decide +kernel
theorem dX8_holds_15 : decode cX8_holds 15 = .ok (.if_icmp .ne 7, 3) := by decide +kernel
theorem dX8_holds_18 : decode cX8_holds 18 = .ok (.iconst 1, 1) := by decide +kernel
theorem dX8_holds_19 : decode cX8_holds 19 = .ok (.goto 4, 3) := by decide +kernel
theorem dX8_holds_22 : decode cX8_holds 22 = .ok (.iconst 0, 1) := by decide +kernel
theorem dX8_holds_23 : decode cX8_holds 23 = .ok (.ireturn, 1) := by decide +kernel
theorem dX8_heldBy_0 : decode cX8_heldBy 0 = .ok (.iconst 0, 1) := by decide +kernel
theorem dX8_heldBy_1 : decode cX8_heldBy 1 = .ok (.istore_n 2, 1) := by decide +kernel
theorem dX8_heldBy_2 : decode cX8_heldBy 2 = .ok (.iconst 0, 1) := by decide +kernel
theorem dX8_heldBy_3 : decode cX8_heldBy 3 = .ok (.istore_n 3, 1) := by decide +kernel
theorem dX8_heldBy_4 : decode cX8_heldBy 4 = .ok (.iload_n 3, 1) := by decide +kernel
theorem dX8_heldBy_5 : decode cX8_heldBy 5 = .ok (.aload_n 0, 1) := by decide +kernel
theorem dX8_heldBy_6 : decode cX8_heldBy 6 = .ok (.getfield 17, 3) := by decide +kernel
theorem dX8_heldBy_9 : decode cX8_heldBy 9 = .ok (.iconst 3, 1) := by decide +kernel
theorem dX8_heldBy_10 : decode cX8_heldBy 10 = .ok (.iaload, 1) := by decide +kernel
theorem dX8_heldBy_11 : decode cX8_heldBy 11 = .ok (.if_icmp .ge 26, 3) := by decide +kernel
theorem dX8_heldBy_14 : decode cX8_heldBy 14 = .ok (.iload_n 2, 1) := by decide +kernel
theorem dX8_heldBy_15 : decode cX8_heldBy 15 = .ok (.aload_n 0, 1) := by decide +kernel
theorem dX8_heldBy_16 : decode cX8_heldBy 16 = .ok (.iload_n 1, 1) := by decide +kernel
theorem dX8_heldBy_17 : decode cX8_heldBy 17 = .ok (.iload_n 3, 1) := by decide +kernel
theorem dX8_heldBy_18 : decode cX8_heldBy 18 = .ok (.invokevirtual 212, 3) := by decide +kernel
theorem dX8_heldBy_21 : decode cX8_heldBy 21 = .ok (.ifCond .eq 7, 3) := by decide +kernel
theorem dX8_heldBy_24 : decode cX8_heldBy 24 = .ok (.iconst 1, 1) := by decide +kernel
theorem dX8_heldBy_25 : decode cX8_heldBy 25 = .ok (.goto 4, 3) := by decide +kernel
theorem dX8_heldBy_28 : decode cX8_heldBy 28 = .ok (.iconst 0, 1) := by decide +kernel
theorem dX8_heldBy_29 : decode cX8_heldBy 29 = .ok (.iadd, 1) := by decide +kernel
theorem dX8_heldBy_30 : decode cX8_heldBy 30 = .ok (.istore_n 2, 1) := by decide +kernel
theorem dX8_heldBy_31 : decode cX8_heldBy 31 = .ok (.iinc 3 1, 3) := by decide +kernel
theorem dX8_heldBy_34 : decode cX8_heldBy 34 = .ok (.goto (-30), 3) := by decide +kernel
theorem dX8_heldBy_37 : decode cX8_heldBy 37 = .ok (.iload_n 2, 1) := by decide +kernel
theorem dX8_heldBy_38 : decode cX8_heldBy 38 = .ok (.ireturn, 1) := by decide +kernel
theorem dX8_isTenant_0 : decode cX8_isTenant 0 = .ok (.aload_n 0, 1) := by decide +kernel
theorem dX8_isTenant_1 : decode cX8_isTenant 1 = .ok (.getfield 17, 3) := by decide +kernel
theorem dX8_isTenant_4 : decode cX8_isTenant 4 = .ok (.iload_n 2, 1) := by decide +kernel
theorem dX8_isTenant_5 : decode cX8_isTenant 5 = .ok (.iload_n 1, 1) := by decide +kernel
theorem dX8_isTenant_6 : decode cX8_isTenant 6 = .ok (.invokestatic 141, 3) := by decide +kernel
theorem dX8_isTenant_9 : decode cX8_isTenant 9 = .ok (.iconst (-1), 1) := by decide +kernel
theorem dX8_isTenant_10 : decode cX8_isTenant 10 = .ok (.if_icmp .eq 7, 3) := by decide +kernel
theorem dX8_isTenant_13 : decode cX8_isTenant 13 = .ok (.iconst 1, 1) := by decide +kernel
theorem dX8_isTenant_14 : decode cX8_isTenant 14 = .ok (.goto 4, 3) := by decide +kernel
theorem dX8_isTenant_17 : decode cX8_isTenant 17 = .ok (.iconst 0, 1) := by decide +kernel
theorem dX8_isTenant_18 : decode cX8_isTenant 18 = .ok (.ireturn, 1) := by decide +kernel
theorem dX8_leave_0 : decode cX8_leave 0 = .ok (.aload_n 0, 1) := by decide +kernel
theorem dX8_leave_1 : decode cX8_leave 1 = .ok (.getfield 17, 3) := by decide +kernel
theorem dX8_leave_4 : decode cX8_leave 4 = .ok (.iload_n 2, 1) := by decide +kernel
theorem dX8_leave_5 : decode cX8_leave 5 = .ok (.iload_n 1, 1) := by decide +kernel
theorem dX8_leave_6 : decode cX8_leave 6 = .ok (.invokestatic 141, 3) := by decide +kernel
theorem dX8_leave_9 : decode cX8_leave 9 = .ok (.istore_n 3, 1) := by decide +kernel
theorem dX8_leave_10 : decode cX8_leave 10 = .ok (.iload_n 2, 1) := by decide +kernel
theorem dX8_leave_11 : decode cX8_leave 11 = .ok (.invokestatic 200, 3) := by decide +kernel
theorem dX8_leave_14 : decode cX8_leave 14 = .ok (.istore 4, 2) := by decide +kernel
theorem dX8_leave_16 : decode cX8_leave 16 = .ok (.iload_n 3, 1) := by decide +kernel
theorem dX8_leave_17 : decode cX8_leave 17 = .ok (.iconst (-1), 1) := by decide +kernel
theorem dX8_leave_18 : decode cX8_leave 18 = .ok (.if_icmp .ne 4, 3) := by decide +kernel
theorem dX8_leave_21 : decode cX8_leave 21 = .ok (.return_, 1) := by decide +kernel
theorem dX8_leave_22 : decode cX8_leave 22 = .ok (.aload_n 0, 1) := by decide +kernel
theorem dX8_leave_23 : decode cX8_leave 23 = .ok (.getfield 17, 3) := by decide +kernel
theorem dX8_leave_26 : decode cX8_leave 26 = .ok (.iload 4, 2) := by decide +kernel
theorem dX8_leave_28 : decode cX8_leave 28 = .ok (.iconst 3, 1) := by decide +kernel
theorem dX8_leave_29 : decode cX8_leave 29 = .ok (.iadd, 1) := by decide +kernel
theorem dX8_leave_30 : decode cX8_leave 30 = .ok (.dup2, 1) := by decide +kernel
theorem dX8_leave_31 : decode cX8_leave 31 = .ok (.iaload, 1) := by decide +kernel
theorem dX8_leave_32 : decode cX8_leave 32 = .ok (.iconst 1, 1) := by decide +kernel
theorem dX8_leave_33 : decode cX8_leave 33 = .ok (.isub, 1) := by decide +kernel
theorem dX8_leave_34 : decode cX8_leave 34 = .ok (.iastore, 1) := by decide +kernel
theorem dX8_leave_35 : decode cX8_leave 35 = .ok (.iload_n 3, 1) := by decide +kernel
theorem dX8_leave_36 : decode cX8_leave 36 = .ok (.istore 5, 2) := by decide +kernel
theorem dX8_leave_38 : decode cX8_leave 38 = .ok (.iload 5, 2) := by decide +kernel
theorem dX8_leave_40 : decode cX8_leave 40 = .ok (.aload_n 0, 1) := by decide +kernel
theorem dX8_leave_41 : decode cX8_leave 41 = .ok (.getfield 17, 3) := by decide +kernel
theorem dX8_leave_44 : decode cX8_leave 44 = .ok (.iload 4, 2) := by decide +kernel
theorem dX8_leave_46 : decode cX8_leave 46 = .ok (.iconst 3, 1) := by decide +kernel
theorem dX8_leave_47 : decode cX8_leave 47 = .ok (.iadd, 1) := by decide +kernel
theorem dX8_leave_48 : decode cX8_leave 48 = .ok (.iaload, 1) := by decide +kernel
theorem dX8_leave_49 : decode cX8_leave 49 = .ok (.if_icmp .ge 35, 3) := by decide +kernel
theorem dX8_leave_52 : decode cX8_leave 52 = .ok (.aload_n 0, 1) := by decide +kernel
theorem dX8_leave_53 : decode cX8_leave 53 = .ok (.getfield 17, 3) := by decide +kernel
theorem dX8_leave_56 : decode cX8_leave 56 = .ok (.iload 4, 2) := by decide +kernel
theorem dX8_leave_58 : decode cX8_leave 58 = .ok (.iconst 4, 1) := by decide +kernel
theorem dX8_leave_59 : decode cX8_leave 59 = .ok (.iadd, 1) := by decide +kernel
theorem dX8_leave_60 : decode cX8_leave 60 = .ok (.iload 5, 2) := by decide +kernel
theorem dX8_leave_62 : decode cX8_leave 62 = .ok (.iadd, 1) := by decide +kernel
theorem dX8_leave_63 : decode cX8_leave 63 = .ok (.aload_n 0, 1) := by decide +kernel
theorem dX8_leave_64 : decode cX8_leave 64 = .ok (.getfield 17, 3) := by decide +kernel
theorem dX8_leave_67 : decode cX8_leave 67 = .ok (.iload 4, 2) := by decide +kernel
theorem dX8_leave_69 : decode cX8_leave 69 = .ok (.iconst 4, 1) := by decide +kernel
theorem dX8_leave_70 : decode cX8_leave 70 = .ok (.iadd, 1) := by decide +kernel
theorem dX8_leave_71 : decode cX8_leave 71 = .ok (.iload 5, 2) := by decide +kernel
theorem dX8_leave_73 : decode cX8_leave 73 = .ok (.iadd, 1) := by decide +kernel
theorem dX8_leave_74 : decode cX8_leave 74 = .ok (.iconst 1, 1) := by decide +kernel
theorem dX8_leave_75 : decode cX8_leave 75 = .ok (.iadd, 1) := by decide +kernel
theorem dX8_leave_76 : decode cX8_leave 76 = .ok (.iaload, 1) := by decide +kernel
theorem dX8_leave_77 : decode cX8_leave 77 = .ok (.iastore, 1) := by decide +kernel
theorem dX8_leave_78 : decode cX8_leave 78 = .ok (.iinc 5 1, 3) := by decide +kernel
theorem dX8_leave_81 : decode cX8_leave 81 = .ok (.goto (-43), 3) := by decide +kernel
theorem dX8_leave_84 : decode cX8_leave 84 = .ok (.return_, 1) := by decide +kernel
theorem dX8_assign_0 : decode cX8_assign 0 = .ok (.iload_n 1, 1) := by decide +kernel
theorem dX8_assign_1 : decode cX8_assign 1 = .ok (.invokestatic 203, 3) := by decide +kernel
theorem dX8_assign_4 : decode cX8_assign 4 = .ok (.istore_n 2, 1) := by decide +kernel
theorem dX8_assign_5 : decode cX8_assign 5 = .ok (.aload_n 0, 1) := by decide +kernel
theorem dX8_assign_6 : decode cX8_assign 6 = .ok (.getfield 17, 3) := by decide +kernel
theorem dX8_assign_9 : decode cX8_assign 9 = .ok (.iload_n 2, 1) := by decide +kernel
theorem dX8_assign_10 : decode cX8_assign 10 = .ok (.iconst 0, 1) := by decide +kernel
theorem dX8_assign_11 : decode cX8_assign 11 = .ok (.iadd, 1) := by decide +kernel
theorem dX8_assign_12 : decode cX8_assign 12 = .ok (.iaload, 1) := by decide +kernel
theorem dX8_assign_13 : decode cX8_assign 13 = .ok (.invokestatic 200, 3) := by decide +kernel
theorem dX8_assign_16 : decode cX8_assign 16 = .ok (.istore_n 3, 1) := by decide +kernel
theorem dX8_assign_17 : decode cX8_assign 17 = .ok (.iconst (-1), 1) := by decide +kernel
theorem dX8_assign_18 : decode cX8_assign 18 = .ok (.istore 4, 2) := by decide +kernel
theorem dX8_assign_20 : decode cX8_assign 20 = .ok (.iconst 0, 1) := by decide +kernel
theorem dX8_assign_21 : decode cX8_assign 21 = .ok (.istore 5, 2) := by decide +kernel
theorem dX8_assign_23 : decode cX8_assign 23 = .ok (.aload_n 0, 1) := by decide +kernel
theorem dX8_assign_24 : decode cX8_assign 24 = .ok (.getfield 17, 3) := by decide +kernel
theorem dX8_assign_27 : decode cX8_assign 27 = .ok (.iload_n 2, 1) := by decide +kernel
theorem dX8_assign_28 : decode cX8_assign 28 = .ok (.iconst 4, 1) := by decide +kernel
theorem dX8_assign_29 : decode cX8_assign 29 = .ok (.iadd, 1) := by decide +kernel
theorem dX8_assign_30 : decode cX8_assign 30 = .ok (.iconst (-1), 1) := by decide +kernel
theorem dX8_assign_31 : decode cX8_assign 31 = .ok (.iastore, 1) := by decide +kernel
theorem dX8_assign_32 : decode cX8_assign 32 = .ok (.iconst 0, 1) := by decide +kernel
theorem dX8_assign_33 : decode cX8_assign 33 = .ok (.istore 6, 2) := by decide +kernel
theorem dX8_assign_35 : decode cX8_assign 35 = .ok (.iload 6, 2) := by decide +kernel
theorem dX8_assign_37 : decode cX8_assign 37 = .ok (.aload_n 0, 1) := by decide +kernel
theorem dX8_assign_38 : decode cX8_assign 38 = .ok (.getfield 17, 3) := by decide +kernel
theorem dX8_assign_41 : decode cX8_assign 41 = .ok (.iload_n 3, 1) := by decide +kernel
theorem dX8_assign_42 : decode cX8_assign 42 = .ok (.iconst 3, 1) := by decide +kernel
theorem dX8_assign_43 : decode cX8_assign 43 = .ok (.iadd, 1) := by decide +kernel
theorem dX8_assign_44 : decode cX8_assign 44 = .ok (.iaload, 1) := by decide +kernel
theorem dX8_assign_45 : decode cX8_assign 45 = .ok (.if_icmp .ge 54, 3) := by decide +kernel
theorem dX8_assign_48 : decode cX8_assign 48 = .ok (.aload_n 0, 1) := by decide +kernel
theorem dX8_assign_49 : decode cX8_assign 49 = .ok (.getfield 17, 3) := by decide +kernel
theorem dX8_assign_52 : decode cX8_assign 52 = .ok (.iload_n 3, 1) := by decide +kernel
theorem dX8_assign_53 : decode cX8_assign 53 = .ok (.iconst 4, 1) := by decide +kernel
theorem dX8_assign_54 : decode cX8_assign 54 = .ok (.iadd, 1) := by decide +kernel
theorem dX8_assign_55 : decode cX8_assign 55 = .ok (.iload 6, 2) := by decide +kernel
theorem dX8_assign_57 : decode cX8_assign 57 = .ok (.iadd, 1) := by decide +kernel
theorem dX8_assign_58 : decode cX8_assign 58 = .ok (.iaload, 1) := by decide +kernel
theorem dX8_assign_59 : decode cX8_assign 59 = .ok (.istore 7, 2) := by decide +kernel
theorem dX8_assign_61 : decode cX8_assign 61 = .ok (.aload_n 0, 1) := by decide +kernel
theorem dX8_assign_62 : decode cX8_assign 62 = .ok (.iload 7, 2) := by decide +kernel
theorem dX8_assign_64 : decode cX8_assign 64 = .ok (.invokevirtual 216, 3) := by decide +kernel
theorem dX8_assign_67 : decode cX8_assign 67 = .ok (.istore 8, 2) := by decide +kernel
theorem dX8_assign_69 : decode cX8_assign 69 = .ok (.iload 4, 2) := by decide +kernel
theorem dX8_assign_71 : decode cX8_assign 71 = .ok (.iconst (-1), 1) := by decide +kernel
theorem dX8_assign_72 : decode cX8_assign 72 = .ok (.if_icmp .eq 13, 3) := by decide +kernel
theorem dX8_assign_75 : decode cX8_assign 75 = .ok (.iload 8, 2) := by decide +kernel
theorem dX8_assign_77 : decode cX8_assign 77 = .ok (.iload 5, 2) := by decide +kernel
theorem dX8_assign_79 : decode cX8_assign 79 = .ok (.if_icmp .lt 6, 3) := by decide +kernel
theorem dX8_assign_82 : decode cX8_assign 82 = .ok (.goto 11, 3) := by decide +kernel
theorem dX8_assign_85 : decode cX8_assign 85 = .ok (.iload 7, 2) := by decide +kernel
theorem dX8_assign_87 : decode cX8_assign 87 = .ok (.istore 4, 2) := by decide +kernel
theorem dX8_assign_89 : decode cX8_assign 89 = .ok (.iload 8, 2) := by decide +kernel
theorem dX8_assign_91 : decode cX8_assign 91 = .ok (.istore 5, 2) := by decide +kernel
theorem dX8_assign_93 : decode cX8_assign 93 = .ok (.iinc 6 1, 3) := by decide +kernel
theorem dX8_assign_96 : decode cX8_assign 96 = .ok (.goto (-61), 3) := by decide +kernel
theorem dX8_assign_99 : decode cX8_assign 99 = .ok (.aload_n 0, 1) := by decide +kernel
theorem dX8_assign_100 : decode cX8_assign 100 = .ok (.getfield 17, 3) := by decide +kernel
theorem dX8_assign_103 : decode cX8_assign 103 = .ok (.iload_n 2, 1) := by decide +kernel
theorem dX8_assign_104 : decode cX8_assign 104 = .ok (.iconst 4, 1) := by decide +kernel
theorem dX8_assign_105 : decode cX8_assign 105 = .ok (.iadd, 1) := by decide +kernel
theorem dX8_assign_106 : decode cX8_assign 106 = .ok (.iload 4, 2) := by decide +kernel
theorem dX8_assign_108 : decode cX8_assign 108 = .ok (.iastore, 1) := by decide +kernel
theorem dX8_assign_109 : decode cX8_assign 109 = .ok (.aload_n 0, 1) := by decide +kernel
theorem dX8_assign_110 : decode cX8_assign 110 = .ok (.getfield 17, 3) := by decide +kernel
theorem dX8_assign_113 : decode cX8_assign 113 = .ok (.iload_n 2, 1) := by decide +kernel
theorem dX8_assign_114 : decode cX8_assign 114 = .ok (.bipush 7, 2) := by decide +kernel
theorem dX8_assign_116 : decode cX8_assign 116 = .ok (.iadd, 1) := by decide +kernel
theorem dX8_assign_117 : decode cX8_assign 117 = .ok (.aload_n 0, 1) := by decide +kernel
theorem dX8_assign_118 : decode cX8_assign 118 = .ok (.getfield 17, 3) := by decide +kernel
theorem dX8_assign_121 : decode cX8_assign 121 = .ok (.iconst 0, 1) := by decide +kernel
theorem dX8_assign_122 : decode cX8_assign 122 = .ok (.iaload, 1) := by decide +kernel
theorem dX8_assign_123 : decode cX8_assign 123 = .ok (.iastore, 1) := by decide +kernel
theorem dX8_assign_124 : decode cX8_assign 124 = .ok (.return_, 1) := by decide +kernel
theorem dX8_raisedOn_0 : decode cX8_raisedOn 0 = .ok (.iconst 0, 1) := by decide +kernel
theorem dX8_raisedOn_1 : decode cX8_raisedOn 1 = .ok (.istore_n 2, 1) := by decide +kernel
theorem dX8_raisedOn_2 : decode cX8_raisedOn 2 = .ok (.iconst 0, 1) := by decide +kernel
theorem dX8_raisedOn_3 : decode cX8_raisedOn 3 = .ok (.istore_n 3, 1) := by decide +kernel
theorem dX8_raisedOn_4 : decode cX8_raisedOn 4 = .ok (.iload_n 3, 1) := by decide +kernel
theorem dX8_raisedOn_5 : decode cX8_raisedOn 5 = .ok (.aload_n 0, 1) := by decide +kernel
theorem dX8_raisedOn_6 : decode cX8_raisedOn 6 = .ok (.getfield 17, 3) := by decide +kernel
theorem dX8_raisedOn_9 : decode cX8_raisedOn 9 = .ok (.iconst 3, 1) := by decide +kernel
theorem dX8_raisedOn_10 : decode cX8_raisedOn 10 = .ok (.iaload, 1) := by decide +kernel
theorem dX8_raisedOn_11 : decode cX8_raisedOn 11 = .ok (.if_icmp .ge 59, 3) := by decide +kernel
theorem dX8_raisedOn_14 : decode cX8_raisedOn 14 = .ok (.iload_n 2, 1) := by decide +kernel
theorem dX8_raisedOn_15 : decode cX8_raisedOn 15 = .ok (.aload_n 0, 1) := by decide +kernel
theorem dX8_raisedOn_16 : decode cX8_raisedOn 16 = .ok (.iload_n 3, 1) := by decide +kernel
theorem dX8_raisedOn_17 : decode cX8_raisedOn 17 = .ok (.iconst 0, 1) := by decide +kernel
theorem dX8_raisedOn_18 : decode cX8_raisedOn 18 = .ok (.invokevirtual 206, 3) := by decide +kernel
theorem dX8_raisedOn_21 : decode cX8_raisedOn 21 = .ok (.iload_n 1, 1) := by decide +kernel
theorem dX8_raisedOn_22 : decode cX8_raisedOn 22 = .ok (.if_icmp .ne 39, 3) := by decide +kernel
theorem dX8_raisedOn_25 : decode cX8_raisedOn 25 = .ok (.aload_n 0, 1) := by decide +kernel
theorem dX8_raisedOn_26 : decode cX8_raisedOn 26 = .ok (.iload_n 3, 1) := by decide +kernel
theorem dX8_raisedOn_27 : decode cX8_raisedOn 27 = .ok (.iconst 3, 1) := by decide +kernel
theorem dX8_raisedOn_28 : decode cX8_raisedOn 28 = .ok (.invokevirtual 206, 3) := by decide +kernel
theorem dX8_raisedOn_31 : decode cX8_raisedOn 31 = .ok (.ifCond .eq 30, 3) := by decide +kernel
theorem dX8_raisedOn_34 : decode cX8_raisedOn 34 = .ok (.aload_n 0, 1) := by decide +kernel
theorem dX8_raisedOn_35 : decode cX8_raisedOn 35 = .ok (.iload_n 3, 1) := by decide +kernel
theorem dX8_raisedOn_36 : decode cX8_raisedOn 36 = .ok (.iconst 1, 1) := by decide +kernel
theorem dX8_raisedOn_37 : decode cX8_raisedOn 37 = .ok (.invokevirtual 206, 3) := by decide +kernel
theorem dX8_raisedOn_40 : decode cX8_raisedOn 40 = .ok (.aload_n 0, 1) := by decide +kernel
theorem dX8_raisedOn_41 : decode cX8_raisedOn 41 = .ok (.getfield 17, 3) := by decide +kernel
theorem dX8_raisedOn_44 : decode cX8_raisedOn 44 = .ok (.iconst 0, 1) := by decide +kernel
theorem dX8_raisedOn_45 : decode cX8_raisedOn 45 = .ok (.iaload, 1) := by decide +kernel
theorem dX8_raisedOn_46 : decode cX8_raisedOn 46 = .ok (.aload_n 0, 1) := by decide +kernel
theorem dX8_raisedOn_47 : decode cX8_raisedOn 47 = .ok (.getfield 17, 3) := by decide +kernel
theorem dX8_raisedOn_50 : decode cX8_raisedOn 50 = .ok (.bipush 6, 2) := by decide +kernel
theorem dX8_raisedOn_52 : decode cX8_raisedOn 52 = .ok (.iaload, 1) := by decide +kernel
theorem dX8_raisedOn_53 : decode cX8_raisedOn 53 = .ok (.isub, 1) := by decide +kernel
theorem dX8_raisedOn_54 : decode cX8_raisedOn 54 = .ok (.if_icmp .le 7, 3) := by decide +kernel
theorem dX8_raisedOn_57 : decode cX8_raisedOn 57 = .ok (.iconst 1, 1) := by decide +kernel
theorem dX8_raisedOn_58 : decode cX8_raisedOn 58 = .ok (.goto 4, 3) := by decide +kernel
theorem dX8_raisedOn_61 : decode cX8_raisedOn 61 = .ok (.iconst 0, 1) := by decide +kernel
theorem dX8_raisedOn_62 : decode cX8_raisedOn 62 = .ok (.iadd, 1) := by decide +kernel
theorem dX8_raisedOn_63 : decode cX8_raisedOn 63 = .ok (.istore_n 2, 1) := by decide +kernel
theorem dX8_raisedOn_64 : decode cX8_raisedOn 64 = .ok (.iinc 3 1, 3) := by decide +kernel
theorem dX8_raisedOn_67 : decode cX8_raisedOn 67 = .ok (.goto (-63), 3) := by decide +kernel
theorem dX8_raisedOn_70 : decode cX8_raisedOn 70 = .ok (.iload_n 2, 1) := by decide +kernel
theorem dX8_raisedOn_71 : decode cX8_raisedOn 71 = .ok (.ireturn, 1) := by decide +kernel
theorem dX8_raiseNow_0 : decode cX8_raiseNow 0 = .ok (.iload_n 1, 1) := by decide +kernel
theorem dX8_raiseNow_1 : decode cX8_raiseNow 1 = .ok (.invokestatic 203, 3) := by decide +kernel
theorem dX8_raiseNow_4 : decode cX8_raiseNow 4 = .ok (.istore_n 2, 1) := by decide +kernel
theorem dX8_raiseNow_5 : decode cX8_raiseNow 5 = .ok (.aload_n 0, 1) := by decide +kernel
theorem dX8_raiseNow_6 : decode cX8_raiseNow 6 = .ok (.getfield 17, 3) := by decide +kernel
theorem dX8_raiseNow_9 : decode cX8_raiseNow 9 = .ok (.iload_n 2, 1) := by decide +kernel
theorem dX8_raiseNow_10 : decode cX8_raiseNow 10 = .ok (.iconst 0, 1) := by decide +kernel
theorem dX8_raiseNow_11 : decode cX8_raiseNow 11 = .ok (.iadd, 1) := by decide +kernel
theorem dX8_raiseNow_12 : decode cX8_raiseNow 12 = .ok (.iaload, 1) := by decide +kernel
theorem dX8_raiseNow_13 : decode cX8_raiseNow 13 = .ok (.istore_n 3, 1) := by decide +kernel
theorem dX8_raiseNow_14 : decode cX8_raiseNow 14 = .ok (.iload_n 3, 1) := by decide +kernel
theorem dX8_raiseNow_15 : decode cX8_raiseNow 15 = .ok (.invokestatic 200, 3) := by decide +kernel
theorem dX8_raiseNow_18 : decode cX8_raiseNow 18 = .ok (.iconst 2, 1) := by decide +kernel
theorem dX8_raiseNow_19 : decode cX8_raiseNow 19 = .ok (.iadd, 1) := by decide +kernel
theorem dX8_raiseNow_20 : decode cX8_raiseNow 20 = .ok (.istore 4, 2) := by decide +kernel
theorem dX8_raiseNow_22 : decode cX8_raiseNow 22 = .ok (.aload_n 0, 1) := by decide +kernel
theorem dX8_raiseNow_23 : decode cX8_raiseNow 23 = .ok (.iload_n 3, 1) := by decide +kernel
theorem dX8_raiseNow_24 : decode cX8_raiseNow 24 = .ok (.invokevirtual 219, 3) := by decide +kernel
theorem dX8_raiseNow_27 : decode cX8_raiseNow 27 = .ok (.iconst 1, 1) := by decide +kernel
theorem dX8_raiseNow_28 : decode cX8_raiseNow 28 = .ok (.iadd, 1) := by decide +kernel
theorem dX8_raiseNow_29 : decode cX8_raiseNow 29 = .ok (.aload_n 0, 1) := by decide +kernel
theorem dX8_raiseNow_30 : decode cX8_raiseNow 30 = .ok (.iload_n 3, 1) := by decide +kernel
theorem dX8_raiseNow_31 : decode cX8_raiseNow 31 = .ok (.iconst 1, 1) := by decide +kernel
theorem dX8_raiseNow_32 : decode cX8_raiseNow 32 = .ok (.invokevirtual 222, 3) := by decide +kernel
theorem dX8_raiseNow_35 : decode cX8_raiseNow 35 = .ok (.if_icmp .le 70, 3) := by decide +kernel
theorem dX8_raiseNow_38 : decode cX8_raiseNow 38 = .ok (.aload_n 0, 1) := by decide +kernel
theorem dX8_raiseNow_39 : decode cX8_raiseNow 39 = .ok (.getfield 17, 3) := by decide +kernel
theorem dX8_raiseNow_42 : decode cX8_raiseNow 42 = .ok (.bipush 7, 2) := by decide +kernel
theorem dX8_raiseNow_44 : decode cX8_raiseNow 44 = .ok (.iaload, 1) := by decide +kernel
theorem dX8_raiseNow_45 : decode cX8_raiseNow 45 = .ok (.aload_n 0, 1) := by decide +kernel
theorem dX8_raiseNow_46 : decode cX8_raiseNow 46 = .ok (.getfield 17, 3) := by decide +kernel
theorem dX8_raiseNow_49 : decode cX8_raiseNow 49 = .ok (.iload 4, 2) := by decide +kernel
theorem dX8_raiseNow_51 : decode cX8_raiseNow 51 = .ok (.iaload, 1) := by decide +kernel
theorem dX8_raiseNow_52 : decode cX8_raiseNow 52 = .ok (.invokestatic 100, 3) := by decide +kernel
theorem dX8_raiseNow_55 : decode cX8_raiseNow 55 = .ok (.istore 5, 2) := by decide +kernel
theorem dX8_raiseNow_57 : decode cX8_raiseNow 57 = .ok (.aload_n 0, 1) := by decide +kernel
theorem dX8_raiseNow_58 : decode cX8_raiseNow 58 = .ok (.getfield 17, 3) := by decide +kernel
theorem dX8_raiseNow_61 : decode cX8_raiseNow 61 = .ok (.iload 4, 2) := by decide +kernel
theorem dX8_raiseNow_63 : decode cX8_raiseNow 63 = .ok (.dup2, 1) := by decide +kernel
theorem dX8_raiseNow_64 : decode cX8_raiseNow 64 = .ok (.iaload, 1) := by decide +kernel
theorem dX8_raiseNow_65 : decode cX8_raiseNow 65 = .ok (.iload 5, 2) := by decide +kernel
theorem dX8_raiseNow_67 : decode cX8_raiseNow 67 = .ok (.isub, 1) := by decide +kernel
theorem dX8_raiseNow_68 : decode cX8_raiseNow 68 = .ok (.iastore, 1) := by decide +kernel
theorem dX8_raiseNow_69 : decode cX8_raiseNow 69 = .ok (.aload_n 0, 1) := by decide +kernel
theorem dX8_raiseNow_70 : decode cX8_raiseNow 70 = .ok (.getfield 17, 3) := by decide +kernel
theorem dX8_raiseNow_73 : decode cX8_raiseNow 73 = .ok (.iconst 4, 1) := by decide +kernel
theorem dX8_raiseNow_74 : decode cX8_raiseNow 74 = .ok (.dup2, 1) := by decide +kernel
theorem dX8_raiseNow_75 : decode cX8_raiseNow 75 = .ok (.iaload, 1) := by decide +kernel
theorem dX8_raiseNow_76 : decode cX8_raiseNow 76 = .ok (.iload 5, 2) := by decide +kernel
theorem dX8_raiseNow_78 : decode cX8_raiseNow 78 = .ok (.iadd, 1) := by decide +kernel
theorem dX8_raiseNow_79 : decode cX8_raiseNow 79 = .ok (.iastore, 1) := by decide +kernel
theorem dX8_raiseNow_80 : decode cX8_raiseNow 80 = .ok (.aload_n 0, 1) := by decide +kernel
theorem dX8_raiseNow_81 : decode cX8_raiseNow 81 = .ok (.getfield 17, 3) := by decide +kernel
theorem dX8_raiseNow_84 : decode cX8_raiseNow 84 = .ok (.iload_n 2, 1) := by decide +kernel
theorem dX8_raiseNow_85 : decode cX8_raiseNow 85 = .ok (.iconst 3, 1) := by decide +kernel
theorem dX8_raiseNow_86 : decode cX8_raiseNow 86 = .ok (.iadd, 1) := by decide +kernel
theorem dX8_raiseNow_87 : decode cX8_raiseNow 87 = .ok (.iconst 3, 1) := by decide +kernel
theorem dX8_raiseNow_88 : decode cX8_raiseNow 88 = .ok (.iastore, 1) := by decide +kernel
theorem dX8_raiseNow_89 : decode cX8_raiseNow 89 = .ok (.aload_n 0, 1) := by decide +kernel
theorem dX8_raiseNow_90 : decode cX8_raiseNow 90 = .ok (.getfield 17, 3) := by decide +kernel
theorem dX8_raiseNow_93 : decode cX8_raiseNow 93 = .ok (.iload_n 2, 1) := by decide +kernel
theorem dX8_raiseNow_94 : decode cX8_raiseNow 94 = .ok (.bipush 6, 2) := by decide +kernel
theorem dX8_raiseNow_96 : decode cX8_raiseNow 96 = .ok (.iadd, 1) := by decide +kernel
theorem dX8_raiseNow_97 : decode cX8_raiseNow 97 = .ok (.aload_n 0, 1) := by decide +kernel
theorem dX8_raiseNow_98 : decode cX8_raiseNow 98 = .ok (.getfield 17, 3) := by decide +kernel
theorem dX8_raiseNow_101 : decode cX8_raiseNow 101 = .ok (.iconst 0, 1) := by decide +kernel
theorem dX8_raiseNow_102 : decode cX8_raiseNow 102 = .ok (.iaload, 1) := by decide +kernel
theorem dX8_raiseNow_103 : decode cX8_raiseNow 103 = .ok (.iastore, 1) := by decide +kernel
theorem dX8_raiseNow_104 : decode cX8_raiseNow 104 = .ok (.return_, 1) := by decide +kernel
theorem dX8_raiseNow_105 : decode cX8_raiseNow 105 = .ok (.aload_n 0, 1) := by decide +kernel
theorem dX8_raiseNow_106 : decode cX8_raiseNow 106 = .ok (.getfield 17, 3) := by decide +kernel
theorem dX8_raiseNow_109 : decode cX8_raiseNow 109 = .ok (.iload_n 2, 1) := by decide +kernel
theorem dX8_raiseNow_110 : decode cX8_raiseNow 110 = .ok (.iconst 3, 1) := by decide +kernel
theorem dX8_raiseNow_111 : decode cX8_raiseNow 111 = .ok (.iadd, 1) := by decide +kernel
theorem dX8_raiseNow_112 : decode cX8_raiseNow 112 = .ok (.iconst 1, 1) := by decide +kernel
theorem dX8_raiseNow_113 : decode cX8_raiseNow 113 = .ok (.iastore, 1) := by decide +kernel
theorem dX8_raiseNow_114 : decode cX8_raiseNow 114 = .ok (.aload_n 0, 1) := by decide +kernel
theorem dX8_raiseNow_115 : decode cX8_raiseNow 115 = .ok (.getfield 17, 3) := by decide +kernel
theorem dX8_raiseNow_118 : decode cX8_raiseNow 118 = .ok (.iload_n 2, 1) := by decide +kernel
theorem dX8_raiseNow_119 : decode cX8_raiseNow 119 = .ok (.iconst 5, 1) := by decide +kernel
theorem dX8_raiseNow_120 : decode cX8_raiseNow 120 = .ok (.iadd, 1) := by decide +kernel
theorem dX8_raiseNow_121 : decode cX8_raiseNow 121 = .ok (.aload_n 0, 1) := by decide +kernel
theorem dX8_raiseNow_122 : decode cX8_raiseNow 122 = .ok (.getfield 17, 3) := by decide +kernel
theorem dX8_raiseNow_125 : decode cX8_raiseNow 125 = .ok (.iload_n 2, 1) := by decide +kernel
theorem dX8_raiseNow_126 : decode cX8_raiseNow 126 = .ok (.iconst 2, 1) := by decide +kernel
theorem dX8_raiseNow_127 : decode cX8_raiseNow 127 = .ok (.iadd, 1) := by decide +kernel
theorem dX8_raiseNow_128 : decode cX8_raiseNow 128 = .ok (.iaload, 1) := by decide +kernel
theorem dX8_raiseNow_129 : decode cX8_raiseNow 129 = .ok (.iastore, 1) := by decide +kernel
theorem dX8_raiseNow_130 : decode cX8_raiseNow 130 = .ok (.aload_n 0, 1) := by decide +kernel
theorem dX8_raiseNow_131 : decode cX8_raiseNow 131 = .ok (.iload_n 1, 1) := by decide +kernel
theorem dX8_raiseNow_132 : decode cX8_raiseNow 132 = .ok (.invokevirtual 225, 3) := by decide +kernel
theorem dX8_raiseNow_135 : decode cX8_raiseNow 135 = .ok (.return_, 1) := by decide +kernel
theorem dX8_mustPay_0 : decode cX8_mustPay 0 = .ok (.iload_n 1, 1) := by decide +kernel
theorem dX8_mustPay_1 : decode cX8_mustPay 1 = .ok (.invokestatic 197, 3) := by decide +kernel
theorem dX8_mustPay_4 : decode cX8_mustPay 4 = .ok (.istore 5, 2) := by decide +kernel
theorem dX8_mustPay_6 : decode cX8_mustPay 6 = .ok (.iload_n 2, 1) := by decide +kernel
theorem dX8_mustPay_7 : decode cX8_mustPay 7 = .ok (.aload_n 0, 1) := by decide +kernel
theorem dX8_mustPay_8 : decode cX8_mustPay 8 = .ok (.getfield 17, 3) := by decide +kernel
theorem dX8_mustPay_11 : decode cX8_mustPay 11 = .ok (.iload 5, 2) := by decide +kernel
theorem dX8_mustPay_13 : decode cX8_mustPay 13 = .ok (.iconst 0, 1) := by decide +kernel
theorem dX8_mustPay_14 : decode cX8_mustPay 14 = .ok (.iadd, 1) := by decide +kernel
theorem dX8_mustPay_15 : decode cX8_mustPay 15 = .ok (.iaload, 1) := by decide +kernel
theorem dX8_mustPay_16 : decode cX8_mustPay 16 = .ok (.invokestatic 100, 3) := by decide +kernel
theorem dX8_mustPay_19 : decode cX8_mustPay 19 = .ok (.istore 6, 2) := by decide +kernel
theorem dX8_mustPay_21 : decode cX8_mustPay 21 = .ok (.aload_n 0, 1) := by decide +kernel
theorem dX8_mustPay_22 : decode cX8_mustPay 22 = .ok (.getfield 17, 3) := by decide +kernel
theorem dX8_mustPay_25 : decode cX8_mustPay 25 = .ok (.iload 5, 2) := by decide +kernel
theorem dX8_mustPay_27 : decode cX8_mustPay 27 = .ok (.iconst 0, 1) := by decide +kernel
theorem dX8_mustPay_28 : decode cX8_mustPay 28 = .ok (.iadd, 1) := by decide +kernel
theorem dX8_mustPay_29 : decode cX8_mustPay 29 = .ok (.dup2, 1) := by decide +kernel
theorem dX8_mustPay_30 : decode cX8_mustPay 30 = .ok (.iaload, 1) := by decide +kernel
theorem dX8_mustPay_31 : decode cX8_mustPay 31 = .ok (.iload 6, 2) := by decide +kernel
theorem dX8_mustPay_33 : decode cX8_mustPay 33 = .ok (.isub, 1) := by decide +kernel
theorem dX8_mustPay_34 : decode cX8_mustPay 34 = .ok (.iastore, 1) := by decide +kernel
theorem dX8_mustPay_35 : decode cX8_mustPay 35 = .ok (.aload_n 0, 1) := by decide +kernel
theorem dX8_mustPay_36 : decode cX8_mustPay 36 = .ok (.getfield 17, 3) := by decide +kernel
theorem dX8_mustPay_39 : decode cX8_mustPay 39 = .ok (.iload 5, 2) := by decide +kernel
theorem dX8_mustPay_41 : decode cX8_mustPay 41 = .ok (.iload_n 3, 1) := by decide +kernel
theorem dX8_mustPay_42 : decode cX8_mustPay 42 = .ok (.iadd, 1) := by decide +kernel
theorem dX8_mustPay_43 : decode cX8_mustPay 43 = .ok (.dup2, 1) := by decide +kernel
theorem dX8_mustPay_44 : decode cX8_mustPay 44 = .ok (.iaload, 1) := by decide +kernel
theorem dX8_mustPay_45 : decode cX8_mustPay 45 = .ok (.iload 6, 2) := by decide +kernel
theorem dX8_mustPay_47 : decode cX8_mustPay 47 = .ok (.iadd, 1) := by decide +kernel
theorem dX8_mustPay_48 : decode cX8_mustPay 48 = .ok (.iastore, 1) := by decide +kernel
theorem dX8_mustPay_49 : decode cX8_mustPay 49 = .ok (.aload_n 0, 1) := by decide +kernel
theorem dX8_mustPay_50 : decode cX8_mustPay 50 = .ok (.getfield 17, 3) := by decide +kernel
theorem dX8_mustPay_53 : decode cX8_mustPay 53 = .ok (.iload 4, 2) := by decide +kernel
theorem dX8_mustPay_55 : decode cX8_mustPay 55 = .ok (.dup2, 1) := by decide +kernel
theorem dX8_mustPay_56 : decode cX8_mustPay 56 = .ok (.iaload, 1) := by decide +kernel
theorem dX8_mustPay_57 : decode cX8_mustPay 57 = .ok (.iload 6, 2) := by decide +kernel
theorem dX8_mustPay_59 : decode cX8_mustPay 59 = .ok (.iadd, 1) := by decide +kernel
theorem dX8_mustPay_60 : decode cX8_mustPay 60 = .ok (.iastore, 1) := by decide +kernel
theorem dX8_mustPay_61 : decode cX8_mustPay 61 = .ok (.iload 6, 2) := by decide +kernel
theorem dX8_mustPay_63 : decode cX8_mustPay 63 = .ok (.iload_n 2, 1) := by decide +kernel
theorem dX8_mustPay_64 : decode cX8_mustPay 64 = .ok (.if_icmp .ne 4, 3) := by decide +kernel
theorem dX8_mustPay_67 : decode cX8_mustPay 67 = .ok (.return_, 1) := by decide +kernel
theorem dX8_mustPay_68 : decode cX8_mustPay 68 = .ok (.aload_n 0, 1) := by decide +kernel
theorem dX8_mustPay_69 : decode cX8_mustPay 69 = .ok (.getfield 17, 3) := by decide +kernel
theorem dX8_mustPay_72 : decode cX8_mustPay 72 = .ok (.iload 5, 2) := by decide +kernel
theorem dX8_mustPay_74 : decode cX8_mustPay 74 = .ok (.iconst 2, 1) := by decide +kernel
theorem dX8_mustPay_75 : decode cX8_mustPay 75 = .ok (.iadd, 1) := by decide +kernel
theorem dX8_mustPay_76 : decode cX8_mustPay 76 = .ok (.iconst 1, 1) := by decide +kernel
theorem dX8_mustPay_77 : decode cX8_mustPay 77 = .ok (.iastore, 1) := by decide +kernel
theorem dX8_mustPay_78 : decode cX8_mustPay 78 = .ok (.iconst 0, 1) := by decide +kernel
theorem dX8_mustPay_79 : decode cX8_mustPay 79 = .ok (.istore 7, 2) := by decide +kernel
theorem dX8_mustPay_81 : decode cX8_mustPay 81 = .ok (.iload 7, 2) := by decide +kernel
theorem dX8_mustPay_83 : decode cX8_mustPay 83 = .ok (.aload_n 0, 1) := by decide +kernel
theorem dX8_mustPay_84 : decode cX8_mustPay 84 = .ok (.getfield 17, 3) := by decide +kernel
theorem dX8_mustPay_87 : decode cX8_mustPay 87 = .ok (.iconst 2, 1) := by decide +kernel
theorem dX8_mustPay_88 : decode cX8_mustPay 88 = .ok (.iaload, 1) := by decide +kernel
theorem dX8_mustPay_89 : decode cX8_mustPay 89 = .ok (.if_icmp .ge 16, 3) := by decide +kernel
theorem dX8_mustPay_92 : decode cX8_mustPay 92 = .ok (.aload_n 0, 1) := by decide +kernel
theorem dX8_mustPay_93 : decode cX8_mustPay 93 = .ok (.iload_n 1, 1) := by decide +kernel
theorem dX8_mustPay_94 : decode cX8_mustPay 94 = .ok (.iload 7, 2) := by decide +kernel
theorem dX8_mustPay_96 : decode cX8_mustPay 96 = .ok (.invokevirtual 228, 3) := by decide +kernel
theorem dX8_mustPay_99 : decode cX8_mustPay 99 = .ok (.iinc 7 1, 3) := by decide +kernel
theorem dX8_mustPay_102 : decode cX8_mustPay 102 = .ok (.goto (-21), 3) := by decide +kernel
theorem dX8_mustPay_105 : decode cX8_mustPay 105 = .ok (.iconst 0, 1) := by decide +kernel
theorem dX8_mustPay_106 : decode cX8_mustPay 106 = .ok (.istore 7, 2) := by decide +kernel
theorem dX8_mustPay_108 : decode cX8_mustPay 108 = .ok (.iload 7, 2) := by decide +kernel
theorem dX8_mustPay_110 : decode cX8_mustPay 110 = .ok (.aload_n 0, 1) := by decide +kernel
theorem dX8_mustPay_111 : decode cX8_mustPay 111 = .ok (.getfield 17, 3) := by decide +kernel
theorem dX8_mustPay_114 : decode cX8_mustPay 114 = .ok (.iconst 3, 1) := by decide +kernel
theorem dX8_mustPay_115 : decode cX8_mustPay 115 = .ok (.iaload, 1) := by decide +kernel
theorem dX8_mustPay_116 : decode cX8_mustPay 116 = .ok (.if_icmp .ge 25, 3) := by decide +kernel
theorem dX8_mustPay_119 : decode cX8_mustPay 119 = .ok (.aload_n 0, 1) := by decide +kernel
theorem dX8_mustPay_120 : decode cX8_mustPay 120 = .ok (.iload_n 1, 1) := by decide +kernel
theorem dX8_mustPay_121 : decode cX8_mustPay 121 = .ok (.iload 7, 2) := by decide +kernel
theorem dX8_mustPay_123 : decode cX8_mustPay 123 = .ok (.invokevirtual 212, 3) := by decide +kernel
theorem dX8_mustPay_126 : decode cX8_mustPay 126 = .ok (.ifCond .eq 9, 3) := by decide +kernel
theorem dX8_mustPay_129 : decode cX8_mustPay 129 = .ok (.aload_n 0, 1) := by decide +kernel
theorem dX8_mustPay_130 : decode cX8_mustPay 130 = .ok (.iload 7, 2) := by decide +kernel
theorem dX8_mustPay_132 : decode cX8_mustPay 132 = .ok (.invokevirtual 225, 3) := by decide +kernel
theorem dX8_mustPay_135 : decode cX8_mustPay 135 = .ok (.iinc 7 1, 3) := by decide +kernel
theorem dX8_mustPay_138 : decode cX8_mustPay 138 = .ok (.goto (-30), 3) := by decide +kernel
theorem dX8_mustPay_141 : decode cX8_mustPay 141 = .ok (.return_, 1) := by decide +kernel
theorem dX8_limited_0 : decode cX8_limited 0 = .ok (.lload_n 0, 1) := by decide +kernel
theorem dX8_limited_1 : decode cX8_limited 1 = .ok (.ldc2_w 231, 3) := by decide +kernel
theorem dX8_limited_4 : decode cX8_limited 4 = .ok (.lcmp, 1) := by decide +kernel
theorem dX8_limited_5 : decode cX8_limited 5 = .ok (.ifCond .le 9, 3) := by decide +kernel
theorem dX8_limited_8 : decode cX8_limited 8 = .ok (.ldc2_w 231, 3) := by decide +kernel
theorem dX8_limited_11 : decode cX8_limited 11 = .ok (.goto 18, 3) := by decide +kernel
theorem dX8_limited_14 : decode cX8_limited 14 = .ok (.lload_n 0, 1) := by decide +kernel
theorem dX8_limited_15 : decode cX8_limited 15 = .ok (.ldc2_w 233, 3) := by decide +kernel
theorem dX8_limited_18 : decode cX8_limited 18 = .ok (.lcmp, 1) := by decide +kernel
theorem dX8_limited_19 : decode cX8_limited 19 = .ok (.ifCond .ge 9, 3) := by decide +kernel
theorem dX8_limited_22 : decode cX8_limited 22 = .ok (.ldc2_w 233, 3) := by decide +kernel
theorem dX8_limited_25 : decode cX8_limited 25 = .ok (.goto 4, 3) := by decide +kernel
theorem dX8_limited_28 : decode cX8_limited 28 = .ok (.lload_n 0, 1) := by decide +kernel
theorem dX8_limited_29 : decode cX8_limited 29 = .ok (.lreturn, 1) := by decide +kernel
theorem dX8_operate_0 : decode cX8_operate 0 = .ok (.iload_n 0, 1) := by decide +kernel
theorem dX8_operate_1 : decode cX8_operate 1 = .ok (.iconst 5, 1) := by decide +kernel
theorem dX8_operate_2 : decode cX8_operate 2 = .ok (.if_icmp .ne 17, 3) := by decide +kernel
theorem dX8_operate_5 : decode cX8_operate 5 = .ok (.lload_n 3, 1) := by decide +kernel
theorem dX8_operate_6 : decode cX8_operate 6 = .ok (.lconst 0, 1) := by decide +kernel
theorem dX8_operate_7 : decode cX8_operate 7 = .ok (.lcmp, 1) := by decide +kernel
theorem dX8_operate_8 : decode cX8_operate 8 = .ok (.ifCond .ne 7, 3) := by decide +kernel
theorem dX8_operate_11 : decode cX8_operate 11 = .ok (.lconst 0, 1) := by decide +kernel
theorem dX8_operate_12 : decode cX8_operate 12 = .ok (.goto 6, 3) := by decide +kernel
theorem dX8_operate_15 : decode cX8_operate 15 = .ok (.lload_n 1, 1) := by decide +kernel
theorem dX8_operate_16 : decode cX8_operate 16 = .ok (.lload_n 3, 1) := by decide +kernel
theorem dX8_operate_17 : decode cX8_operate 17 = .ok (.ldiv, 1) := by decide +kernel
theorem dX8_operate_18 : decode cX8_operate 18 = .ok (.lreturn, 1) := by decide +kernel
theorem dX8_operate_19 : decode cX8_operate 19 = .ok (.iload_n 0, 1) := by decide +kernel
theorem dX8_operate_20 : decode cX8_operate 20 = .ok (.iconst 2, 1) := by decide +kernel
theorem dX8_operate_21 : decode cX8_operate 21 = .ok (.if_icmp .ne 9, 3) := by decide +kernel
theorem dX8_operate_24 : decode cX8_operate 24 = .ok (.lload_n 1, 1) := by decide +kernel
theorem dX8_operate_25 : decode cX8_operate 25 = .ok (.lload_n 3, 1) := by decide +kernel
theorem dX8_operate_26 : decode cX8_operate 26 = .ok (.ladd, 1) := by decide +kernel
theorem dX8_operate_27 : decode cX8_operate 27 = .ok (.goto 17, 3) := by decide +kernel
theorem dX8_operate_30 : decode cX8_operate 30 = .ok (.iload_n 0, 1) := by decide +kernel
theorem dX8_operate_31 : decode cX8_operate 31 = .ok (.iconst 3, 1) := by decide +kernel
theorem dX8_operate_32 : decode cX8_operate 32 = .ok (.if_icmp .ne 9, 3) := by decide +kernel
theorem dX8_operate_35 : decode cX8_operate 35 = .ok (.lload_n 1, 1) := by decide +kernel
theorem dX8_operate_36 : decode cX8_operate 36 = .ok (.lload_n 3, 1) := by decide +kernel
theorem dX8_operate_37 : decode cX8_operate 37 = .ok (.lsub, 1) := by decide +kernel
theorem dX8_operate_38 : decode cX8_operate 38 = .ok (.goto 6, 3) := by decide +kernel
theorem dX8_operate_41 : decode cX8_operate 41 = .ok (.lload_n 1, 1) := by decide +kernel
theorem dX8_operate_42 : decode cX8_operate 42 = .ok (.lload_n 3, 1) := by decide +kernel
theorem dX8_operate_43 : decode cX8_operate 43 = .ok (.lmul, 1) := by decide +kernel
theorem dX8_operate_44 : decode cX8_operate 44 = .ok (.invokestatic 235, 3) := by decide +kernel
theorem dX8_operate_47 : decode cX8_operate 47 = .ok (.lreturn, 1) := by decide +kernel
theorem dX8_fineOf_0 : decode cX8_fineOf 0 = .ok (.iconst 0, 1) := by decide +kernel
theorem dX8_fineOf_1 : decode cX8_fineOf 1 = .ok (.istore_n 2, 1) := by decide +kernel
theorem dX8_fineOf_2 : decode cX8_fineOf 2 = .ok (.aload_n 0, 1) := by decide +kernel
theorem dX8_fineOf_3 : decode cX8_fineOf 3 = .ok (.getfield 17, 3) := by decide +kernel
theorem dX8_fineOf_6 : decode cX8_fineOf 6 = .ok (.iconst 0, 1) := by decide +kernel
theorem dX8_fineOf_7 : decode cX8_fineOf 7 = .ok (.iaload, 1) := by decide +kernel
theorem dX8_fineOf_8 : decode cX8_fineOf 8 = .ok (.aload_n 0, 1) := by decide +kernel
theorem dX8_fineOf_9 : decode cX8_fineOf 9 = .ok (.iload_n 1, 1) := by decide +kernel
theorem dX8_fineOf_10 : decode cX8_fineOf 10 = .ok (.bipush 7, 2) := by decide +kernel
theorem dX8_fineOf_12 : decode cX8_fineOf 12 = .ok (.invokevirtual 206, 3) := by decide +kernel
theorem dX8_fineOf_15 : decode cX8_fineOf 15 = .ok (.isub, 1) := by decide +kernel
theorem dX8_fineOf_16 : decode cX8_fineOf 16 = .ok (.istore_n 3, 1) := by decide +kernel
theorem dX8_fineOf_17 : decode cX8_fineOf 17 = .ok (.aload_n 0, 1) := by decide +kernel
theorem dX8_fineOf_18 : decode cX8_fineOf 18 = .ok (.getfield 34, 3) := by decide +kernel
theorem dX8_fineOf_21 : decode cX8_fineOf 21 = .ok (.iconst 0, 1) := by decide +kernel
theorem dX8_fineOf_22 : decode cX8_fineOf 22 = .ok (.aload_n 0, 1) := by decide +kernel
theorem dX8_fineOf_23 : decode cX8_fineOf 23 = .ok (.iload_n 1, 1) := by decide +kernel
theorem dX8_fineOf_24 : decode cX8_fineOf 24 = .ok (.iconst 5, 1) := by decide +kernel
theorem dX8_fineOf_25 : decode cX8_fineOf 25 = .ok (.invokevirtual 206, 3) := by decide +kernel
theorem dX8_fineOf_28 : decode cX8_fineOf 28 = .ok (.i2l, 1) := by decide +kernel
theorem dX8_fineOf_29 : decode cX8_fineOf 29 = .ok (.lastore, 1) := by decide +kernel
theorem dX8_fineOf_30 : decode cX8_fineOf 30 = .ok (.iconst 0, 1) := by decide +kernel
theorem dX8_fineOf_31 : decode cX8_fineOf 31 = .ok (.istore 4, 2) := by decide +kernel
theorem dX8_fineOf_33 : decode cX8_fineOf 33 = .ok (.iload 4, 2) := by decide +kernel
theorem dX8_fineOf_35 : decode cX8_fineOf 35 = .ok (.aload_n 0, 1) := by decide +kernel
theorem dX8_fineOf_36 : decode cX8_fineOf 36 = .ok (.getfield 17, 3) := by decide +kernel
theorem dX8_fineOf_39 : decode cX8_fineOf 39 = .ok (.bipush 11, 2) := by decide +kernel
theorem dX8_fineOf_41 : decode cX8_fineOf 41 = .ok (.iaload, 1) := by decide +kernel
theorem dX8_fineOf_42 : decode cX8_fineOf 42 = .ok (.if_icmp .ge 150, 3) := by decide +kernel
theorem dX8_fineOf_45 : decode cX8_fineOf 45 = .ok (.aload_n 0, 1) := by decide +kernel
theorem dX8_fineOf_46 : decode cX8_fineOf 46 = .ok (.getfield 17, 3) := by decide +kernel
theorem dX8_fineOf_49 : decode cX8_fineOf 49 = .ok (.sipush 584, 3) := by decide +kernel
theorem dX8_fineOf_52 : decode cX8_fineOf 52 = .ok (.iload 4, 2) := by decide +kernel
theorem dX8_fineOf_54 : decode cX8_fineOf 54 = .ok (.iadd, 1) := by decide +kernel
theorem dX8_fineOf_55 : decode cX8_fineOf 55 = .ok (.iaload, 1) := by decide +kernel
theorem dX8_fineOf_56 : decode cX8_fineOf 56 = .ok (.istore 5, 2) := by decide +kernel
theorem dX8_fineOf_58 : decode cX8_fineOf 58 = .ok (.iload 5, 2) := by decide +kernel
theorem dX8_fineOf_60 : decode cX8_fineOf 60 = .ok (.iconst 1, 1) := by decide +kernel
theorem dX8_fineOf_61 : decode cX8_fineOf 61 = .ok (.if_icmp .gt 95, 3) := by decide +kernel
theorem dX8_fineOf_64 : decode cX8_fineOf 64 = .ok (.iinc 4 1, 3) := by decide +kernel
theorem dX8_fineOf_67 : decode cX8_fineOf 67 = .ok (.aload_n 0, 1) := by decide +kernel
theorem dX8_fineOf_68 : decode cX8_fineOf 68 = .ok (.getfield 17, 3) := by decide +kernel
theorem dX8_fineOf_71 : decode cX8_fineOf 71 = .ok (.sipush 584, 3) := by decide +kernel
theorem dX8_fineOf_74 : decode cX8_fineOf 74 = .ok (.iload 4, 2) := by decide +kernel
theorem dX8_fineOf_76 : decode cX8_fineOf 76 = .ok (.iadd, 1) := by decide +kernel
theorem dX8_fineOf_77 : decode cX8_fineOf 77 = .ok (.iaload, 1) := by decide +kernel
theorem dX8_fineOf_78 : decode cX8_fineOf 78 = .ok (.istore 6, 2) := by decide +kernel
theorem dX8_fineOf_80 : decode cX8_fineOf 80 = .ok (.aload_n 0, 1) := by decide +kernel
theorem dX8_fineOf_81 : decode cX8_fineOf 81 = .ok (.getfield 34, 3) := by decide +kernel
theorem dX8_fineOf_84 : decode cX8_fineOf 84 = .ok (.iload_n 2, 1) := by decide +kernel
theorem dX8_fineOf_85 : decode cX8_fineOf 85 = .ok (.iload 5, 2) := by decide +kernel
theorem dX8_fineOf_87 : decode cX8_fineOf 87 = .ok (.ifCond .ne 9, 3) := by decide +kernel
theorem dX8_fineOf_90 : decode cX8_fineOf 90 = .ok (.iload 6, 2) := by decide +kernel
theorem dX8_fineOf_92 : decode cX8_fineOf 92 = .ok (.i2l, 1) := by decide +kernel
theorem dX8_fineOf_93 : decode cX8_fineOf 93 = .ok (.goto 56, 3) := by decide +kernel
theorem dX8_fineOf_96 : decode cX8_fineOf 96 = .ok (.iload 6, 2) := by decide +kernel
theorem dX8_fineOf_98 : decode cX8_fineOf 98 = .ok (.ifCond .ne 13, 3) := by decide +kernel
theorem dX8_fineOf_101 : decode cX8_fineOf 101 = .ok (.aload_n 0, 1) := by decide +kernel
theorem dX8_fineOf_102 : decode cX8_fineOf 102 = .ok (.iload_n 1, 1) := by decide +kernel
theorem dX8_fineOf_103 : decode cX8_fineOf 103 = .ok (.iconst 0, 1) := by decide +kernel
theorem dX8_fineOf_104 : decode cX8_fineOf 104 = .ok (.invokevirtual 206, 3) := by decide +kernel
theorem dX8_fineOf_107 : decode cX8_fineOf 107 = .ok (.i2l, 1) := by decide +kernel
theorem dX8_fineOf_108 : decode cX8_fineOf 108 = .ok (.goto 41, 3) := by decide +kernel
theorem dX8_fineOf_111 : decode cX8_fineOf 111 = .ok (.iload 6, 2) := by decide +kernel
theorem dX8_fineOf_113 : decode cX8_fineOf 113 = .ok (.iconst 1, 1) := by decide +kernel
theorem dX8_fineOf_114 : decode cX8_fineOf 114 = .ok (.if_icmp .ne 13, 3) := by decide +kernel
theorem dX8_fineOf_117 : decode cX8_fineOf 117 = .ok (.aload_n 0, 1) := by decide +kernel
theorem dX8_fineOf_118 : decode cX8_fineOf 118 = .ok (.iload_n 1, 1) := by decide +kernel
theorem dX8_fineOf_119 : decode cX8_fineOf 119 = .ok (.iconst 5, 1) := by decide +kernel
theorem dX8_fineOf_120 : decode cX8_fineOf 120 = .ok (.invokevirtual 206, 3) := by decide +kernel
theorem dX8_fineOf_123 : decode cX8_fineOf 123 = .ok (.i2l, 1) := by decide +kernel
theorem dX8_fineOf_124 : decode cX8_fineOf 124 = .ok (.goto 25, 3) := by decide +kernel
theorem dX8_fineOf_127 : decode cX8_fineOf 127 = .ok (.iload 6, 2) := by decide +kernel
theorem dX8_fineOf_129 : decode cX8_fineOf 129 = .ok (.iconst 2, 1) := by decide +kernel
theorem dX8_fineOf_130 : decode cX8_fineOf 130 = .ok (.if_icmp .ne 17, 3) := by decide +kernel
theorem dX8_fineOf_133 : decode cX8_fineOf 133 = .ok (.aload_n 0, 1) := by decide +kernel
theorem dX8_fineOf_134 : decode cX8_fineOf 134 = .ok (.aload_n 0, 1) := by decide +kernel
theorem dX8_fineOf_135 : decode cX8_fineOf 135 = .ok (.iload_n 1, 1) := by decide +kernel
theorem dX8_fineOf_136 : decode cX8_fineOf 136 = .ok (.iconst 4, 1) := by decide +kernel
theorem dX8_fineOf_137 : decode cX8_fineOf 137 = .ok (.invokevirtual 206, 3) := by decide +kernel
theorem dX8_fineOf_140 : decode cX8_fineOf 140 = .ok (.invokevirtual 216, 3) := by decide +kernel
theorem dX8_fineOf_143 : decode cX8_fineOf 143 = .ok (.i2l, 1) := by decide +kernel
theorem dX8_fineOf_144 : decode cX8_fineOf 144 = .ok (.goto 5, 3) := by decide +kernel
theorem dX8_fineOf_147 : decode cX8_fineOf 147 = .ok (.iload_n 3, 1) := by decide +kernel
theorem dX8_fineOf_148 : decode cX8_fineOf 148 = .ok (.i2l, 1) := by decide +kernel
theorem dX8_fineOf_149 : decode cX8_fineOf 149 = .ok (.lastore, 1) := by decide +kernel
theorem dX8_fineOf_150 : decode cX8_fineOf 150 = .ok (.iinc 2 1, 3) := by decide +kernel
theorem dX8_fineOf_153 : decode cX8_fineOf 153 = .ok (.goto 33, 3) := by decide +kernel
theorem dX8_fineOf_156 : decode cX8_fineOf 156 = .ok (.iinc 2 (-1), 3) := by decide +kernel
theorem dX8_fineOf_159 : decode cX8_fineOf 159 = .ok (.aload_n 0, 1) := by decide +kernel
theorem dX8_fineOf_160 : decode cX8_fineOf 160 = .ok (.getfield 34, 3) := by decide +kernel
theorem dX8_fineOf_163 : decode cX8_fineOf 163 = .ok (.iload_n 2, 1) := by decide +kernel
theorem dX8_fineOf_164 : decode cX8_fineOf 164 = .ok (.iconst 1, 1) := by decide +kernel
theorem dX8_fineOf_165 : decode cX8_fineOf 165 = .ok (.isub, 1) := by decide +kernel
theorem dX8_fineOf_166 : decode cX8_fineOf 166 = .ok (.iload 5, 2) := by decide +kernel
theorem dX8_fineOf_168 : decode cX8_fineOf 168 = .ok (.aload_n 0, 1) := by decide +kernel
theorem dX8_fineOf_169 : decode cX8_fineOf 169 = .ok (.getfield 34, 3) := by decide +kernel
theorem dX8_fineOf_172 : decode cX8_fineOf 172 = .ok (.iload_n 2, 1) := by decide +kernel
theorem dX8_fineOf_173 : decode cX8_fineOf 173 = .ok (.iconst 1, 1) := by decide +kernel
theorem dX8_fineOf_174 : decode cX8_fineOf 174 = .ok (.isub, 1) := by decide +kernel
theorem dX8_fineOf_175 : decode cX8_fineOf 175 = .ok (.laload, 1) := by decide +kernel
theorem dX8_fineOf_176 : decode cX8_fineOf 176 = .ok (.aload_n 0, 1) := by decide +kernel
theorem dX8_fineOf_177 : decode cX8_fineOf 177 = .ok (.getfield 34, 3) := by decide +kernel
theorem dX8_fineOf_180 : decode cX8_fineOf 180 = .ok (.iload_n 2, 1) := by decide +kernel
theorem dX8_fineOf_181 : decode cX8_fineOf 181 = .ok (.laload, 1) := by decide +kernel
theorem dX8_fineOf_182 : decode cX8_fineOf 182 = .ok (.invokestatic 239, 3) := by decide +kernel
theorem dX8_fineOf_185 : decode cX8_fineOf 185 = .ok (.lastore, 1) := by decide +kernel
theorem dX8_fineOf_186 : decode cX8_fineOf 186 = .ok (.iinc 4 1, 3) := by decide +kernel
theorem dX8_fineOf_189 : decode cX8_fineOf 189 = .ok (.goto (-156), 3) := by decide +kernel
theorem dX8_fineOf_192 : decode cX8_fineOf 192 = .ok (.aload_n 0, 1) := by decide +kernel
theorem dX8_fineOf_193 : decode cX8_fineOf 193 = .ok (.getfield 34, 3) := by decide +kernel
theorem dX8_fineOf_196 : decode cX8_fineOf 196 = .ok (.iconst 0, 1) := by decide +kernel
theorem dX8_fineOf_197 : decode cX8_fineOf 197 = .ok (.laload, 1) := by decide +kernel
theorem dX8_fineOf_198 : decode cX8_fineOf 198 = .ok (.lconst 0, 1) := by decide +kernel
theorem dX8_fineOf_199 : decode cX8_fineOf 199 = .ok (.lcmp, 1) := by decide +kernel
theorem dX8_fineOf_200 : decode cX8_fineOf 200 = .ok (.ifCond .ge 7, 3) := by decide +kernel
theorem dX8_fineOf_203 : decode cX8_fineOf 203 = .ok (.iconst 0, 1) := by decide +kernel
theorem dX8_fineOf_204 : decode cX8_fineOf 204 = .ok (.goto 29, 3) := by decide +kernel
theorem dX8_fineOf_207 : decode cX8_fineOf 207 = .ok (.aload_n 0, 1) := by decide +kernel
theorem dX8_fineOf_208 : decode cX8_fineOf 208 = .ok (.getfield 34, 3) := by decide +kernel
theorem dX8_fineOf_211 : decode cX8_fineOf 211 = .ok (.iconst 0, 1) := by decide +kernel
theorem dX8_fineOf_212 : decode cX8_fineOf 212 = .ok (.laload, 1) := by decide +kernel
theorem dX8_fineOf_213 : decode cX8_fineOf 213 = .ok (.ldc2_w 243, 3) := by decide +kernel
theorem dX8_fineOf_216 : decode cX8_fineOf 216 = .ok (.lcmp, 1) := by decide +kernel
theorem dX8_fineOf_217 : decode cX8_fineOf 217 = .ok (.ifCond .le 9, 3) := by decide +kernel
theorem dX8_fineOf_220 : decode cX8_fineOf 220 = .ok (.sipush 9999, 3) := by decide +kernel
theorem dX8_fineOf_223 : decode cX8_fineOf 223 = .ok (.goto 10, 3) := by decide +kernel
theorem dX8_fineOf_226 : decode cX8_fineOf 226 = .ok (.aload_n 0, 1) := by decide +kernel
theorem dX8_fineOf_227 : decode cX8_fineOf 227 = .ok (.getfield 34, 3) := by decide +kernel
theorem dX8_fineOf_230 : decode cX8_fineOf 230 = .ok (.iconst 0, 1) := by decide +kernel
theorem dX8_fineOf_231 : decode cX8_fineOf 231 = .ok (.laload, 1) := by decide +kernel
theorem dX8_fineOf_232 : decode cX8_fineOf 232 = .ok (.l2i, 1) := by decide +kernel
theorem dX8_fineOf_233 : decode cX8_fineOf 233 = .ok (.ireturn, 1) := by decide +kernel
theorem dX8_answer_0 : decode cX8_answer 0 = .ok (.iload_n 1, 1) := by decide +kernel
theorem dX8_answer_1 : decode cX8_answer 1 = .ok (.invokestatic 203, 3) := by decide +kernel
theorem dX8_answer_4 : decode cX8_answer 4 = .ok (.istore_n 3, 1) := by decide +kernel
theorem dX8_answer_5 : decode cX8_answer 5 = .ok (.aload_n 0, 1) := by decide +kernel
theorem dX8_answer_6 : decode cX8_answer 6 = .ok (.getfield 17, 3) := by decide +kernel
theorem dX8_answer_9 : decode cX8_answer 9 = .ok (.iload_n 3, 1) := by decide +kernel
theorem dX8_answer_10 : decode cX8_answer 10 = .ok (.iconst 0, 1) := by decide +kernel
theorem dX8_answer_11 : decode cX8_answer 11 = .ok (.iadd, 1) := by decide +kernel
theorem dX8_answer_12 : decode cX8_answer 12 = .ok (.iaload, 1) := by decide +kernel
theorem dX8_answer_13 : decode cX8_answer 13 = .ok (.invokestatic 200, 3) := by decide +kernel
theorem dX8_answer_16 : decode cX8_answer 16 = .ok (.iconst 2, 1) := by decide +kernel
theorem dX8_answer_17 : decode cX8_answer 17 = .ok (.iadd, 1) := by decide +kernel
theorem dX8_answer_18 : decode cX8_answer 18 = .ok (.istore 4, 2) := by decide +kernel
theorem dX8_answer_20 : decode cX8_answer 20 = .ok (.aload_n 0, 1) := by decide +kernel
theorem dX8_answer_21 : decode cX8_answer 21 = .ok (.getfield 17, 3) := by decide +kernel
theorem dX8_answer_24 : decode cX8_answer 24 = .ok (.iload 4, 2) := by decide +kernel
theorem dX8_answer_26 : decode cX8_answer 26 = .ok (.iaload, 1) := by decide +kernel
theorem dX8_answer_27 : decode cX8_answer 27 = .ok (.aload_n 0, 1) := by decide +kernel
theorem dX8_answer_28 : decode cX8_answer 28 = .ok (.getfield 17, 3) := by decide +kernel
theorem dX8_answer_31 : decode cX8_answer 31 = .ok (.bipush 9, 2) := by decide +kernel
theorem dX8_answer_33 : decode cX8_answer 33 = .ok (.iaload, 1) := by decide +kernel
theorem dX8_answer_34 : decode cX8_answer 34 = .ok (.aload_n 0, 1) := by decide +kernel
theorem dX8_answer_35 : decode cX8_answer 35 = .ok (.getfield 17, 3) := by decide +kernel
theorem dX8_answer_38 : decode cX8_answer 38 = .ok (.iload_n 3, 1) := by decide +kernel
theorem dX8_answer_39 : decode cX8_answer 39 = .ok (.iconst 2, 1) := by decide +kernel
theorem dX8_answer_40 : decode cX8_answer 40 = .ok (.iadd, 1) := by decide +kernel
theorem dX8_answer_41 : decode cX8_answer 41 = .ok (.iaload, 1) := by decide +kernel
theorem dX8_answer_42 : decode cX8_answer 42 = .ok (.imul, 1) := by decide +kernel
theorem dX8_answer_43 : decode cX8_answer 43 = .ok (.invokestatic 100, 3) := by decide +kernel
theorem dX8_answer_46 : decode cX8_answer 46 = .ok (.istore 5, 2) := by decide +kernel
theorem dX8_answer_48 : decode cX8_answer 48 = .ok (.aload_n 0, 1) := by decide +kernel
theorem dX8_answer_49 : decode cX8_answer 49 = .ok (.getfield 17, 3) := by decide +kernel
theorem dX8_answer_52 : decode cX8_answer 52 = .ok (.iload_n 3, 1) := by decide +kernel
theorem dX8_answer_53 : decode cX8_answer 53 = .ok (.iconst 3, 1) := by decide +kernel
theorem dX8_answer_54 : decode cX8_answer 54 = .ok (.iadd, 1) := by decide +kernel
theorem dX8_answer_55 : decode cX8_answer 55 = .ok (.iconst 2, 1) := by decide +kernel
theorem dX8_answer_56 : decode cX8_answer 56 = .ok (.iastore, 1) := by decide +kernel
theorem dX8_answer_57 : decode cX8_answer 57 = .ok (.aload_n 0, 1) := by decide +kernel
theorem dX8_answer_58 : decode cX8_answer 58 = .ok (.getfield 17, 3) := by decide +kernel
theorem dX8_answer_61 : decode cX8_answer 61 = .ok (.iload_n 3, 1) := by decide +kernel
theorem dX8_answer_62 : decode cX8_answer 62 = .ok (.bipush 6, 2) := by decide +kernel
theorem dX8_answer_64 : decode cX8_answer 64 = .ok (.iadd, 1) := by decide +kernel
theorem dX8_answer_65 : decode cX8_answer 65 = .ok (.aload_n 0, 1) := by decide +kernel
theorem dX8_answer_66 : decode cX8_answer 66 = .ok (.getfield 17, 3) := by decide +kernel
theorem dX8_answer_69 : decode cX8_answer 69 = .ok (.iconst 0, 1) := by decide +kernel
theorem dX8_answer_70 : decode cX8_answer 70 = .ok (.iaload, 1) := by decide +kernel
theorem dX8_answer_71 : decode cX8_answer 71 = .ok (.iastore, 1) := by decide +kernel
theorem dX8_answer_72 : decode cX8_answer 72 = .ok (.aload_n 0, 1) := by decide +kernel
theorem dX8_answer_73 : decode cX8_answer 73 = .ok (.getfield 17, 3) := by decide +kernel
theorem dX8_answer_76 : decode cX8_answer 76 = .ok (.iload_n 3, 1) := by decide +kernel
theorem dX8_answer_77 : decode cX8_answer 77 = .ok (.iconst 4, 1) := by decide +kernel
theorem dX8_answer_78 : decode cX8_answer 78 = .ok (.iadd, 1) := by decide +kernel
theorem dX8_answer_79 : decode cX8_answer 79 = .ok (.iconst (-1), 1) := by decide +kernel
theorem dX8_answer_80 : decode cX8_answer 80 = .ok (.iastore, 1) := by decide +kernel
theorem dX8_answer_81 : decode cX8_answer 81 = .ok (.aload_n 0, 1) := by decide +kernel
theorem dX8_answer_82 : decode cX8_answer 82 = .ok (.getfield 17, 3) := by decide +kernel
theorem dX8_answer_85 : decode cX8_answer 85 = .ok (.iload 4, 2) := by decide +kernel
theorem dX8_answer_87 : decode cX8_answer 87 = .ok (.dup2, 1) := by decide +kernel
theorem dX8_answer_88 : decode cX8_answer 88 = .ok (.iaload, 1) := by decide +kernel
theorem dX8_answer_89 : decode cX8_answer 89 = .ok (.iload 5, 2) := by decide +kernel
theorem dX8_answer_91 : decode cX8_answer 91 = .ok (.isub, 1) := by decide +kernel
theorem dX8_answer_92 : decode cX8_answer 92 = .ok (.iastore, 1) := by decide +kernel
theorem dX8_answer_93 : decode cX8_answer 93 = .ok (.aload_n 0, 1) := by decide +kernel
theorem dX8_answer_94 : decode cX8_answer 94 = .ok (.getfield 17, 3) := by decide +kernel
theorem dX8_answer_97 : decode cX8_answer 97 = .ok (.iload_n 2, 1) := by decide +kernel
theorem dX8_answer_98 : decode cX8_answer 98 = .ok (.invokestatic 197, 3) := by decide +kernel
theorem dX8_answer_101 : decode cX8_answer 101 = .ok (.iconst 0, 1) := by decide +kernel
theorem dX8_answer_102 : decode cX8_answer 102 = .ok (.iadd, 1) := by decide +kernel
theorem dX8_answer_103 : decode cX8_answer 103 = .ok (.dup2, 1) := by decide +kernel
theorem dX8_answer_104 : decode cX8_answer 104 = .ok (.iaload, 1) := by decide +kernel
theorem dX8_answer_105 : decode cX8_answer 105 = .ok (.iload 5, 2) := by decide +kernel
theorem dX8_answer_107 : decode cX8_answer 107 = .ok (.iadd, 1) := by decide +kernel
theorem dX8_answer_108 : decode cX8_answer 108 = .ok (.iastore, 1) := by decide +kernel
theorem dX8_answer_109 : decode cX8_answer 109 = .ok (.aload_n 0, 1) := by decide +kernel
theorem dX8_answer_110 : decode cX8_answer 110 = .ok (.getfield 17, 3) := by decide +kernel
theorem dX8_answer_113 : decode cX8_answer 113 = .ok (.iload_n 2, 1) := by decide +kernel
theorem dX8_answer_114 : decode cX8_answer 114 = .ok (.invokestatic 197, 3) := by decide +kernel
theorem dX8_answer_117 : decode cX8_answer 117 = .ok (.iconst 5, 1) := by decide +kernel
theorem dX8_answer_118 : decode cX8_answer 118 = .ok (.iadd, 1) := by decide +kernel
theorem dX8_answer_119 : decode cX8_answer 119 = .ok (.dup2, 1) := by decide +kernel
theorem dX8_answer_120 : decode cX8_answer 120 = .ok (.iaload, 1) := by decide +kernel
theorem dX8_answer_121 : decode cX8_answer 121 = .ok (.iload 5, 2) := by decide +kernel
theorem dX8_answer_123 : decode cX8_answer 123 = .ok (.iadd, 1) := by decide +kernel
theorem dX8_answer_124 : decode cX8_answer 124 = .ok (.iastore, 1) := by decide +kernel
theorem dX8_answer_125 : decode cX8_answer 125 = .ok (.return_, 1) := by decide +kernel
theorem dX8_work_0 : decode cX8_work 0 = .ok (.aload_n 0, 1) := by decide +kernel
theorem dX8_work_1 : decode cX8_work 1 = .ok (.iload_n 1, 1) := by decide +kernel
theorem dX8_work_2 : decode cX8_work 2 = .ok (.iconst 1, 1) := by decide +kernel
theorem dX8_work_3 : decode cX8_work 3 = .ok (.invokevirtual 245, 3) := by decide +kernel
theorem dX8_work_6 : decode cX8_work 6 = .ok (.istore_n 2, 1) := by decide +kernel
theorem dX8_work_7 : decode cX8_work 7 = .ok (.iconst 0, 1) := by decide +kernel
theorem dX8_work_8 : decode cX8_work 8 = .ok (.istore_n 3, 1) := by decide +kernel
theorem dX8_work_9 : decode cX8_work 9 = .ok (.iload_n 3, 1) := by decide +kernel
theorem dX8_work_10 : decode cX8_work 10 = .ok (.aload_n 0, 1) := by decide +kernel
theorem dX8_work_11 : decode cX8_work 11 = .ok (.getfield 17, 3) := by decide +kernel
theorem dX8_work_14 : decode cX8_work 14 = .ok (.iconst 3, 1) := by decide +kernel
theorem dX8_work_15 : decode cX8_work 15 = .ok (.iaload, 1) := by decide +kernel
theorem dX8_work_16 : decode cX8_work 16 = .ok (.if_icmp .ge 99, 3) := by decide +kernel
theorem dX8_work_19 : decode cX8_work 19 = .ok (.iload_n 2, 1) := by decide +kernel
theorem dX8_work_20 : decode cX8_work 20 = .ok (.ifCond .le 95, 3) := by decide +kernel
theorem dX8_work_23 : decode cX8_work 23 = .ok (.aload_n 0, 1) := by decide +kernel
theorem dX8_work_24 : decode cX8_work 24 = .ok (.iload_n 1, 1) := by decide +kernel
theorem dX8_work_25 : decode cX8_work 25 = .ok (.iload_n 3, 1) := by decide +kernel
theorem dX8_work_26 : decode cX8_work 26 = .ok (.invokevirtual 212, 3) := by decide +kernel
theorem dX8_work_29 : decode cX8_work 29 = .ok (.ifCond .ne 6, 3) := by decide +kernel
theorem dX8_work_32 : decode cX8_work 32 = .ok (.goto 77, 3) := by decide +kernel
theorem dX8_work_35 : decode cX8_work 35 = .ok (.iload_n 3, 1) := by decide +kernel
theorem dX8_work_36 : decode cX8_work 36 = .ok (.invokestatic 203, 3) := by decide +kernel
theorem dX8_work_39 : decode cX8_work 39 = .ok (.istore 4, 2) := by decide +kernel
theorem dX8_work_41 : decode cX8_work 41 = .ok (.iload_n 2, 1) := by decide +kernel
theorem dX8_work_42 : decode cX8_work 42 = .ok (.aload_n 0, 1) := by decide +kernel
theorem dX8_work_43 : decode cX8_work 43 = .ok (.getfield 17, 3) := by decide +kernel
theorem dX8_work_46 : decode cX8_work 46 = .ok (.iload 4, 2) := by decide +kernel
theorem dX8_work_48 : decode cX8_work 48 = .ok (.iconst 5, 1) := by decide +kernel
theorem dX8_work_49 : decode cX8_work 49 = .ok (.iadd, 1) := by decide +kernel
theorem dX8_work_50 : decode cX8_work 50 = .ok (.iaload, 1) := by decide +kernel
theorem dX8_work_51 : decode cX8_work 51 = .ok (.invokestatic 100, 3) := by decide +kernel
theorem dX8_work_54 : decode cX8_work 54 = .ok (.istore 5, 2) := by decide +kernel
theorem dX8_work_56 : decode cX8_work 56 = .ok (.iload_n 2, 1) := by decide +kernel
theorem dX8_work_57 : decode cX8_work 57 = .ok (.iload 5, 2) := by decide +kernel
theorem dX8_work_59 : decode cX8_work 59 = .ok (.isub, 1) := by decide +kernel
theorem dX8_work_60 : decode cX8_work 60 = .ok (.istore_n 2, 1) := by decide +kernel
theorem dX8_work_61 : decode cX8_work 61 = .ok (.aload_n 0, 1) := by decide +kernel
theorem dX8_work_62 : decode cX8_work 62 = .ok (.getfield 17, 3) := by decide +kernel
theorem dX8_work_65 : decode cX8_work 65 = .ok (.iload 4, 2) := by decide +kernel
theorem dX8_work_67 : decode cX8_work 67 = .ok (.iconst 5, 1) := by decide +kernel
theorem dX8_work_68 : decode cX8_work 68 = .ok (.iadd, 1) := by decide +kernel
theorem dX8_work_69 : decode cX8_work 69 = .ok (.dup2, 1) := by decide +kernel
theorem dX8_work_70 : decode cX8_work 70 = .ok (.iaload, 1) := by decide +kernel
theorem dX8_work_71 : decode cX8_work 71 = .ok (.iload 5, 2) := by decide +kernel
theorem dX8_work_73 : decode cX8_work 73 = .ok (.isub, 1) := by decide +kernel
theorem dX8_work_74 : decode cX8_work 74 = .ok (.iastore, 1) := by decide +kernel
theorem dX8_work_75 : decode cX8_work 75 = .ok (.aload_n 0, 1) := by decide +kernel
theorem dX8_work_76 : decode cX8_work 76 = .ok (.getfield 17, 3) := by decide +kernel
theorem dX8_work_79 : decode cX8_work 79 = .ok (.iload 4, 2) := by decide +kernel
theorem dX8_work_81 : decode cX8_work 81 = .ok (.bipush 7, 2) := by decide +kernel
theorem dX8_work_83 : decode cX8_work 83 = .ok (.iadd, 1) := by decide +kernel
theorem dX8_work_84 : decode cX8_work 84 = .ok (.aload_n 0, 1) := by decide +kernel
theorem dX8_work_85 : decode cX8_work 85 = .ok (.getfield 17, 3) := by decide +kernel
theorem dX8_work_88 : decode cX8_work 88 = .ok (.iconst 0, 1) := by decide +kernel
theorem dX8_work_89 : decode cX8_work 89 = .ok (.iaload, 1) := by decide +kernel
theorem dX8_work_90 : decode cX8_work 90 = .ok (.iastore, 1) := by decide +kernel
theorem dX8_work_91 : decode cX8_work 91 = .ok (.aload_n 0, 1) := by decide +kernel
theorem dX8_work_92 : decode cX8_work 92 = .ok (.getfield 17, 3) := by decide +kernel
theorem dX8_work_95 : decode cX8_work 95 = .ok (.iload 4, 2) := by decide +kernel
theorem dX8_work_97 : decode cX8_work 97 = .ok (.iconst 5, 1) := by decide +kernel
theorem dX8_work_98 : decode cX8_work 98 = .ok (.iadd, 1) := by decide +kernel
theorem dX8_work_99 : decode cX8_work 99 = .ok (.iaload, 1) := by decide +kernel
theorem dX8_work_100 : decode cX8_work 100 = .ok (.ifCond .ne 9, 3) := by decide +kernel
theorem dX8_work_103 : decode cX8_work 103 = .ok (.aload_n 0, 1) := by decide +kernel
theorem dX8_work_104 : decode cX8_work 104 = .ok (.iload_n 3, 1) := by decide +kernel
theorem dX8_work_105 : decode cX8_work 105 = .ok (.iload_n 1, 1) := by decide +kernel
theorem dX8_work_106 : decode cX8_work 106 = .ok (.invokevirtual 248, 3) := by decide +kernel
theorem dX8_work_109 : decode cX8_work 109 = .ok (.iinc 3 1, 3) := by decide +kernel
theorem dX8_work_112 : decode cX8_work 112 = .ok (.goto (-103), 3) := by decide +kernel
theorem dX8_work_115 : decode cX8_work 115 = .ok (.return_, 1) := by decide +kernel
theorem dX8_fine_0 : decode cX8_fine 0 = .ok (.iload_n 1, 1) := by decide +kernel
theorem dX8_fine_1 : decode cX8_fine 1 = .ok (.invokestatic 203, 3) := by decide +kernel
theorem dX8_fine_4 : decode cX8_fine 4 = .ok (.istore_n 2, 1) := by decide +kernel
theorem dX8_fine_5 : decode cX8_fine 5 = .ok (.aload_n 0, 1) := by decide +kernel
theorem dX8_fine_6 : decode cX8_fine 6 = .ok (.getfield 17, 3) := by decide +kernel
theorem dX8_fine_9 : decode cX8_fine 9 = .ok (.iconst 0, 1) := by decide +kernel
theorem dX8_fine_10 : decode cX8_fine 10 = .ok (.iaload, 1) := by decide +kernel
theorem dX8_fine_11 : decode cX8_fine 11 = .ok (.aload_n 0, 1) := by decide +kernel
theorem dX8_fine_12 : decode cX8_fine 12 = .ok (.getfield 17, 3) := by decide +kernel
theorem dX8_fine_15 : decode cX8_fine 15 = .ok (.iload_n 2, 1) := by decide +kernel
theorem dX8_fine_16 : decode cX8_fine 16 = .ok (.bipush 7, 2) := by decide +kernel
theorem dX8_fine_18 : decode cX8_fine 18 = .ok (.iadd, 1) := by decide +kernel
theorem dX8_fine_19 : decode cX8_fine 19 = .ok (.iaload, 1) := by decide +kernel
theorem dX8_fine_20 : decode cX8_fine 20 = .ok (.isub, 1) := by decide +kernel
theorem dX8_fine_21 : decode cX8_fine 21 = .ok (.aload_n 0, 1) := by decide +kernel
theorem dX8_fine_22 : decode cX8_fine 22 = .ok (.getfield 17, 3) := by decide +kernel
theorem dX8_fine_25 : decode cX8_fine 25 = .ok (.iconst 5, 1) := by decide +kernel
theorem dX8_fine_26 : decode cX8_fine 26 = .ok (.iaload, 1) := by decide +kernel
theorem dX8_fine_27 : decode cX8_fine 27 = .ok (.if_icmp .ge 4, 3) := by decide +kernel
theorem dX8_fine_30 : decode cX8_fine 30 = .ok (.return_, 1) := by decide +kernel
theorem dX8_fine_31 : decode cX8_fine 31 = .ok (.aload_n 0, 1) := by decide +kernel
theorem dX8_fine_32 : decode cX8_fine 32 = .ok (.iload_n 1, 1) := by decide +kernel
theorem dX8_fine_33 : decode cX8_fine 33 = .ok (.invokevirtual 251, 3) := by decide +kernel
theorem dX8_fine_36 : decode cX8_fine 36 = .ok (.istore_n 3, 1) := by decide +kernel
theorem dX8_fine_37 : decode cX8_fine 37 = .ok (.aload_n 0, 1) := by decide +kernel
theorem dX8_fine_38 : decode cX8_fine 38 = .ok (.aload_n 0, 1) := by decide +kernel
theorem dX8_fine_39 : decode cX8_fine 39 = .ok (.getfield 17, 3) := by decide +kernel
theorem dX8_fine_42 : decode cX8_fine 42 = .ok (.iload_n 2, 1) := by decide +kernel
theorem dX8_fine_43 : decode cX8_fine 43 = .ok (.iconst 4, 1) := by decide +kernel
theorem dX8_fine_44 : decode cX8_fine 44 = .ok (.iadd, 1) := by decide +kernel
theorem dX8_fine_45 : decode cX8_fine 45 = .ok (.iaload, 1) := by decide +kernel
theorem dX8_fine_46 : decode cX8_fine 46 = .ok (.iload_n 3, 1) := by decide +kernel
theorem dX8_fine_47 : decode cX8_fine 47 = .ok (.iconst 3, 1) := by decide +kernel
theorem dX8_fine_48 : decode cX8_fine 48 = .ok (.aload_n 0, 1) := by decide +kernel
theorem dX8_fine_49 : decode cX8_fine 49 = .ok (.getfield 17, 3) := by decide +kernel
theorem dX8_fine_52 : decode cX8_fine 52 = .ok (.iload_n 2, 1) := by decide +kernel
theorem dX8_fine_53 : decode cX8_fine 53 = .ok (.iconst 0, 1) := by decide +kernel
theorem dX8_fine_54 : decode cX8_fine 54 = .ok (.iadd, 1) := by decide +kernel
theorem dX8_fine_55 : decode cX8_fine 55 = .ok (.iaload, 1) := by decide +kernel
theorem dX8_fine_56 : decode cX8_fine 56 = .ok (.invokestatic 200, 3) := by decide +kernel
theorem dX8_fine_59 : decode cX8_fine 59 = .ok (.iconst 2, 1) := by decide +kernel
theorem dX8_fine_60 : decode cX8_fine 60 = .ok (.iadd, 1) := by decide +kernel
theorem dX8_fine_61 : decode cX8_fine 61 = .ok (.invokevirtual 254, 3) := by decide +kernel
theorem dX8_fine_64 : decode cX8_fine 64 = .ok (.aload_n 0, 1) := by decide +kernel
theorem dX8_fine_65 : decode cX8_fine 65 = .ok (.getfield 17, 3) := by decide +kernel
theorem dX8_fine_68 : decode cX8_fine 68 = .ok (.iload_n 2, 1) := by decide +kernel
theorem dX8_fine_69 : decode cX8_fine 69 = .ok (.bipush 7, 2) := by decide +kernel
theorem dX8_fine_71 : decode cX8_fine 71 = .ok (.iadd, 1) := by decide +kernel
theorem dX8_fine_72 : decode cX8_fine 72 = .ok (.aload_n 0, 1) := by decide +kernel
theorem dX8_fine_73 : decode cX8_fine 73 = .ok (.getfield 17, 3) := by decide +kernel
theorem dX8_fine_76 : decode cX8_fine 76 = .ok (.iconst 0, 1) := by decide +kernel
theorem dX8_fine_77 : decode cX8_fine 77 = .ok (.iaload, 1) := by decide +kernel
theorem dX8_fine_78 : decode cX8_fine 78 = .ok (.iastore, 1) := by decide +kernel
theorem dX8_fine_79 : decode cX8_fine 79 = .ok (.return_, 1) := by decide +kernel
theorem dX8_payRent_0 : decode cX8_payRent 0 = .ok (.iload_n 1, 1) := by decide +kernel
theorem dX8_payRent_1 : decode cX8_payRent 1 = .ok (.invokestatic 200, 3) := by decide +kernel
theorem dX8_payRent_4 : decode cX8_payRent 4 = .ok (.istore_n 2, 1) := by decide +kernel
theorem dX8_payRent_5 : decode cX8_payRent 5 = .ok (.aload_n 0, 1) := by decide +kernel
theorem dX8_payRent_6 : decode cX8_payRent 6 = .ok (.getfield 17, 3) := by decide +kernel
theorem dX8_payRent_9 : decode cX8_payRent 9 = .ok (.iload_n 2, 1) := by decide +kernel
theorem dX8_payRent_10 : decode cX8_payRent 10 = .ok (.iconst 3, 1) := by decide +kernel
theorem dX8_payRent_11 : decode cX8_payRent 11 = .ok (.iadd, 1) := by decide +kernel
theorem dX8_payRent_12 : decode cX8_payRent 12 = .ok (.iaload, 1) := by decide +kernel
theorem dX8_payRent_13 : decode cX8_payRent 13 = .ok (.istore_n 3, 1) := by decide +kernel
theorem dX8_payRent_14 : decode cX8_payRent 14 = .ok (.iconst 0, 1) := by decide +kernel
theorem dX8_payRent_15 : decode cX8_payRent 15 = .ok (.istore 4, 2) := by decide +kernel
theorem dX8_payRent_17 : decode cX8_payRent 17 = .ok (.iload 4, 2) := by decide +kernel
theorem dX8_payRent_19 : decode cX8_payRent 19 = .ok (.iload_n 3, 1) := by decide +kernel
theorem dX8_payRent_20 : decode cX8_payRent 20 = .ok (.if_icmp .ge 27, 3) := by decide +kernel
theorem dX8_payRent_23 : decode cX8_payRent 23 = .ok (.aload_n 0, 1) := by decide +kernel
theorem dX8_payRent_24 : decode cX8_payRent 24 = .ok (.getfield 38, 3) := by decide +kernel
theorem dX8_payRent_27 : decode cX8_payRent 27 = .ok (.iload 4, 2) := by decide +kernel
theorem dX8_payRent_29 : decode cX8_payRent 29 = .ok (.aload_n 0, 1) := by decide +kernel
theorem dX8_payRent_30 : decode cX8_payRent 30 = .ok (.getfield 17, 3) := by decide +kernel
theorem dX8_payRent_33 : decode cX8_payRent 33 = .ok (.iload_n 2, 1) := by decide +kernel
theorem dX8_payRent_34 : decode cX8_payRent 34 = .ok (.iconst 4, 1) := by decide +kernel
theorem dX8_payRent_35 : decode cX8_payRent 35 = .ok (.iadd, 1) := by decide +kernel
theorem dX8_payRent_36 : decode cX8_payRent 36 = .ok (.iload 4, 2) := by decide +kernel
theorem dX8_payRent_38 : decode cX8_payRent 38 = .ok (.iadd, 1) := by decide +kernel
theorem dX8_payRent_39 : decode cX8_payRent 39 = .ok (.iaload, 1) := by decide +kernel
theorem dX8_payRent_40 : decode cX8_payRent 40 = .ok (.iastore, 1) := by decide +kernel
theorem dX8_payRent_41 : decode cX8_payRent 41 = .ok (.iinc 4 1, 3) := by decide +kernel
theorem dX8_payRent_44 : decode cX8_payRent 44 = .ok (.goto (-27), 3) := by decide +kernel
theorem dX8_payRent_47 : decode cX8_payRent 47 = .ok (.iconst 0, 1) := by decide +kernel
theorem dX8_payRent_48 : decode cX8_payRent 48 = .ok (.istore 4, 2) := by decide +kernel
theorem dX8_payRent_50 : decode cX8_payRent 50 = .ok (.iload 4, 2) := by decide +kernel
theorem dX8_payRent_52 : decode cX8_payRent 52 = .ok (.iload_n 3, 1) := by decide +kernel
theorem dX8_payRent_53 : decode cX8_payRent 53 = .ok (.if_icmp .ge 68, 3) := by decide +kernel
theorem dX8_payRent_56 : decode cX8_payRent 56 = .ok (.aload_n 0, 1) := by decide +kernel
theorem dX8_payRent_57 : decode cX8_payRent 57 = .ok (.aload_n 0, 1) := by decide +kernel
theorem dX8_payRent_58 : decode cX8_payRent 58 = .ok (.getfield 38, 3) := by decide +kernel
theorem dX8_payRent_61 : decode cX8_payRent 61 = .ok (.iload 4, 2) := by decide +kernel
theorem dX8_payRent_63 : decode cX8_payRent 63 = .ok (.iaload, 1) := by decide +kernel
theorem dX8_payRent_64 : decode cX8_payRent 64 = .ok (.iload_n 1, 1) := by decide +kernel
theorem dX8_payRent_65 : decode cX8_payRent 65 = .ok (.invokevirtual 258, 3) := by decide +kernel
theorem dX8_payRent_68 : decode cX8_payRent 68 = .ok (.ifCond .eq 47, 3) := by decide +kernel
theorem dX8_payRent_71 : decode cX8_payRent 71 = .ok (.aload_n 0, 1) := by decide +kernel
theorem dX8_payRent_72 : decode cX8_payRent 72 = .ok (.aload_n 0, 1) := by decide +kernel
theorem dX8_payRent_73 : decode cX8_payRent 73 = .ok (.getfield 38, 3) := by decide +kernel
theorem dX8_payRent_76 : decode cX8_payRent 76 = .ok (.iload 4, 2) := by decide +kernel
theorem dX8_payRent_78 : decode cX8_payRent 78 = .ok (.iaload, 1) := by decide +kernel
theorem dX8_payRent_79 : decode cX8_payRent 79 = .ok (.aload_n 0, 1) := by decide +kernel
theorem dX8_payRent_80 : decode cX8_payRent 80 = .ok (.getfield 17, 3) := by decide +kernel
theorem dX8_payRent_83 : decode cX8_payRent 83 = .ok (.iload_n 2, 1) := by decide +kernel
theorem dX8_payRent_84 : decode cX8_payRent 84 = .ok (.iconst 0, 1) := by decide +kernel
theorem dX8_payRent_85 : decode cX8_payRent 85 = .ok (.iadd, 1) := by decide +kernel
theorem dX8_payRent_86 : decode cX8_payRent 86 = .ok (.iaload, 1) := by decide +kernel
theorem dX8_payRent_87 : decode cX8_payRent 87 = .ok (.iload_n 3, 1) := by decide +kernel
theorem dX8_payRent_88 : decode cX8_payRent 88 = .ok (.idiv, 1) := by decide +kernel
theorem dX8_payRent_89 : decode cX8_payRent 89 = .ok (.iload 4, 2) := by decide +kernel
theorem dX8_payRent_91 : decode cX8_payRent 91 = .ok (.aload_n 0, 1) := by decide +kernel
theorem dX8_payRent_92 : decode cX8_payRent 92 = .ok (.getfield 17, 3) := by decide +kernel
theorem dX8_payRent_95 : decode cX8_payRent 95 = .ok (.iload_n 2, 1) := by decide +kernel
theorem dX8_payRent_96 : decode cX8_payRent 96 = .ok (.iconst 0, 1) := by decide +kernel
theorem dX8_payRent_97 : decode cX8_payRent 97 = .ok (.iadd, 1) := by decide +kernel
theorem dX8_payRent_98 : decode cX8_payRent 98 = .ok (.iaload, 1) := by decide +kernel
theorem dX8_payRent_99 : decode cX8_payRent 99 = .ok (.iload_n 3, 1) := by decide +kernel
theorem dX8_payRent_100 : decode cX8_payRent 100 = .ok (.irem, 1) := by decide +kernel
theorem dX8_payRent_101 : decode cX8_payRent 101 = .ok (.if_icmp .ge 7, 3) := by decide +kernel
theorem dX8_payRent_104 : decode cX8_payRent 104 = .ok (.iconst 1, 1) := by decide +kernel
theorem dX8_payRent_105 : decode cX8_payRent 105 = .ok (.goto 4, 3) := by decide +kernel
theorem dX8_payRent_108 : decode cX8_payRent 108 = .ok (.iconst 0, 1) := by decide +kernel
theorem dX8_payRent_109 : decode cX8_payRent 109 = .ok (.iadd, 1) := by decide +kernel
theorem dX8_payRent_110 : decode cX8_payRent 110 = .ok (.iconst 4, 1) := by decide +kernel
theorem dX8_payRent_111 : decode cX8_payRent 111 = .ok (.iconst 4, 1) := by decide +kernel
theorem dX8_payRent_112 : decode cX8_payRent 112 = .ok (.invokevirtual 254, 3) := by decide +kernel
theorem dX8_payRent_115 : decode cX8_payRent 115 = .ok (.iinc 4 1, 3) := by decide +kernel
theorem dX8_payRent_118 : decode cX8_payRent 118 = .ok (.goto (-68), 3) := by decide +kernel
theorem dX8_payRent_121 : decode cX8_payRent 121 = .ok (.return_, 1) := by decide +kernel
theorem dX8_tick_0 : decode cX8_tick 0 = .ok (.iconst 0, 1) := by decide +kernel
theorem dX8_tick_1 : decode cX8_tick 1 = .ok (.istore_n 1, 1) := by decide +kernel
theorem dX8_tick_2 : decode cX8_tick 2 = .ok (.iload_n 1, 1) := by decide +kernel
theorem dX8_tick_3 : decode cX8_tick 3 = .ok (.aload_n 0, 1) := by decide +kernel
theorem dX8_tick_4 : decode cX8_tick 4 = .ok (.getfield 17, 3) := by decide +kernel
theorem dX8_tick_7 : decode cX8_tick 7 = .ok (.iconst 3, 1) := by decide +kernel
theorem dX8_tick_8 : decode cX8_tick 8 = .ok (.iaload, 1) := by decide +kernel
theorem dX8_tick_9 : decode cX8_tick 9 = .ok (.if_icmp .ge 38, 3) := by decide +kernel
theorem dX8_tick_12 : decode cX8_tick 12 = .ok (.aload_n 0, 1) := by decide +kernel
theorem dX8_tick_13 : decode cX8_tick 13 = .ok (.iload_n 1, 1) := by decide +kernel
theorem dX8_tick_14 : decode cX8_tick 14 = .ok (.iconst 3, 1) := by decide +kernel
theorem dX8_tick_15 : decode cX8_tick 15 = .ok (.invokevirtual 206, 3) := by decide +kernel
theorem dX8_tick_18 : decode cX8_tick 18 = .ok (.ifCond .ne 23, 3) := by decide +kernel
theorem dX8_tick_21 : decode cX8_tick 21 = .ok (.aload_n 0, 1) := by decide +kernel
theorem dX8_tick_22 : decode cX8_tick 22 = .ok (.iload_n 1, 1) := by decide +kernel
theorem dX8_tick_23 : decode cX8_tick 23 = .ok (.iconst 1, 1) := by decide +kernel
theorem dX8_tick_24 : decode cX8_tick 24 = .ok (.invokevirtual 206, 3) := by decide +kernel
theorem dX8_tick_27 : decode cX8_tick 27 = .ok (.aload_n 0, 1) := by decide +kernel
theorem dX8_tick_28 : decode cX8_tick 28 = .ok (.getfield 17, 3) := by decide +kernel
theorem dX8_tick_31 : decode cX8_tick 31 = .ok (.iconst 0, 1) := by decide +kernel
theorem dX8_tick_32 : decode cX8_tick 32 = .ok (.iaload, 1) := by decide +kernel
theorem dX8_tick_33 : decode cX8_tick 33 = .ok (.if_icmp .ne 8, 3) := by decide +kernel
theorem dX8_tick_36 : decode cX8_tick 36 = .ok (.aload_n 0, 1) := by decide +kernel
theorem dX8_tick_37 : decode cX8_tick 37 = .ok (.iload_n 1, 1) := by decide +kernel
theorem dX8_tick_38 : decode cX8_tick 38 = .ok (.invokevirtual 261, 3) := by decide +kernel
theorem dX8_tick_41 : decode cX8_tick 41 = .ok (.iinc 1 1, 3) := by decide +kernel
theorem dX8_tick_44 : decode cX8_tick 44 = .ok (.goto (-42), 3) := by decide +kernel
theorem dX8_tick_47 : decode cX8_tick 47 = .ok (.iconst 0, 1) := by decide +kernel
theorem dX8_tick_48 : decode cX8_tick 48 = .ok (.istore_n 1, 1) := by decide +kernel
theorem dX8_tick_49 : decode cX8_tick 49 = .ok (.iload_n 1, 1) := by decide +kernel
theorem dX8_tick_50 : decode cX8_tick 50 = .ok (.aload_n 0, 1) := by decide +kernel
theorem dX8_tick_51 : decode cX8_tick 51 = .ok (.getfield 17, 3) := by decide +kernel
theorem dX8_tick_54 : decode cX8_tick 54 = .ok (.iconst 1, 1) := by decide +kernel
theorem dX8_tick_55 : decode cX8_tick 55 = .ok (.iaload, 1) := by decide +kernel
theorem dX8_tick_56 : decode cX8_tick 56 = .ok (.if_icmp .ge 23, 3) := by decide +kernel
theorem dX8_tick_59 : decode cX8_tick 59 = .ok (.aload_n 0, 1) := by decide +kernel
theorem dX8_tick_60 : decode cX8_tick 60 = .ok (.iload_n 1, 1) := by decide +kernel
theorem dX8_tick_61 : decode cX8_tick 61 = .ok (.iconst 2, 1) := by decide +kernel
theorem dX8_tick_62 : decode cX8_tick 62 = .ok (.invokevirtual 245, 3) := by decide +kernel
theorem dX8_tick_65 : decode cX8_tick 65 = .ok (.ifCond .ne 8, 3) := by decide +kernel
theorem dX8_tick_68 : decode cX8_tick 68 = .ok (.aload_n 0, 1) := by decide +kernel
theorem dX8_tick_69 : decode cX8_tick 69 = .ok (.iload_n 1, 1) := by decide +kernel
theorem dX8_tick_70 : decode cX8_tick 70 = .ok (.invokevirtual 264, 3) := by decide +kernel
theorem dX8_tick_73 : decode cX8_tick 73 = .ok (.iinc 1 1, 3) := by decide +kernel
theorem dX8_tick_76 : decode cX8_tick 76 = .ok (.goto (-27), 3) := by decide +kernel
theorem dX8_tick_79 : decode cX8_tick 79 = .ok (.iconst 0, 1) := by decide +kernel
theorem dX8_tick_80 : decode cX8_tick 80 = .ok (.istore_n 1, 1) := by decide +kernel
theorem dX8_tick_81 : decode cX8_tick 81 = .ok (.iload_n 1, 1) := by decide +kernel
theorem dX8_tick_82 : decode cX8_tick 82 = .ok (.aload_n 0, 1) := by decide +kernel
theorem dX8_tick_83 : decode cX8_tick 83 = .ok (.getfield 17, 3) := by decide +kernel
theorem dX8_tick_86 : decode cX8_tick 86 = .ok (.iconst 3, 1) := by decide +kernel
theorem dX8_tick_87 : decode cX8_tick 87 = .ok (.iaload, 1) := by decide +kernel
theorem dX8_tick_88 : decode cX8_tick 88 = .ok (.if_icmp .ge 32, 3) := by decide +kernel
theorem dX8_tick_91 : decode cX8_tick 91 = .ok (.aload_n 0, 1) := by decide +kernel
theorem dX8_tick_92 : decode cX8_tick 92 = .ok (.iload_n 1, 1) := by decide +kernel
theorem dX8_tick_93 : decode cX8_tick 93 = .ok (.invokevirtual 209, 3) := by decide +kernel
theorem dX8_tick_96 : decode cX8_tick 96 = .ok (.ifCond .eq 18, 3) := by decide +kernel
theorem dX8_tick_99 : decode cX8_tick 99 = .ok (.aload_n 0, 1) := by decide +kernel
theorem dX8_tick_100 : decode cX8_tick 100 = .ok (.iload_n 1, 1) := by decide +kernel
theorem dX8_tick_101 : decode cX8_tick 101 = .ok (.iconst 4, 1) := by decide +kernel
theorem dX8_tick_102 : decode cX8_tick 102 = .ok (.invokevirtual 206, 3) := by decide +kernel
theorem dX8_tick_105 : decode cX8_tick 105 = .ok (.iconst (-1), 1) := by decide +kernel
theorem dX8_tick_106 : decode cX8_tick 106 = .ok (.if_icmp .eq 8, 3) := by decide +kernel
theorem dX8_tick_109 : decode cX8_tick 109 = .ok (.aload_n 0, 1) := by decide +kernel
theorem dX8_tick_110 : decode cX8_tick 110 = .ok (.iload_n 1, 1) := by decide +kernel
theorem dX8_tick_111 : decode cX8_tick 111 = .ok (.invokevirtual 267, 3) := by decide +kernel
theorem dX8_tick_114 : decode cX8_tick 114 = .ok (.iinc 1 1, 3) := by decide +kernel
theorem dX8_tick_117 : decode cX8_tick 117 = .ok (.goto (-36), 3) := by decide +kernel
theorem dX8_tick_120 : decode cX8_tick 120 = .ok (.aload_n 0, 1) := by decide +kernel
theorem dX8_tick_121 : decode cX8_tick 121 = .ok (.getfield 17, 3) := by decide +kernel
theorem dX8_tick_124 : decode cX8_tick 124 = .ok (.iconst 0, 1) := by decide +kernel
theorem dX8_tick_125 : decode cX8_tick 125 = .ok (.iaload, 1) := by decide +kernel
theorem dX8_tick_126 : decode cX8_tick 126 = .ok (.iconst 1, 1) := by decide +kernel
theorem dX8_tick_127 : decode cX8_tick 127 = .ok (.iadd, 1) := by decide +kernel
theorem dX8_tick_128 : decode cX8_tick 128 = .ok (.aload_n 0, 1) := by decide +kernel
theorem dX8_tick_129 : decode cX8_tick 129 = .ok (.getfield 17, 3) := by decide +kernel
theorem dX8_tick_132 : decode cX8_tick 132 = .ok (.bipush 8, 2) := by decide +kernel
theorem dX8_tick_134 : decode cX8_tick 134 = .ok (.iaload, 1) := by decide +kernel
theorem dX8_tick_135 : decode cX8_tick 135 = .ok (.irem, 1) := by decide +kernel
theorem dX8_tick_136 : decode cX8_tick 136 = .ok (.ifCond .ne 26, 3) := by decide +kernel
theorem dX8_tick_139 : decode cX8_tick 139 = .ok (.iconst 0, 1) := by decide +kernel
theorem dX8_tick_140 : decode cX8_tick 140 = .ok (.istore_n 1, 1) := by decide +kernel
theorem dX8_tick_141 : decode cX8_tick 141 = .ok (.iload_n 1, 1) := by decide +kernel
theorem dX8_tick_142 : decode cX8_tick 142 = .ok (.aload_n 0, 1) := by decide +kernel
theorem dX8_tick_143 : decode cX8_tick 143 = .ok (.getfield 17, 3) := by decide +kernel
theorem dX8_tick_146 : decode cX8_tick 146 = .ok (.iconst 2, 1) := by decide +kernel
theorem dX8_tick_147 : decode cX8_tick 147 = .ok (.iaload, 1) := by decide +kernel
theorem dX8_tick_148 : decode cX8_tick 148 = .ok (.if_icmp .ge 14, 3) := by decide +kernel
theorem dX8_tick_151 : decode cX8_tick 151 = .ok (.aload_n 0, 1) := by decide +kernel
theorem dX8_tick_152 : decode cX8_tick 152 = .ok (.iload_n 1, 1) := by decide +kernel
theorem dX8_tick_153 : decode cX8_tick 153 = .ok (.invokevirtual 269, 3) := by decide +kernel
theorem dX8_tick_156 : decode cX8_tick 156 = .ok (.iinc 1 1, 3) := by decide +kernel
theorem dX8_tick_159 : decode cX8_tick 159 = .ok (.goto (-18), 3) := by decide +kernel
theorem dX8_tick_162 : decode cX8_tick 162 = .ok (.aload_n 0, 1) := by decide +kernel
theorem dX8_tick_163 : decode cX8_tick 163 = .ok (.getfield 17, 3) := by decide +kernel
theorem dX8_tick_166 : decode cX8_tick 166 = .ok (.iconst 0, 1) := by decide +kernel
theorem dX8_tick_167 : decode cX8_tick 167 = .ok (.dup2, 1) := by decide +kernel
theorem dX8_tick_168 : decode cX8_tick 168 = .ok (.iaload, 1) := by decide +kernel
theorem dX8_tick_169 : decode cX8_tick 169 = .ok (.iconst 1, 1) := by decide +kernel
theorem dX8_tick_170 : decode cX8_tick 170 = .ok (.iadd, 1) := by decide +kernel
theorem dX8_tick_171 : decode cX8_tick 171 = .ok (.iastore, 1) := by decide +kernel
theorem dX8_tick_172 : decode cX8_tick 172 = .ok (.return_, 1) := by decide +kernel
theorem dX8_noHandler_0 : decode cX8_noHandler 0 = .ok (.aload_n 0, 1) := by decide +kernel
theorem dX8_noHandler_1 : decode cX8_noHandler 1 = .ok (.iload_n 1, 1) := by decide +kernel
theorem dX8_noHandler_2 : decode cX8_noHandler 2 = .ok (.iconst 0, 1) := by decide +kernel
theorem dX8_noHandler_3 : decode cX8_noHandler 3 = .ok (.aload_n 0, 1) := by decide +kernel
theorem dX8_noHandler_4 : decode cX8_noHandler 4 = .ok (.getfield 17, 3) := by decide +kernel
theorem dX8_noHandler_7 : decode cX8_noHandler 7 = .ok (.iconst 1, 1) := by decide +kernel
theorem dX8_noHandler_8 : decode cX8_noHandler 8 = .ok (.iaload, 1) := by decide +kernel
theorem dX8_noHandler_9 : decode cX8_noHandler 9 = .ok (.iconst 1, 1) := by decide +kernel
theorem dX8_noHandler_10 : decode cX8_noHandler 10 = .ok (.isub, 1) := by decide +kernel
theorem dX8_noHandler_11 : decode cX8_noHandler 11 = .ok (.invokestatic 67, 3) := by decide +kernel
theorem dX8_noHandler_14 : decode cX8_noHandler 14 = .ok (.ifCond .ne 7, 3) := by decide +kernel
theorem dX8_noHandler_17 : decode cX8_noHandler 17 = .ok (.iconst 1, 1) := by decide +kernel
theorem dX8_noHandler_18 : decode cX8_noHandler 18 = .ok (.goto 4, 3) := by decide +kernel
theorem dX8_noHandler_21 : decode cX8_noHandler 21 = .ok (.iconst 0, 1) := by decide +kernel
theorem dX8_noHandler_22 : decode cX8_noHandler 22 = .ok (.iconst 1, 1) := by decide +kernel
theorem dX8_noHandler_23 : decode cX8_noHandler 23 = .ok (.invokevirtual 181, 3) := by decide +kernel
theorem dX8_noHandler_26 : decode cX8_noHandler 26 = .ok (.ireturn, 1) := by decide +kernel
theorem dX8_noLine_0 : decode cX8_noLine 0 = .ok (.aload_n 0, 1) := by decide +kernel
theorem dX8_noLine_1 : decode cX8_noLine 1 = .ok (.iload_n 1, 1) := by decide +kernel
theorem dX8_noLine_2 : decode cX8_noLine 2 = .ok (.iconst 0, 1) := by decide +kernel
theorem dX8_noLine_3 : decode cX8_noLine 3 = .ok (.aload_n 0, 1) := by decide +kernel
theorem dX8_noLine_4 : decode cX8_noLine 4 = .ok (.getfield 17, 3) := by decide +kernel
theorem dX8_noLine_7 : decode cX8_noLine 7 = .ok (.iconst 2, 1) := by decide +kernel
theorem dX8_noLine_8 : decode cX8_noLine 8 = .ok (.iaload, 1) := by decide +kernel
theorem dX8_noLine_9 : decode cX8_noLine 9 = .ok (.iconst 1, 1) := by decide +kernel
theorem dX8_noLine_10 : decode cX8_noLine 10 = .ok (.isub, 1) := by decide +kernel
theorem dX8_noLine_11 : decode cX8_noLine 11 = .ok (.invokestatic 67, 3) := by decide +kernel
theorem dX8_noLine_14 : decode cX8_noLine 14 = .ok (.ifCond .ne 7, 3) := by decide +kernel
theorem dX8_noLine_17 : decode cX8_noLine 17 = .ok (.iconst 1, 1) := by decide +kernel
theorem dX8_noLine_18 : decode cX8_noLine 18 = .ok (.goto 4, 3) := by decide +kernel
theorem dX8_noLine_21 : decode cX8_noLine 21 = .ok (.iconst 0, 1) := by decide +kernel
theorem dX8_noLine_22 : decode cX8_noLine 22 = .ok (.iconst 1, 1) := by decide +kernel
theorem dX8_noLine_23 : decode cX8_noLine 23 = .ok (.invokevirtual 181, 3) := by decide +kernel
theorem dX8_noLine_26 : decode cX8_noLine 26 = .ok (.ireturn, 1) := by decide +kernel
theorem dX8_noRequest_0 : decode cX8_noRequest 0 = .ok (.aload_n 0, 1) := by decide +kernel
theorem dX8_noRequest_1 : decode cX8_noRequest 1 = .ok (.iload_n 1, 1) := by decide +kernel
theorem dX8_noRequest_2 : decode cX8_noRequest 2 = .ok (.iconst 0, 1) := by decide +kernel
theorem dX8_noRequest_3 : decode cX8_noRequest 3 = .ok (.aload_n 0, 1) := by decide +kernel
theorem dX8_noRequest_4 : decode cX8_noRequest 4 = .ok (.getfield 17, 3) := by decide +kernel
theorem dX8_noRequest_7 : decode cX8_noRequest 7 = .ok (.iconst 3, 1) := by decide +kernel
theorem dX8_noRequest_8 : decode cX8_noRequest 8 = .ok (.iaload, 1) := by decide +kernel
theorem dX8_noRequest_9 : decode cX8_noRequest 9 = .ok (.iconst 1, 1) := by decide +kernel
theorem dX8_noRequest_10 : decode cX8_noRequest 10 = .ok (.isub, 1) := by decide +kernel
theorem dX8_noRequest_11 : decode cX8_noRequest 11 = .ok (.invokestatic 67, 3) := by decide +kernel
theorem dX8_noRequest_14 : decode cX8_noRequest 14 = .ok (.ifCond .ne 7, 3) := by decide +kernel
theorem dX8_noRequest_17 : decode cX8_noRequest 17 = .ok (.iconst 1, 1) := by decide +kernel
theorem dX8_noRequest_18 : decode cX8_noRequest 18 = .ok (.goto 4, 3) := by decide +kernel
theorem dX8_noRequest_21 : decode cX8_noRequest 21 = .ok (.iconst 0, 1) := by decide +kernel
theorem dX8_noRequest_22 : decode cX8_noRequest 22 = .ok (.iconst 1, 1) := by decide +kernel
theorem dX8_noRequest_23 : decode cX8_noRequest 23 = .ok (.invokevirtual 181, 3) := by decide +kernel
theorem dX8_noRequest_26 : decode cX8_noRequest 26 = .ok (.ireturn, 1) := by decide +kernel
theorem dX8_noNumber_0 : decode cX8_noNumber 0 = .ok (.aload_n 0, 1) := by decide +kernel
theorem dX8_noNumber_1 : decode cX8_noNumber 1 = .ok (.iload_n 1, 1) := by decide +kernel
theorem dX8_noNumber_2 : decode cX8_noNumber 2 = .ok (.iload_n 2, 1) := by decide +kernel
theorem dX8_noNumber_3 : decode cX8_noNumber 3 = .ok (.iload_n 3, 1) := by decide +kernel
theorem dX8_noNumber_4 : decode cX8_noNumber 4 = .ok (.invokestatic 67, 3) := by decide +kernel
theorem dX8_noNumber_7 : decode cX8_noNumber 7 = .ok (.ifCond .ne 7, 3) := by decide +kernel
theorem dX8_noNumber_10 : decode cX8_noNumber 10 = .ok (.iconst 1, 1) := by decide +kernel
theorem dX8_noNumber_11 : decode cX8_noNumber 11 = .ok (.goto 4, 3) := by decide +kernel
theorem dX8_noNumber_14 : decode cX8_noNumber 14 = .ok (.iconst 0, 1) := by decide +kernel
theorem dX8_noNumber_15 : decode cX8_noNumber 15 = .ok (.iconst 2, 1) := by decide +kernel
theorem dX8_noNumber_16 : decode cX8_noNumber 16 = .ok (.invokevirtual 181, 3) := by decide +kernel
theorem dX8_noNumber_19 : decode cX8_noNumber 19 = .ok (.ireturn, 1) := by decide +kernel
theorem dX8_countOf_0 : decode cX8_countOf 0 = .ok (.iconst 0, 1) := by decide +kernel
theorem dX8_countOf_1 : decode cX8_countOf 1 = .ok (.istore_n 2, 1) := by decide +kernel
theorem dX8_countOf_2 : decode cX8_countOf 2 = .ok (.iconst 0, 1) := by decide +kernel
theorem dX8_countOf_3 : decode cX8_countOf 3 = .ok (.istore_n 3, 1) := by decide +kernel
theorem dX8_countOf_4 : decode cX8_countOf 4 = .ok (.iload_n 3, 1) := by decide +kernel
theorem dX8_countOf_5 : decode cX8_countOf 5 = .ok (.aload_n 0, 1) := by decide +kernel
theorem dX8_countOf_6 : decode cX8_countOf 6 = .ok (.getfield 17, 3) := by decide +kernel
theorem dX8_countOf_9 : decode cX8_countOf 9 = .ok (.iconst 3, 1) := by decide +kernel
theorem dX8_countOf_10 : decode cX8_countOf 10 = .ok (.iaload, 1) := by decide +kernel
theorem dX8_countOf_11 : decode cX8_countOf 11 = .ok (.if_icmp .ge 27, 3) := by decide +kernel
theorem dX8_countOf_14 : decode cX8_countOf 14 = .ok (.iload_n 2, 1) := by decide +kernel
theorem dX8_countOf_15 : decode cX8_countOf 15 = .ok (.aload_n 0, 1) := by decide +kernel
theorem dX8_countOf_16 : decode cX8_countOf 16 = .ok (.iload_n 3, 1) := by decide +kernel
theorem dX8_countOf_17 : decode cX8_countOf 17 = .ok (.iconst 3, 1) := by decide +kernel
theorem dX8_countOf_18 : decode cX8_countOf 18 = .ok (.invokevirtual 206, 3) := by decide +kernel
theorem dX8_countOf_21 : decode cX8_countOf 21 = .ok (.iload_n 1, 1) := by decide +kernel
theorem dX8_countOf_22 : decode cX8_countOf 22 = .ok (.if_icmp .ne 7, 3) := by decide +kernel
theorem dX8_countOf_25 : decode cX8_countOf 25 = .ok (.iconst 1, 1) := by decide +kernel
theorem dX8_countOf_26 : decode cX8_countOf 26 = .ok (.goto 4, 3) := by decide +kernel
theorem dX8_countOf_29 : decode cX8_countOf 29 = .ok (.iconst 0, 1) := by decide +kernel
theorem dX8_countOf_30 : decode cX8_countOf 30 = .ok (.iadd, 1) := by decide +kernel
theorem dX8_countOf_31 : decode cX8_countOf 31 = .ok (.istore_n 2, 1) := by decide +kernel
theorem dX8_countOf_32 : decode cX8_countOf 32 = .ok (.iinc 3 1, 3) := by decide +kernel
theorem dX8_countOf_35 : decode cX8_countOf 35 = .ok (.goto (-31), 3) := by decide +kernel
theorem dX8_countOf_38 : decode cX8_countOf 38 = .ok (.iload_n 2, 1) := by decide +kernel
theorem dX8_countOf_39 : decode cX8_countOf 39 = .ok (.ireturn, 1) := by decide +kernel
theorem dX8_broken_0 : decode cX8_broken 0 = .ok (.iconst 0, 1) := by decide +kernel
theorem dX8_broken_1 : decode cX8_broken 1 = .ok (.istore_n 1, 1) := by decide +kernel
theorem dX8_broken_2 : decode cX8_broken 2 = .ok (.iconst 0, 1) := by decide +kernel
theorem dX8_broken_3 : decode cX8_broken 3 = .ok (.istore_n 2, 1) := by decide +kernel
theorem dX8_broken_4 : decode cX8_broken 4 = .ok (.iload_n 2, 1) := by decide +kernel
theorem dX8_broken_5 : decode cX8_broken 5 = .ok (.aload_n 0, 1) := by decide +kernel
theorem dX8_broken_6 : decode cX8_broken 6 = .ok (.getfield 17, 3) := by decide +kernel
theorem dX8_broken_9 : decode cX8_broken 9 = .ok (.iconst 1, 1) := by decide +kernel
theorem dX8_broken_10 : decode cX8_broken 10 = .ok (.iaload, 1) := by decide +kernel
theorem dX8_broken_11 : decode cX8_broken 11 = .ok (.if_icmp .ge 18, 3) := by decide +kernel
theorem dX8_broken_14 : decode cX8_broken 14 = .ok (.iload_n 1, 1) := by decide +kernel
theorem dX8_broken_15 : decode cX8_broken 15 = .ok (.aload_n 0, 1) := by decide +kernel
theorem dX8_broken_16 : decode cX8_broken 16 = .ok (.iload_n 2, 1) := by decide +kernel
theorem dX8_broken_17 : decode cX8_broken 17 = .ok (.iconst 2, 1) := by decide +kernel
theorem dX8_broken_18 : decode cX8_broken 18 = .ok (.invokevirtual 245, 3) := by decide +kernel
theorem dX8_broken_21 : decode cX8_broken 21 = .ok (.iadd, 1) := by decide +kernel
theorem dX8_broken_22 : decode cX8_broken 22 = .ok (.istore_n 1, 1) := by decide +kernel
theorem dX8_broken_23 : decode cX8_broken 23 = .ok (.iinc 2 1, 3) := by decide +kernel
theorem dX8_broken_26 : decode cX8_broken 26 = .ok (.goto (-22), 3) := by decide +kernel
theorem dX8_broken_29 : decode cX8_broken 29 = .ok (.iload_n 1, 1) := by decide +kernel
theorem dX8_broken_30 : decode cX8_broken 30 = .ok (.ireturn, 1) := by decide +kernel
theorem dX8_coins_0 : decode cX8_coins 0 = .ok (.aload_n 0, 1) := by decide +kernel
theorem dX8_coins_1 : decode cX8_coins 1 = .ok (.getfield 17, 3) := by decide +kernel
theorem dX8_coins_4 : decode cX8_coins 4 = .ok (.iconst 4, 1) := by decide +kernel
theorem dX8_coins_5 : decode cX8_coins 5 = .ok (.iaload, 1) := by decide +kernel
theorem dX8_coins_6 : decode cX8_coins 6 = .ok (.istore_n 1, 1) := by decide +kernel
theorem dX8_coins_7 : decode cX8_coins 7 = .ok (.iconst 0, 1) := by decide +kernel
theorem dX8_coins_8 : decode cX8_coins 8 = .ok (.istore_n 2, 1) := by decide +kernel
theorem dX8_coins_9 : decode cX8_coins 9 = .ok (.iload_n 2, 1) := by decide +kernel
theorem dX8_coins_10 : decode cX8_coins 10 = .ok (.aload_n 0, 1) := by decide +kernel
theorem dX8_coins_11 : decode cX8_coins 11 = .ok (.getfield 17, 3) := by decide +kernel
theorem dX8_coins_14 : decode cX8_coins 14 = .ok (.iconst 1, 1) := by decide +kernel
theorem dX8_coins_15 : decode cX8_coins 15 = .ok (.iaload, 1) := by decide +kernel
theorem dX8_coins_16 : decode cX8_coins 16 = .ok (.if_icmp .ge 18, 3) := by decide +kernel
theorem dX8_coins_19 : decode cX8_coins 19 = .ok (.iload_n 1, 1) := by decide +kernel
theorem dX8_coins_20 : decode cX8_coins 20 = .ok (.aload_n 0, 1) := by decide +kernel
theorem dX8_coins_21 : decode cX8_coins 21 = .ok (.iload_n 2, 1) := by decide +kernel
theorem dX8_coins_22 : decode cX8_coins 22 = .ok (.iconst 0, 1) := by decide +kernel
theorem dX8_coins_23 : decode cX8_coins 23 = .ok (.invokevirtual 245, 3) := by decide +kernel
theorem dX8_coins_26 : decode cX8_coins 26 = .ok (.iadd, 1) := by decide +kernel
theorem dX8_coins_27 : decode cX8_coins 27 = .ok (.istore_n 1, 1) := by decide +kernel
theorem dX8_coins_28 : decode cX8_coins 28 = .ok (.iinc 2 1, 3) := by decide +kernel
theorem dX8_coins_31 : decode cX8_coins 31 = .ok (.goto (-22), 3) := by decide +kernel
theorem dX8_coins_34 : decode cX8_coins 34 = .ok (.iconst 0, 1) := by decide +kernel
theorem dX8_coins_35 : decode cX8_coins 35 = .ok (.istore_n 2, 1) := by decide +kernel
theorem dX8_coins_36 : decode cX8_coins 36 = .ok (.iload_n 2, 1) := by decide +kernel
theorem dX8_coins_37 : decode cX8_coins 37 = .ok (.aload_n 0, 1) := by decide +kernel
theorem dX8_coins_38 : decode cX8_coins 38 = .ok (.getfield 17, 3) := by decide +kernel
theorem dX8_coins_41 : decode cX8_coins 41 = .ok (.iconst 2, 1) := by decide +kernel
theorem dX8_coins_42 : decode cX8_coins 42 = .ok (.iaload, 1) := by decide +kernel
theorem dX8_coins_43 : decode cX8_coins 43 = .ok (.if_icmp .ge 18, 3) := by decide +kernel
theorem dX8_coins_46 : decode cX8_coins 46 = .ok (.iload_n 1, 1) := by decide +kernel
theorem dX8_coins_47 : decode cX8_coins 47 = .ok (.aload_n 0, 1) := by decide +kernel
theorem dX8_coins_48 : decode cX8_coins 48 = .ok (.iload_n 2, 1) := by decide +kernel
theorem dX8_coins_49 : decode cX8_coins 49 = .ok (.iconst 2, 1) := by decide +kernel
theorem dX8_coins_50 : decode cX8_coins 50 = .ok (.invokevirtual 222, 3) := by decide +kernel
theorem dX8_coins_53 : decode cX8_coins 53 = .ok (.iadd, 1) := by decide +kernel
theorem dX8_coins_54 : decode cX8_coins 54 = .ok (.istore_n 1, 1) := by decide +kernel
theorem dX8_coins_55 : decode cX8_coins 55 = .ok (.iinc 2 1, 3) := by decide +kernel
theorem dX8_coins_58 : decode cX8_coins 58 = .ok (.goto (-22), 3) := by decide +kernel
theorem dX8_coins_61 : decode cX8_coins 61 = .ok (.iload_n 1, 1) := by decide +kernel
theorem dX8_coins_62 : decode cX8_coins 62 = .ok (.ireturn, 1) := by decide +kernel
theorem dX8_told_0 : decode cX8_told 0 = .ok (.iload_n 1, 1) := by decide +kernel
theorem dX8_told_1 : decode cX8_told 1 = .ok (.iconst 5, 1) := by decide +kernel
theorem dX8_told_2 : decode cX8_told 2 = .ok (.if_icmp .ge 12, 3) := by decide +kernel
theorem dX8_told_5 : decode cX8_told 5 = .ok (.aload_n 0, 1) := by decide +kernel
theorem dX8_told_6 : decode cX8_told 6 = .ok (.getfield 17, 3) := by decide +kernel
theorem dX8_told_9 : decode cX8_told 9 = .ok (.iload_n 1, 1) := by decide +kernel
theorem dX8_told_10 : decode cX8_told 10 = .ok (.iaload, 1) := by decide +kernel
theorem dX8_told_11 : decode cX8_told 11 = .ok (.goto 36, 3) := by decide +kernel
theorem dX8_told_14 : decode cX8_told 14 = .ok (.iload_n 1, 1) := by decide +kernel
theorem dX8_told_15 : decode cX8_told 15 = .ok (.bipush 8, 2) := by decide +kernel
theorem dX8_told_17 : decode cX8_told 17 = .ok (.if_icmp .ge 13, 3) := by decide +kernel
theorem dX8_told_20 : decode cX8_told 20 = .ok (.aload_n 0, 1) := by decide +kernel
theorem dX8_told_21 : decode cX8_told 21 = .ok (.iload_n 1, 1) := by decide +kernel
theorem dX8_told_22 : decode cX8_told 22 = .ok (.iconst 4, 1) := by decide +kernel
theorem dX8_told_23 : decode cX8_told 23 = .ok (.isub, 1) := by decide +kernel
theorem dX8_told_24 : decode cX8_told 24 = .ok (.invokevirtual 272, 3) := by decide +kernel
theorem dX8_told_27 : decode cX8_told 27 = .ok (.goto 20, 3) := by decide +kernel
theorem dX8_told_30 : decode cX8_told 30 = .ok (.iload_n 1, 1) := by decide +kernel
theorem dX8_told_31 : decode cX8_told 31 = .ok (.bipush 8, 2) := by decide +kernel
theorem dX8_told_33 : decode cX8_told 33 = .ok (.if_icmp .ne 10, 3) := by decide +kernel
theorem dX8_told_36 : decode cX8_told 36 = .ok (.aload_n 0, 1) := by decide +kernel
theorem dX8_told_37 : decode cX8_told 37 = .ok (.invokevirtual 275, 3) := by decide +kernel
theorem dX8_told_40 : decode cX8_told 40 = .ok (.goto 7, 3) := by decide +kernel
theorem dX8_told_43 : decode cX8_told 43 = .ok (.aload_n 0, 1) := by decide +kernel
theorem dX8_told_44 : decode cX8_told 44 = .ok (.invokevirtual 278, 3) := by decide +kernel
theorem dX8_told_47 : decode cX8_told 47 = .ok (.ireturn, 1) := by decide +kernel
theorem dX8_state_0 : decode cX8_state 0 = .ok (.aload_n 0, 1) := by decide +kernel
theorem dX8_state_1 : decode cX8_state 1 = .ok (.iconst 0, 1) := by decide +kernel
theorem dX8_state_2 : decode cX8_state 2 = .ok (.putfield 45, 3) := by decide +kernel
theorem dX8_state_5 : decode cX8_state 5 = .ok (.aload_n 0, 1) := by decide +kernel
theorem dX8_state_6 : decode cX8_state 6 = .ok (.iload_n 1, 1) := by decide +kernel
theorem dX8_state_7 : decode cX8_state 7 = .ok (.iconst 0, 1) := by decide +kernel
theorem dX8_state_8 : decode cX8_state 8 = .ok (.bipush 9, 2) := by decide +kernel
theorem dX8_state_10 : decode cX8_state 10 = .ok (.invokestatic 67, 3) := by decide +kernel
theorem dX8_state_13 : decode cX8_state 13 = .ok (.ifCond .ne 7, 3) := by decide +kernel
theorem dX8_state_16 : decode cX8_state 16 = .ok (.iconst 1, 1) := by decide +kernel
theorem dX8_state_17 : decode cX8_state 17 = .ok (.goto 4, 3) := by decide +kernel
theorem dX8_state_20 : decode cX8_state 20 = .ok (.iconst 0, 1) := by decide +kernel
theorem dX8_state_21 : decode cX8_state 21 = .ok (.iconst 1, 1) := by decide +kernel
theorem dX8_state_22 : decode cX8_state 22 = .ok (.invokevirtual 181, 3) := by decide +kernel
theorem dX8_state_25 : decode cX8_state 25 = .ok (.ifCond .eq 7, 3) := by decide +kernel
theorem dX8_state_28 : decode cX8_state 28 = .ok (.iconst 0, 1) := by decide +kernel
theorem dX8_state_29 : decode cX8_state 29 = .ok (.goto 8, 3) := by decide +kernel
theorem dX8_state_32 : decode cX8_state 32 = .ok (.aload_n 0, 1) := by decide +kernel
theorem dX8_state_33 : decode cX8_state 33 = .ok (.iload_n 1, 1) := by decide +kernel
theorem dX8_state_34 : decode cX8_state 34 = .ok (.invokevirtual 281, 3) := by decide +kernel
theorem dX8_state_37 : decode cX8_state 37 = .ok (.ireturn, 1) := by decide +kernel
theorem dX8_linesOf_0 : decode cX8_linesOf 0 = .ok (.iconst 0, 1) := by decide +kernel
theorem dX8_linesOf_1 : decode cX8_linesOf 1 = .ok (.istore_n 2, 1) := by decide +kernel
theorem dX8_linesOf_2 : decode cX8_linesOf 2 = .ok (.iconst 0, 1) := by decide +kernel
theorem dX8_linesOf_3 : decode cX8_linesOf 3 = .ok (.istore_n 3, 1) := by decide +kernel
theorem dX8_linesOf_4 : decode cX8_linesOf 4 = .ok (.iload_n 3, 1) := by decide +kernel
theorem dX8_linesOf_5 : decode cX8_linesOf 5 = .ok (.aload_n 0, 1) := by decide +kernel
theorem dX8_linesOf_6 : decode cX8_linesOf 6 = .ok (.getfield 17, 3) := by decide +kernel
theorem dX8_linesOf_9 : decode cX8_linesOf 9 = .ok (.iconst 2, 1) := by decide +kernel
theorem dX8_linesOf_10 : decode cX8_linesOf 10 = .ok (.iaload, 1) := by decide +kernel
theorem dX8_linesOf_11 : decode cX8_linesOf 11 = .ok (.if_icmp .ge 26, 3) := by decide +kernel
theorem dX8_linesOf_14 : decode cX8_linesOf 14 = .ok (.iload_n 2, 1) := by decide +kernel
theorem dX8_linesOf_15 : decode cX8_linesOf 15 = .ok (.aload_n 0, 1) := by decide +kernel
theorem dX8_linesOf_16 : decode cX8_linesOf 16 = .ok (.iload_n 1, 1) := by decide +kernel
theorem dX8_linesOf_17 : decode cX8_linesOf 17 = .ok (.iload_n 3, 1) := by decide +kernel
theorem dX8_linesOf_18 : decode cX8_linesOf 18 = .ok (.invokevirtual 258, 3) := by decide +kernel
theorem dX8_linesOf_21 : decode cX8_linesOf 21 = .ok (.ifCond .eq 7, 3) := by decide +kernel
theorem dX8_linesOf_24 : decode cX8_linesOf 24 = .ok (.iconst 1, 1) := by decide +kernel
theorem dX8_linesOf_25 : decode cX8_linesOf 25 = .ok (.goto 4, 3) := by decide +kernel
theorem dX8_linesOf_28 : decode cX8_linesOf 28 = .ok (.iconst 0, 1) := by decide +kernel
theorem dX8_linesOf_29 : decode cX8_linesOf 29 = .ok (.iadd, 1) := by decide +kernel
theorem dX8_linesOf_30 : decode cX8_linesOf 30 = .ok (.istore_n 2, 1) := by decide +kernel
theorem dX8_linesOf_31 : decode cX8_linesOf 31 = .ok (.iinc 3 1, 3) := by decide +kernel
theorem dX8_linesOf_34 : decode cX8_linesOf 34 = .ok (.goto (-30), 3) := by decide +kernel
theorem dX8_linesOf_37 : decode cX8_linesOf 37 = .ok (.iload_n 2, 1) := by decide +kernel
theorem dX8_linesOf_38 : decode cX8_linesOf 38 = .ok (.ireturn, 1) := by decide +kernel
theorem dX8_toldHandler_0 : decode cX8_toldHandler 0 = .ok (.iload_n 2, 1) := by decide +kernel
theorem dX8_toldHandler_1 : decode cX8_toldHandler 1 = .ok (.iconst 3, 1) := by decide +kernel
theorem dX8_toldHandler_2 : decode cX8_toldHandler 2 = .ok (.if_icmp .ge 12, 3) := by decide +kernel
theorem dX8_toldHandler_5 : decode cX8_toldHandler 5 = .ok (.aload_n 0, 1) := by decide +kernel
theorem dX8_toldHandler_6 : decode cX8_toldHandler 6 = .ok (.iload_n 1, 1) := by decide +kernel
theorem dX8_toldHandler_7 : decode cX8_toldHandler 7 = .ok (.iload_n 2, 1) := by decide +kernel
theorem dX8_toldHandler_8 : decode cX8_toldHandler 8 = .ok (.invokevirtual 245, 3) := by decide +kernel
theorem dX8_toldHandler_11 : decode cX8_toldHandler 11 = .ok (.goto 37, 3) := by decide +kernel
theorem dX8_toldHandler_14 : decode cX8_toldHandler 14 = .ok (.iload_n 2, 1) := by decide +kernel
theorem dX8_toldHandler_15 : decode cX8_toldHandler 15 = .ok (.iconst 3, 1) := by decide +kernel
theorem dX8_toldHandler_16 : decode cX8_toldHandler 16 = .ok (.if_icmp .ne 11, 3) := by decide +kernel
theorem dX8_toldHandler_19 : decode cX8_toldHandler 19 = .ok (.aload_n 0, 1) := by decide +kernel
theorem dX8_toldHandler_20 : decode cX8_toldHandler 20 = .ok (.iload_n 1, 1) := by decide +kernel
theorem dX8_toldHandler_21 : decode cX8_toldHandler 21 = .ok (.invokevirtual 216, 3) := by decide +kernel
theorem dX8_toldHandler_24 : decode cX8_toldHandler 24 = .ok (.goto 24, 3) := by decide +kernel
theorem dX8_toldHandler_27 : decode cX8_toldHandler 27 = .ok (.iload_n 2, 1) := by decide +kernel
theorem dX8_toldHandler_28 : decode cX8_toldHandler 28 = .ok (.iconst 4, 1) := by decide +kernel
theorem dX8_toldHandler_29 : decode cX8_toldHandler 29 = .ok (.if_icmp .ne 11, 3) := by decide +kernel
theorem dX8_toldHandler_32 : decode cX8_toldHandler 32 = .ok (.aload_n 0, 1) := by decide +kernel
theorem dX8_toldHandler_33 : decode cX8_toldHandler 33 = .ok (.iload_n 1, 1) := by decide +kernel
theorem dX8_toldHandler_34 : decode cX8_toldHandler 34 = .ok (.invokevirtual 284, 3) := by decide +kernel
theorem dX8_toldHandler_37 : decode cX8_toldHandler 37 = .ok (.goto 11, 3) := by decide +kernel
theorem dX8_toldHandler_40 : decode cX8_toldHandler 40 = .ok (.aload_n 0, 1) := by decide +kernel
theorem dX8_toldHandler_41 : decode cX8_toldHandler 41 = .ok (.iload_n 1, 1) := by decide +kernel
theorem dX8_toldHandler_42 : decode cX8_toldHandler 42 = .ok (.iload_n 2, 1) := by decide +kernel
theorem dX8_toldHandler_43 : decode cX8_toldHandler 43 = .ok (.iconst 2, 1) := by decide +kernel
theorem dX8_toldHandler_44 : decode cX8_toldHandler 44 = .ok (.isub, 1) := by decide +kernel
theorem dX8_toldHandler_45 : decode cX8_toldHandler 45 = .ok (.invokevirtual 245, 3) := by decide +kernel
theorem dX8_toldHandler_48 : decode cX8_toldHandler 48 = .ok (.ireturn, 1) := by decide +kernel
theorem dX8_handler_0 : decode cX8_handler 0 = .ok (.aload_n 0, 1) := by decide +kernel
theorem dX8_handler_1 : decode cX8_handler 1 = .ok (.iconst 0, 1) := by decide +kernel
theorem dX8_handler_2 : decode cX8_handler 2 = .ok (.putfield 45, 3) := by decide +kernel
theorem dX8_handler_5 : decode cX8_handler 5 = .ok (.aload_n 0, 1) := by decide +kernel
theorem dX8_handler_6 : decode cX8_handler 6 = .ok (.iload_n 1, 1) := by decide +kernel
theorem dX8_handler_7 : decode cX8_handler 7 = .ok (.invokevirtual 287, 3) := by decide +kernel
theorem dX8_handler_10 : decode cX8_handler 10 = .ok (.ifCond .ne 14, 3) := by decide +kernel
theorem dX8_handler_13 : decode cX8_handler 13 = .ok (.aload_n 0, 1) := by decide +kernel
theorem dX8_handler_14 : decode cX8_handler 14 = .ok (.iload_n 2, 1) := by decide +kernel
theorem dX8_handler_15 : decode cX8_handler 15 = .ok (.iconst 0, 1) := by decide +kernel
theorem dX8_handler_16 : decode cX8_handler 16 = .ok (.bipush 7, 2) := by decide +kernel
theorem dX8_handler_18 : decode cX8_handler 18 = .ok (.invokevirtual 290, 3) := by decide +kernel
theorem dX8_handler_21 : decode cX8_handler 21 = .ok (.ifCond .eq 7, 3) := by decide +kernel
theorem dX8_handler_24 : decode cX8_handler 24 = .ok (.iconst 0, 1) := by decide +kernel
theorem dX8_handler_25 : decode cX8_handler 25 = .ok (.goto 9, 3) := by decide +kernel
theorem dX8_handler_28 : decode cX8_handler 28 = .ok (.aload_n 0, 1) := by decide +kernel
theorem dX8_handler_29 : decode cX8_handler 29 = .ok (.iload_n 1, 1) := by decide +kernel
theorem dX8_handler_30 : decode cX8_handler 30 = .ok (.iload_n 2, 1) := by decide +kernel
theorem dX8_handler_31 : decode cX8_handler 31 = .ok (.invokevirtual 293, 3) := by decide +kernel
theorem dX8_handler_34 : decode cX8_handler 34 = .ok (.ireturn, 1) := by decide +kernel
theorem dX8_toldLine_0 : decode cX8_toldLine 0 = .ok (.iload_n 2, 1) := by decide +kernel
theorem dX8_toldLine_1 : decode cX8_toldLine 1 = .ok (.iconst 4, 1) := by decide +kernel
theorem dX8_toldLine_2 : decode cX8_toldLine 2 = .ok (.if_icmp .ge 10, 3) := by decide +kernel
theorem dX8_toldLine_5 : decode cX8_toldLine 5 = .ok (.aload_n 0, 1) := by decide +kernel
theorem dX8_toldLine_6 : decode cX8_toldLine 6 = .ok (.iload_n 1, 1) := by decide +kernel
theorem dX8_toldLine_7 : decode cX8_toldLine 7 = .ok (.iload_n 2, 1) := by decide +kernel
theorem dX8_toldLine_8 : decode cX8_toldLine 8 = .ok (.invokevirtual 222, 3) := by decide +kernel
theorem dX8_toldLine_11 : decode cX8_toldLine 11 = .ok (.ireturn, 1) := by decide +kernel
theorem dX8_toldLine_12 : decode cX8_toldLine 12 = .ok (.iconst 0, 1) := by decide +kernel
theorem dX8_toldLine_13 : decode cX8_toldLine 13 = .ok (.istore_n 3, 1) := by decide +kernel
theorem dX8_toldLine_14 : decode cX8_toldLine 14 = .ok (.iconst 0, 1) := by decide +kernel
theorem dX8_toldLine_15 : decode cX8_toldLine 15 = .ok (.istore 4, 2) := by decide +kernel
theorem dX8_toldLine_17 : decode cX8_toldLine 17 = .ok (.iload 4, 2) := by decide +kernel
theorem dX8_toldLine_19 : decode cX8_toldLine 19 = .ok (.aload_n 0, 1) := by decide +kernel
theorem dX8_toldLine_20 : decode cX8_toldLine 20 = .ok (.getfield 17, 3) := by decide +kernel
theorem dX8_toldLine_23 : decode cX8_toldLine 23 = .ok (.iconst 3, 1) := by decide +kernel
theorem dX8_toldLine_24 : decode cX8_toldLine 24 = .ok (.iaload, 1) := by decide +kernel
theorem dX8_toldLine_25 : decode cX8_toldLine 25 = .ok (.if_icmp .ge 48, 3) := by decide +kernel
theorem dX8_toldLine_28 : decode cX8_toldLine 28 = .ok (.iload_n 3, 1) := by decide +kernel
theorem dX8_toldLine_29 : decode cX8_toldLine 29 = .ok (.aload_n 0, 1) := by decide +kernel
theorem dX8_toldLine_30 : decode cX8_toldLine 30 = .ok (.iload 4, 2) := by decide +kernel
theorem dX8_toldLine_32 : decode cX8_toldLine 32 = .ok (.invokevirtual 209, 3) := by decide +kernel
theorem dX8_toldLine_35 : decode cX8_toldLine 35 = .ok (.ifCond .eq 29, 3) := by decide +kernel
theorem dX8_toldLine_38 : decode cX8_toldLine 38 = .ok (.aload_n 0, 1) := by decide +kernel
theorem dX8_toldLine_39 : decode cX8_toldLine 39 = .ok (.iload 4, 2) := by decide +kernel
theorem dX8_toldLine_41 : decode cX8_toldLine 41 = .ok (.iconst 0, 1) := by decide +kernel
theorem dX8_toldLine_42 : decode cX8_toldLine 42 = .ok (.invokevirtual 206, 3) := by decide +kernel
theorem dX8_toldLine_45 : decode cX8_toldLine 45 = .ok (.iload_n 1, 1) := by decide +kernel
theorem dX8_toldLine_46 : decode cX8_toldLine 46 = .ok (.if_icmp .ne 18, 3) := by decide +kernel
theorem dX8_toldLine_49 : decode cX8_toldLine 49 = .ok (.aload_n 0, 1) := by decide +kernel
theorem dX8_toldLine_50 : decode cX8_toldLine 50 = .ok (.iload 4, 2) := by decide +kernel
theorem dX8_toldLine_52 : decode cX8_toldLine 52 = .ok (.iconst 4, 1) := by decide +kernel
theorem dX8_toldLine_53 : decode cX8_toldLine 53 = .ok (.invokevirtual 206, 3) := by decide +kernel
theorem dX8_toldLine_56 : decode cX8_toldLine 56 = .ok (.iconst (-1), 1) := by decide +kernel
theorem dX8_toldLine_57 : decode cX8_toldLine 57 = .ok (.if_icmp .ne 7, 3) := by decide +kernel
theorem dX8_toldLine_60 : decode cX8_toldLine 60 = .ok (.iconst 1, 1) := by decide +kernel
theorem dX8_toldLine_61 : decode cX8_toldLine 61 = .ok (.goto 4, 3) := by decide +kernel
theorem dX8_toldLine_64 : decode cX8_toldLine 64 = .ok (.iconst 0, 1) := by decide +kernel
theorem dX8_toldLine_65 : decode cX8_toldLine 65 = .ok (.iadd, 1) := by decide +kernel
theorem dX8_toldLine_66 : decode cX8_toldLine 66 = .ok (.istore_n 3, 1) := by decide +kernel
theorem dX8_toldLine_67 : decode cX8_toldLine 67 = .ok (.iinc 4 1, 3) := by decide +kernel
theorem dX8_toldLine_70 : decode cX8_toldLine 70 = .ok (.goto (-53), 3) := by decide +kernel
theorem dX8_toldLine_73 : decode cX8_toldLine 73 = .ok (.iload_n 3, 1) := by decide +kernel
theorem dX8_toldLine_74 : decode cX8_toldLine 74 = .ok (.ireturn, 1) := by decide +kernel
theorem dX8_line_0 : decode cX8_line 0 = .ok (.aload_n 0, 1) := by decide +kernel
theorem dX8_line_1 : decode cX8_line 1 = .ok (.iconst 0, 1) := by decide +kernel
theorem dX8_line_2 : decode cX8_line 2 = .ok (.putfield 45, 3) := by decide +kernel
theorem dX8_line_5 : decode cX8_line 5 = .ok (.aload_n 0, 1) := by decide +kernel
theorem dX8_line_6 : decode cX8_line 6 = .ok (.iload_n 1, 1) := by decide +kernel
theorem dX8_line_7 : decode cX8_line 7 = .ok (.invokevirtual 296, 3) := by decide +kernel
theorem dX8_line_10 : decode cX8_line 10 = .ok (.ifCond .ne 13, 3) := by decide +kernel
theorem dX8_line_13 : decode cX8_line 13 = .ok (.aload_n 0, 1) := by decide +kernel
theorem dX8_line_14 : decode cX8_line 14 = .ok (.iload_n 2, 1) := by decide +kernel
theorem dX8_line_15 : decode cX8_line 15 = .ok (.iconst 0, 1) := by decide +kernel
theorem dX8_line_16 : decode cX8_line 16 = .ok (.iconst 4, 1) := by decide +kernel
theorem dX8_line_17 : decode cX8_line 17 = .ok (.invokevirtual 290, 3) := by decide +kernel
theorem dX8_line_20 : decode cX8_line 20 = .ok (.ifCond .eq 7, 3) := by decide +kernel
theorem dX8_line_23 : decode cX8_line 23 = .ok (.iconst 0, 1) := by decide +kernel
theorem dX8_line_24 : decode cX8_line 24 = .ok (.goto 9, 3) := by decide +kernel
theorem dX8_line_27 : decode cX8_line 27 = .ok (.aload_n 0, 1) := by decide +kernel
theorem dX8_line_28 : decode cX8_line 28 = .ok (.iload_n 1, 1) := by decide +kernel
theorem dX8_line_29 : decode cX8_line 29 = .ok (.iload_n 2, 1) := by decide +kernel
theorem dX8_line_30 : decode cX8_line 30 = .ok (.invokevirtual 299, 3) := by decide +kernel
theorem dX8_line_33 : decode cX8_line 33 = .ok (.ireturn, 1) := by decide +kernel
theorem dX8_tenant_0 : decode cX8_tenant 0 = .ok (.aload_n 0, 1) := by decide +kernel
theorem dX8_tenant_1 : decode cX8_tenant 1 = .ok (.iconst 0, 1) := by decide +kernel
theorem dX8_tenant_2 : decode cX8_tenant 2 = .ok (.putfield 45, 3) := by decide +kernel
theorem dX8_tenant_5 : decode cX8_tenant 5 = .ok (.aload_n 0, 1) := by decide +kernel
theorem dX8_tenant_6 : decode cX8_tenant 6 = .ok (.iload_n 1, 1) := by decide +kernel
theorem dX8_tenant_7 : decode cX8_tenant 7 = .ok (.invokevirtual 296, 3) := by decide +kernel
theorem dX8_tenant_10 : decode cX8_tenant 10 = .ok (.ifCond .ne 20, 3) := by decide +kernel
theorem dX8_tenant_13 : decode cX8_tenant 13 = .ok (.aload_n 0, 1) := by decide +kernel
theorem dX8_tenant_14 : decode cX8_tenant 14 = .ok (.iload_n 2, 1) := by decide +kernel
theorem dX8_tenant_15 : decode cX8_tenant 15 = .ok (.iconst 0, 1) := by decide +kernel
theorem dX8_tenant_16 : decode cX8_tenant 16 = .ok (.aload_n 0, 1) := by decide +kernel
theorem dX8_tenant_17 : decode cX8_tenant 17 = .ok (.iload_n 1, 1) := by decide +kernel
theorem dX8_tenant_18 : decode cX8_tenant 18 = .ok (.iconst 3, 1) := by decide +kernel
theorem dX8_tenant_19 : decode cX8_tenant 19 = .ok (.invokevirtual 222, 3) := by decide +kernel
theorem dX8_tenant_22 : decode cX8_tenant 22 = .ok (.iconst 1, 1) := by decide +kernel
theorem dX8_tenant_23 : decode cX8_tenant 23 = .ok (.isub, 1) := by decide +kernel
theorem dX8_tenant_24 : decode cX8_tenant 24 = .ok (.invokevirtual 290, 3) := by decide +kernel
theorem dX8_tenant_27 : decode cX8_tenant 27 = .ok (.ifCond .eq 7, 3) := by decide +kernel
theorem dX8_tenant_30 : decode cX8_tenant 30 = .ok (.iconst 0, 1) := by decide +kernel
theorem dX8_tenant_31 : decode cX8_tenant 31 = .ok (.goto 11, 3) := by decide +kernel
theorem dX8_tenant_34 : decode cX8_tenant 34 = .ok (.aload_n 0, 1) := by decide +kernel
theorem dX8_tenant_35 : decode cX8_tenant 35 = .ok (.iload_n 1, 1) := by decide +kernel
theorem dX8_tenant_36 : decode cX8_tenant 36 = .ok (.iconst 4, 1) := by decide +kernel
theorem dX8_tenant_37 : decode cX8_tenant 37 = .ok (.iload_n 2, 1) := by decide +kernel
theorem dX8_tenant_38 : decode cX8_tenant 38 = .ok (.iadd, 1) := by decide +kernel
theorem dX8_tenant_39 : decode cX8_tenant 39 = .ok (.invokevirtual 222, 3) := by decide +kernel
theorem dX8_tenant_42 : decode cX8_tenant 42 = .ok (.ireturn, 1) := by decide +kernel
theorem dX8_request_0 : decode cX8_request 0 = .ok (.aload_n 0, 1) := by decide +kernel
theorem dX8_request_1 : decode cX8_request 1 = .ok (.iconst 0, 1) := by decide +kernel
theorem dX8_request_2 : decode cX8_request 2 = .ok (.putfield 45, 3) := by decide +kernel
theorem dX8_request_5 : decode cX8_request 5 = .ok (.aload_n 0, 1) := by decide +kernel
theorem dX8_request_6 : decode cX8_request 6 = .ok (.iload_n 1, 1) := by decide +kernel
theorem dX8_request_7 : decode cX8_request 7 = .ok (.invokevirtual 302, 3) := by decide +kernel
theorem dX8_request_10 : decode cX8_request 10 = .ok (.ifCond .ne 14, 3) := by decide +kernel
theorem dX8_request_13 : decode cX8_request 13 = .ok (.aload_n 0, 1) := by decide +kernel
theorem dX8_request_14 : decode cX8_request 14 = .ok (.iload_n 2, 1) := by decide +kernel
theorem dX8_request_15 : decode cX8_request 15 = .ok (.iconst 0, 1) := by decide +kernel
theorem dX8_request_16 : decode cX8_request 16 = .ok (.bipush 6, 2) := by decide +kernel
theorem dX8_request_18 : decode cX8_request 18 = .ok (.invokevirtual 290, 3) := by decide +kernel
theorem dX8_request_21 : decode cX8_request 21 = .ok (.ifCond .eq 7, 3) := by decide +kernel
theorem dX8_request_24 : decode cX8_request 24 = .ok (.iconst 0, 1) := by decide +kernel
theorem dX8_request_25 : decode cX8_request 25 = .ok (.goto 9, 3) := by decide +kernel
theorem dX8_request_28 : decode cX8_request 28 = .ok (.aload_n 0, 1) := by decide +kernel
theorem dX8_request_29 : decode cX8_request 29 = .ok (.iload_n 1, 1) := by decide +kernel
theorem dX8_request_30 : decode cX8_request 30 = .ok (.iload_n 2, 1) := by decide +kernel
theorem dX8_request_31 : decode cX8_request 31 = .ok (.invokevirtual 206, 3) := by decide +kernel
theorem dX8_request_34 : decode cX8_request 34 = .ok (.ireturn, 1) := by decide +kernel
theorem dX8_calm_0 : decode cX8_calm 0 = .ok (.aload_n 0, 1) := by decide +kernel
theorem dX8_calm_1 : decode cX8_calm 1 = .ok (.iconst 0, 1) := by decide +kernel
theorem dX8_calm_2 : decode cX8_calm 2 = .ok (.putfield 45, 3) := by decide +kernel
theorem dX8_calm_5 : decode cX8_calm 5 = .ok (.aload_n 0, 1) := by decide +kernel
theorem dX8_calm_6 : decode cX8_calm 6 = .ok (.iload_n 1, 1) := by decide +kernel
theorem dX8_calm_7 : decode cX8_calm 7 = .ok (.invokevirtual 296, 3) := by decide +kernel
theorem dX8_calm_10 : decode cX8_calm 10 = .ok (.ifCond .eq 5, 3) := by decide +kernel
theorem dX8_calm_13 : decode cX8_calm 13 = .ok (.iconst 0, 1) := by decide +kernel
theorem dX8_calm_14 : decode cX8_calm 14 = .ok (.ireturn, 1) := by decide +kernel
theorem dX8_calm_15 : decode cX8_calm 15 = .ok (.aload_n 0, 1) := by decide +kernel
theorem dX8_calm_16 : decode cX8_calm 16 = .ok (.iload_n 1, 1) := by decide +kernel
theorem dX8_calm_17 : decode cX8_calm 17 = .ok (.iconst 1, 1) := by decide +kernel
theorem dX8_calm_18 : decode cX8_calm 18 = .ok (.invokevirtual 222, 3) := by decide +kernel
theorem dX8_calm_21 : decode cX8_calm 21 = .ok (.aload_n 0, 1) := by decide +kernel
theorem dX8_calm_22 : decode cX8_calm 22 = .ok (.iload_n 1, 1) := by decide +kernel
theorem dX8_calm_23 : decode cX8_calm 23 = .ok (.invokevirtual 219, 3) := by decide +kernel
theorem dX8_calm_26 : decode cX8_calm 26 = .ok (.isub, 1) := by decide +kernel
theorem dX8_calm_27 : decode cX8_calm 27 = .ok (.istore_n 2, 1) := by decide +kernel
theorem dX8_calm_28 : decode cX8_calm 28 = .ok (.iload_n 2, 1) := by decide +kernel
theorem dX8_calm_29 : decode cX8_calm 29 = .ok (.ifCond .le 7, 3) := by decide +kernel
theorem dX8_calm_32 : decode cX8_calm 32 = .ok (.iload_n 2, 1) := by decide +kernel
theorem dX8_calm_33 : decode cX8_calm 33 = .ok (.goto 4, 3) := by decide +kernel
theorem dX8_calm_36 : decode cX8_calm 36 = .ok (.iconst 0, 1) := by decide +kernel
theorem dX8_calm_37 : decode cX8_calm 37 = .ok (.ireturn, 1) := by decide +kernel
theorem dX8_endsAt_0 : decode cX8_endsAt 0 = .ok (.aload_n 0, 1) := by decide +kernel
theorem dX8_endsAt_1 : decode cX8_endsAt 1 = .ok (.iconst 0, 1) := by decide +kernel
theorem dX8_endsAt_2 : decode cX8_endsAt 2 = .ok (.putfield 45, 3) := by decide +kernel
theorem dX8_endsAt_5 : decode cX8_endsAt 5 = .ok (.aload_n 0, 1) := by decide +kernel
theorem dX8_endsAt_6 : decode cX8_endsAt 6 = .ok (.iload_n 1, 1) := by decide +kernel
theorem dX8_endsAt_7 : decode cX8_endsAt 7 = .ok (.invokevirtual 302, 3) := by decide +kernel
theorem dX8_endsAt_10 : decode cX8_endsAt 10 = .ok (.ifCond .eq 5, 3) := by decide +kernel
theorem dX8_endsAt_13 : decode cX8_endsAt 13 = .ok (.iconst 0, 1) := by decide +kernel
theorem dX8_endsAt_14 : decode cX8_endsAt 14 = .ok (.ireturn, 1) := by decide +kernel
theorem dX8_endsAt_15 : decode cX8_endsAt 15 = .ok (.aload_n 0, 1) := by decide +kernel
theorem dX8_endsAt_16 : decode cX8_endsAt 16 = .ok (.getfield 17, 3) := by decide +kernel
theorem dX8_endsAt_19 : decode cX8_endsAt 19 = .ok (.aload_n 0, 1) := by decide +kernel
theorem dX8_endsAt_20 : decode cX8_endsAt 20 = .ok (.getfield 23, 3) := by decide +kernel
theorem dX8_endsAt_23 : decode cX8_endsAt 23 = .ok (.sipush 584, 3) := by decide +kernel
theorem dX8_endsAt_26 : decode cX8_endsAt 26 = .ok (.invokestatic 193, 3) := by decide +kernel
theorem dX8_endsAt_29 : decode cX8_endsAt 29 = .ok (.iconst 0, 1) := by decide +kernel
theorem dX8_endsAt_30 : decode cX8_endsAt 30 = .ok (.istore_n 2, 1) := by decide +kernel
theorem dX8_endsAt_31 : decode cX8_endsAt 31 = .ok (.iload_n 2, 1) := by decide +kernel
theorem dX8_endsAt_32 : decode cX8_endsAt 32 = .ok (.sipush 1100, 3) := by decide +kernel
theorem dX8_endsAt_35 : decode cX8_endsAt 35 = .ok (.if_icmp .ge 23, 3) := by decide +kernel
theorem dX8_endsAt_38 : decode cX8_endsAt 38 = .ok (.aload_n 0, 1) := by decide +kernel
theorem dX8_endsAt_39 : decode cX8_endsAt 39 = .ok (.iload_n 1, 1) := by decide +kernel
theorem dX8_endsAt_40 : decode cX8_endsAt 40 = .ok (.iconst 3, 1) := by decide +kernel
theorem dX8_endsAt_41 : decode cX8_endsAt 41 = .ok (.invokevirtual 206, 3) := by decide +kernel
theorem dX8_endsAt_44 : decode cX8_endsAt 44 = .ok (.iconst 2, 1) := by decide +kernel
theorem dX8_endsAt_45 : decode cX8_endsAt 45 = .ok (.if_icmp .ge 13, 3) := by decide +kernel
theorem dX8_endsAt_48 : decode cX8_endsAt 48 = .ok (.aload_n 0, 1) := by decide +kernel
theorem dX8_endsAt_49 : decode cX8_endsAt 49 = .ok (.invokevirtual 305, 3) := by decide +kernel
theorem dX8_endsAt_52 : decode cX8_endsAt 52 = .ok (.iinc 2 1, 3) := by decide +kernel
theorem dX8_endsAt_55 : decode cX8_endsAt 55 = .ok (.goto (-24), 3) := by decide +kernel
theorem dX8_endsAt_58 : decode cX8_endsAt 58 = .ok (.aload_n 0, 1) := by decide +kernel
theorem dX8_endsAt_59 : decode cX8_endsAt 59 = .ok (.iload_n 1, 1) := by decide +kernel
theorem dX8_endsAt_60 : decode cX8_endsAt 60 = .ok (.bipush 6, 2) := by decide +kernel
theorem dX8_endsAt_62 : decode cX8_endsAt 62 = .ok (.invokevirtual 206, 3) := by decide +kernel
theorem dX8_endsAt_65 : decode cX8_endsAt 65 = .ok (.istore_n 2, 1) := by decide +kernel
theorem dX8_endsAt_66 : decode cX8_endsAt 66 = .ok (.aload_n 0, 1) := by decide +kernel
theorem dX8_endsAt_67 : decode cX8_endsAt 67 = .ok (.getfield 23, 3) := by decide +kernel
theorem dX8_endsAt_70 : decode cX8_endsAt 70 = .ok (.aload_n 0, 1) := by decide +kernel
theorem dX8_endsAt_71 : decode cX8_endsAt 71 = .ok (.getfield 17, 3) := by decide +kernel
theorem dX8_endsAt_74 : decode cX8_endsAt 74 = .ok (.sipush 584, 3) := by decide +kernel
theorem dX8_endsAt_77 : decode cX8_endsAt 77 = .ok (.invokestatic 193, 3) := by decide +kernel
theorem dX8_endsAt_80 : decode cX8_endsAt 80 = .ok (.iload_n 2, 1) := by decide +kernel
theorem dX8_endsAt_81 : decode cX8_endsAt 81 = .ok (.ireturn, 1) := by decide +kernel
theorem dX8_bankruptIn_0 : decode cX8_bankruptIn 0 = .ok (.aload_n 0, 1) := by decide +kernel
theorem dX8_bankruptIn_1 : decode cX8_bankruptIn 1 = .ok (.iconst 0, 1) := by decide +kernel
theorem dX8_bankruptIn_2 : decode cX8_bankruptIn 2 = .ok (.putfield 45, 3) := by decide +kernel
theorem dX8_bankruptIn_5 : decode cX8_bankruptIn 5 = .ok (.aload_n 0, 1) := by decide +kernel
theorem dX8_bankruptIn_6 : decode cX8_bankruptIn 6 = .ok (.iload_n 1, 1) := by decide +kernel
theorem dX8_bankruptIn_7 : decode cX8_bankruptIn 7 = .ok (.invokevirtual 287, 3) := by decide +kernel
theorem dX8_bankruptIn_10 : decode cX8_bankruptIn 10 = .ok (.ifCond .eq 5, 3) := by decide +kernel
theorem dX8_bankruptIn_13 : decode cX8_bankruptIn 13 = .ok (.iconst 0, 1) := by decide +kernel
theorem dX8_bankruptIn_14 : decode cX8_bankruptIn 14 = .ok (.ireturn, 1) := by decide +kernel
theorem dX8_bankruptIn_15 : decode cX8_bankruptIn 15 = .ok (.aload_n 0, 1) := by decide +kernel
theorem dX8_bankruptIn_16 : decode cX8_bankruptIn 16 = .ok (.getfield 17, 3) := by decide +kernel
theorem dX8_bankruptIn_19 : decode cX8_bankruptIn 19 = .ok (.aload_n 0, 1) := by decide +kernel
theorem dX8_bankruptIn_20 : decode cX8_bankruptIn 20 = .ok (.getfield 23, 3) := by decide +kernel
theorem dX8_bankruptIn_23 : decode cX8_bankruptIn 23 = .ok (.sipush 584, 3) := by decide +kernel
theorem dX8_bankruptIn_26 : decode cX8_bankruptIn 26 = .ok (.invokestatic 193, 3) := by decide +kernel
theorem dX8_bankruptIn_29 : decode cX8_bankruptIn 29 = .ok (.iconst 0, 1) := by decide +kernel
theorem dX8_bankruptIn_30 : decode cX8_bankruptIn 30 = .ok (.istore_n 2, 1) := by decide +kernel
theorem dX8_bankruptIn_31 : decode cX8_bankruptIn 31 = .ok (.iload_n 2, 1) := by decide +kernel
theorem dX8_bankruptIn_32 : decode cX8_bankruptIn 32 = .ok (.sipush 1100, 3) := by decide +kernel
theorem dX8_bankruptIn_35 : decode cX8_bankruptIn 35 = .ok (.if_icmp .ge 22, 3) := by decide +kernel
theorem dX8_bankruptIn_38 : decode cX8_bankruptIn 38 = .ok (.aload_n 0, 1) := by decide +kernel
theorem dX8_bankruptIn_39 : decode cX8_bankruptIn 39 = .ok (.iload_n 1, 1) := by decide +kernel
theorem dX8_bankruptIn_40 : decode cX8_bankruptIn 40 = .ok (.iconst 2, 1) := by decide +kernel
theorem dX8_bankruptIn_41 : decode cX8_bankruptIn 41 = .ok (.invokevirtual 245, 3) := by decide +kernel
theorem dX8_bankruptIn_44 : decode cX8_bankruptIn 44 = .ok (.ifCond .ne 13, 3) := by decide +kernel
theorem dX8_bankruptIn_47 : decode cX8_bankruptIn 47 = .ok (.aload_n 0, 1) := by decide +kernel
theorem dX8_bankruptIn_48 : decode cX8_bankruptIn 48 = .ok (.invokevirtual 305, 3) := by decide +kernel
theorem dX8_bankruptIn_51 : decode cX8_bankruptIn 51 = .ok (.iinc 2 1, 3) := by decide +kernel
theorem dX8_bankruptIn_54 : decode cX8_bankruptIn 54 = .ok (.goto (-23), 3) := by decide +kernel
theorem dX8_bankruptIn_57 : decode cX8_bankruptIn 57 = .ok (.aload_n 0, 1) := by decide +kernel
theorem dX8_bankruptIn_58 : decode cX8_bankruptIn 58 = .ok (.iload_n 1, 1) := by decide +kernel
theorem dX8_bankruptIn_59 : decode cX8_bankruptIn 59 = .ok (.iconst 2, 1) := by decide +kernel
theorem dX8_bankruptIn_60 : decode cX8_bankruptIn 60 = .ok (.invokevirtual 245, 3) := by decide +kernel
theorem dX8_bankruptIn_63 : decode cX8_bankruptIn 63 = .ok (.iconst 1, 1) := by decide +kernel
theorem dX8_bankruptIn_64 : decode cX8_bankruptIn 64 = .ok (.if_icmp .ne 7, 3) := by decide +kernel
theorem dX8_bankruptIn_67 : decode cX8_bankruptIn 67 = .ok (.iconst 1, 1) := by decide +kernel
theorem dX8_bankruptIn_68 : decode cX8_bankruptIn 68 = .ok (.goto 4, 3) := by decide +kernel
theorem dX8_bankruptIn_71 : decode cX8_bankruptIn 71 = .ok (.iconst 0, 1) := by decide +kernel
theorem dX8_bankruptIn_72 : decode cX8_bankruptIn 72 = .ok (.istore_n 3, 1) := by decide +kernel
theorem dX8_bankruptIn_73 : decode cX8_bankruptIn 73 = .ok (.aload_n 0, 1) := by decide +kernel
theorem dX8_bankruptIn_74 : decode cX8_bankruptIn 74 = .ok (.getfield 23, 3) := by decide +kernel
theorem dX8_bankruptIn_77 : decode cX8_bankruptIn 77 = .ok (.aload_n 0, 1) := by decide +kernel
theorem dX8_bankruptIn_78 : decode cX8_bankruptIn 78 = .ok (.getfield 17, 3) := by decide +kernel
theorem dX8_bankruptIn_81 : decode cX8_bankruptIn 81 = .ok (.sipush 584, 3) := by decide +kernel
theorem dX8_bankruptIn_84 : decode cX8_bankruptIn 84 = .ok (.invokestatic 193, 3) := by decide +kernel
theorem dX8_bankruptIn_87 : decode cX8_bankruptIn 87 = .ok (.iload_n 3, 1) := by decide +kernel
theorem dX8_bankruptIn_88 : decode cX8_bankruptIn 88 = .ok (.ifCond .eq 7, 3) := by decide +kernel
theorem dX8_bankruptIn_91 : decode cX8_bankruptIn 91 = .ok (.iload_n 2, 1) := by decide +kernel
theorem dX8_bankruptIn_92 : decode cX8_bankruptIn 92 = .ok (.goto 4, 3) := by decide +kernel
theorem dX8_bankruptIn_95 : decode cX8_bankruptIn 95 = .ok (.iconst (-1), 1) := by decide +kernel
theorem dX8_bankruptIn_96 : decode cX8_bankruptIn 96 = .ok (.ireturn, 1) := by decide +kernel
theorem dX8_finesPaid_0 : decode cX8_finesPaid 0 = .ok (.iconst 0, 1) := by decide +kernel
theorem dX8_finesPaid_1 : decode cX8_finesPaid 1 = .ok (.istore_n 1, 1) := by decide +kernel
theorem dX8_finesPaid_2 : decode cX8_finesPaid 2 = .ok (.iconst 0, 1) := by decide +kernel
theorem dX8_finesPaid_3 : decode cX8_finesPaid 3 = .ok (.istore_n 2, 1) := by decide +kernel
theorem dX8_finesPaid_4 : decode cX8_finesPaid 4 = .ok (.iload_n 2, 1) := by decide +kernel
theorem dX8_finesPaid_5 : decode cX8_finesPaid 5 = .ok (.aload_n 0, 1) := by decide +kernel
theorem dX8_finesPaid_6 : decode cX8_finesPaid 6 = .ok (.getfield 17, 3) := by decide +kernel
theorem dX8_finesPaid_9 : decode cX8_finesPaid 9 = .ok (.iconst 1, 1) := by decide +kernel
theorem dX8_finesPaid_10 : decode cX8_finesPaid 10 = .ok (.iaload, 1) := by decide +kernel
theorem dX8_finesPaid_11 : decode cX8_finesPaid 11 = .ok (.if_icmp .ge 18, 3) := by decide +kernel
theorem dX8_finesPaid_14 : decode cX8_finesPaid 14 = .ok (.iload_n 1, 1) := by decide +kernel
theorem dX8_finesPaid_15 : decode cX8_finesPaid 15 = .ok (.aload_n 0, 1) := by decide +kernel
theorem dX8_finesPaid_16 : decode cX8_finesPaid 16 = .ok (.iload_n 2, 1) := by decide +kernel
theorem dX8_finesPaid_17 : decode cX8_finesPaid 17 = .ok (.iconst 3, 1) := by decide +kernel
theorem dX8_finesPaid_18 : decode cX8_finesPaid 18 = .ok (.invokevirtual 245, 3) := by decide +kernel
theorem dX8_finesPaid_21 : decode cX8_finesPaid 21 = .ok (.iadd, 1) := by decide +kernel
theorem dX8_finesPaid_22 : decode cX8_finesPaid 22 = .ok (.istore_n 1, 1) := by decide +kernel
theorem dX8_finesPaid_23 : decode cX8_finesPaid 23 = .ok (.iinc 2 1, 3) := by decide +kernel
theorem dX8_finesPaid_26 : decode cX8_finesPaid 26 = .ok (.goto (-22), 3) := by decide +kernel
theorem dX8_finesPaid_29 : decode cX8_finesPaid 29 = .ok (.iload_n 1, 1) := by decide +kernel
theorem dX8_finesPaid_30 : decode cX8_finesPaid 30 = .ok (.ireturn, 1) := by decide +kernel
theorem dX8_finesWithin_0 : decode cX8_finesWithin 0 = .ok (.aload_n 0, 1) := by decide +kernel
theorem dX8_finesWithin_1 : decode cX8_finesWithin 1 = .ok (.getfield 17, 3) := by decide +kernel
theorem dX8_finesWithin_4 : decode cX8_finesWithin 4 = .ok (.aload_n 0, 1) := by decide +kernel
theorem dX8_finesWithin_5 : decode cX8_finesWithin 5 = .ok (.getfield 26, 3) := by decide +kernel
theorem dX8_finesWithin_8 : decode cX8_finesWithin 8 = .ok (.sipush 584, 3) := by decide +kernel
theorem dX8_finesWithin_11 : decode cX8_finesWithin 11 = .ok (.invokestatic 193, 3) := by decide +kernel
theorem dX8_finesWithin_14 : decode cX8_finesWithin 14 = .ok (.aload_n 0, 1) := by decide +kernel
theorem dX8_finesWithin_15 : decode cX8_finesWithin 15 = .ok (.invokevirtual 308, 3) := by decide +kernel
theorem dX8_finesWithin_18 : decode cX8_finesWithin 18 = .ok (.istore_n 2, 1) := by decide +kernel
theorem dX8_finesWithin_19 : decode cX8_finesWithin 19 = .ok (.iconst 0, 1) := by decide +kernel
theorem dX8_finesWithin_20 : decode cX8_finesWithin 20 = .ok (.istore_n 3, 1) := by decide +kernel
theorem dX8_finesWithin_21 : decode cX8_finesWithin 21 = .ok (.iload_n 3, 1) := by decide +kernel
theorem dX8_finesWithin_22 : decode cX8_finesWithin 22 = .ok (.iload_n 1, 1) := by decide +kernel
theorem dX8_finesWithin_23 : decode cX8_finesWithin 23 = .ok (.if_icmp .ge 13, 3) := by decide +kernel
theorem dX8_finesWithin_26 : decode cX8_finesWithin 26 = .ok (.aload_n 0, 1) := by decide +kernel
theorem dX8_finesWithin_27 : decode cX8_finesWithin 27 = .ok (.invokevirtual 305, 3) := by decide +kernel
theorem dX8_finesWithin_30 : decode cX8_finesWithin 30 = .ok (.iinc 3 1, 3) := by decide +kernel
theorem dX8_finesWithin_33 : decode cX8_finesWithin 33 = .ok (.goto (-12), 3) := by decide +kernel
theorem dX8_finesWithin_36 : decode cX8_finesWithin 36 = .ok (.aload_n 0, 1) := by decide +kernel
theorem dX8_finesWithin_37 : decode cX8_finesWithin 37 = .ok (.invokevirtual 308, 3) := by decide +kernel
theorem dX8_finesWithin_40 : decode cX8_finesWithin 40 = .ok (.iload_n 2, 1) := by decide +kernel
theorem dX8_finesWithin_41 : decode cX8_finesWithin 41 = .ok (.isub, 1) := by decide +kernel
theorem dX8_finesWithin_42 : decode cX8_finesWithin 42 = .ok (.istore_n 3, 1) := by decide +kernel
theorem dX8_finesWithin_43 : decode cX8_finesWithin 43 = .ok (.aload_n 0, 1) := by decide +kernel
theorem dX8_finesWithin_44 : decode cX8_finesWithin 44 = .ok (.getfield 26, 3) := by decide +kernel
theorem dX8_finesWithin_47 : decode cX8_finesWithin 47 = .ok (.aload_n 0, 1) := by decide +kernel
theorem dX8_finesWithin_48 : decode cX8_finesWithin 48 = .ok (.getfield 17, 3) := by decide +kernel
theorem dX8_finesWithin_51 : decode cX8_finesWithin 51 = .ok (.sipush 584, 3) := by decide +kernel
theorem dX8_finesWithin_54 : decode cX8_finesWithin 54 = .ok (.invokestatic 193, 3) := by decide +kernel
theorem dX8_finesWithin_57 : decode cX8_finesWithin 57 = .ok (.iload_n 3, 1) := by decide +kernel
theorem dX8_finesWithin_58 : decode cX8_finesWithin 58 = .ok (.ireturn, 1) := by decide +kernel
theorem dX8_finesIn_0 : decode cX8_finesIn 0 = .ok (.aload_n 0, 1) := by decide +kernel
theorem dX8_finesIn_1 : decode cX8_finesIn 1 = .ok (.iconst 0, 1) := by decide +kernel
theorem dX8_finesIn_2 : decode cX8_finesIn 2 = .ok (.putfield 45, 3) := by decide +kernel
theorem dX8_finesIn_5 : decode cX8_finesIn 5 = .ok (.aload_n 0, 1) := by decide +kernel
theorem dX8_finesIn_6 : decode cX8_finesIn 6 = .ok (.iload_n 1, 1) := by decide +kernel
theorem dX8_finesIn_7 : decode cX8_finesIn 7 = .ok (.iconst 0, 1) := by decide +kernel
theorem dX8_finesIn_8 : decode cX8_finesIn 8 = .ok (.sipush 1100, 3) := by decide +kernel
theorem dX8_finesIn_11 : decode cX8_finesIn 11 = .ok (.invokestatic 67, 3) := by decide +kernel
theorem dX8_finesIn_14 : decode cX8_finesIn 14 = .ok (.ifCond .ne 7, 3) := by decide +kernel
theorem dX8_finesIn_17 : decode cX8_finesIn 17 = .ok (.iconst 1, 1) := by decide +kernel
theorem dX8_finesIn_18 : decode cX8_finesIn 18 = .ok (.goto 4, 3) := by decide +kernel
theorem dX8_finesIn_21 : decode cX8_finesIn 21 = .ok (.iconst 0, 1) := by decide +kernel
theorem dX8_finesIn_22 : decode cX8_finesIn 22 = .ok (.iconst 1, 1) := by decide +kernel
theorem dX8_finesIn_23 : decode cX8_finesIn 23 = .ok (.invokevirtual 181, 3) := by decide +kernel
theorem dX8_finesIn_26 : decode cX8_finesIn 26 = .ok (.ifCond .eq 7, 3) := by decide +kernel
theorem dX8_finesIn_29 : decode cX8_finesIn 29 = .ok (.iconst 0, 1) := by decide +kernel
theorem dX8_finesIn_30 : decode cX8_finesIn 30 = .ok (.goto 8, 3) := by decide +kernel
theorem dX8_finesIn_33 : decode cX8_finesIn 33 = .ok (.aload_n 0, 1) := by decide +kernel
theorem dX8_finesIn_34 : decode cX8_finesIn 34 = .ok (.iload_n 1, 1) := by decide +kernel
theorem dX8_finesIn_35 : decode cX8_finesIn 35 = .ok (.invokevirtual 311, 3) := by decide +kernel
theorem dX8_finesIn_38 : decode cX8_finesIn 38 = .ok (.ireturn, 1) := by decide +kernel
theorem dX8_advise_0 : decode cX8_advise 0 = .ok (.aload_n 0, 1) := by decide +kernel
theorem dX8_advise_1 : decode cX8_advise 1 = .ok (.iconst 0, 1) := by decide +kernel
theorem dX8_advise_2 : decode cX8_advise 2 = .ok (.putfield 45, 3) := by decide +kernel
theorem dX8_advise_5 : decode cX8_advise 5 = .ok (.aload_n 0, 1) := by decide +kernel
theorem dX8_advise_6 : decode cX8_advise 6 = .ok (.iload_n 1, 1) := by decide +kernel
theorem dX8_advise_7 : decode cX8_advise 7 = .ok (.invokevirtual 296, 3) := by decide +kernel
theorem dX8_advise_10 : decode cX8_advise 10 = .ok (.ifCond .eq 5, 3) := by decide +kernel
theorem dX8_advise_13 : decode cX8_advise 13 = .ok (.iconst 0, 1) := by decide +kernel
theorem dX8_advise_14 : decode cX8_advise 14 = .ok (.ireturn, 1) := by decide +kernel
theorem dX8_advise_15 : decode cX8_advise 15 = .ok (.iconst (-1), 1) := by decide +kernel
theorem dX8_advise_16 : decode cX8_advise 16 = .ok (.istore_n 2, 1) := by decide +kernel
theorem dX8_advise_17 : decode cX8_advise 17 = .ok (.aload_n 0, 1) := by decide +kernel
theorem dX8_advise_18 : decode cX8_advise 18 = .ok (.bipush 100, 2) := by decide +kernel
theorem dX8_advise_20 : decode cX8_advise 20 = .ok (.invokevirtual 311, 3) := by decide +kernel
theorem dX8_advise_23 : decode cX8_advise 23 = .ok (.istore_n 3, 1) := by decide +kernel
theorem dX8_advise_24 : decode cX8_advise 24 = .ok (.iconst 0, 1) := by decide +kernel
theorem dX8_advise_25 : decode cX8_advise 25 = .ok (.istore 4, 2) := by decide +kernel
theorem dX8_advise_27 : decode cX8_advise 27 = .ok (.iload 4, 2) := by decide +kernel
theorem dX8_advise_29 : decode cX8_advise 29 = .ok (.aload_n 0, 1) := by decide +kernel
theorem dX8_advise_30 : decode cX8_advise 30 = .ok (.getfield 17, 3) := by decide +kernel
theorem dX8_advise_33 : decode cX8_advise 33 = .ok (.iconst 1, 1) := by decide +kernel
theorem dX8_advise_34 : decode cX8_advise 34 = .ok (.iaload, 1) := by decide +kernel
theorem dX8_advise_35 : decode cX8_advise 35 = .ok (.if_icmp .ge 82, 3) := by decide +kernel
theorem dX8_advise_38 : decode cX8_advise 38 = .ok (.aload_n 0, 1) := by decide +kernel
theorem dX8_advise_39 : decode cX8_advise 39 = .ok (.iload 4, 2) := by decide +kernel
theorem dX8_advise_41 : decode cX8_advise 41 = .ok (.iload_n 1, 1) := by decide +kernel
theorem dX8_advise_42 : decode cX8_advise 42 = .ok (.invokevirtual 314, 3) := by decide +kernel
theorem dX8_advise_45 : decode cX8_advise 45 = .ok (.ifCond .ne 6, 3) := by decide +kernel
theorem dX8_advise_48 : decode cX8_advise 48 = .ok (.goto 63, 3) := by decide +kernel
theorem dX8_advise_51 : decode cX8_advise 51 = .ok (.aload_n 0, 1) := by decide +kernel
theorem dX8_advise_52 : decode cX8_advise 52 = .ok (.getfield 17, 3) := by decide +kernel
theorem dX8_advise_55 : decode cX8_advise 55 = .ok (.aload_n 0, 1) := by decide +kernel
theorem dX8_advise_56 : decode cX8_advise 56 = .ok (.getfield 23, 3) := by decide +kernel
theorem dX8_advise_59 : decode cX8_advise 59 = .ok (.sipush 584, 3) := by decide +kernel
theorem dX8_advise_62 : decode cX8_advise 62 = .ok (.invokestatic 193, 3) := by decide +kernel
theorem dX8_advise_65 : decode cX8_advise 65 = .ok (.aload_n 0, 1) := by decide +kernel
theorem dX8_advise_66 : decode cX8_advise 66 = .ok (.iload 4, 2) := by decide +kernel
theorem dX8_advise_68 : decode cX8_advise 68 = .ok (.iload_n 1, 1) := by decide +kernel
theorem dX8_advise_69 : decode cX8_advise 69 = .ok (.invokevirtual 317, 3) := by decide +kernel
theorem dX8_advise_72 : decode cX8_advise 72 = .ok (.istore 5, 2) := by decide +kernel
theorem dX8_advise_74 : decode cX8_advise 74 = .ok (.aload_n 0, 1) := by decide +kernel
theorem dX8_advise_75 : decode cX8_advise 75 = .ok (.bipush 100, 2) := by decide +kernel
theorem dX8_advise_77 : decode cX8_advise 77 = .ok (.invokevirtual 311, 3) := by decide +kernel
theorem dX8_advise_80 : decode cX8_advise 80 = .ok (.istore 6, 2) := by decide +kernel
theorem dX8_advise_82 : decode cX8_advise 82 = .ok (.aload_n 0, 1) := by decide +kernel
theorem dX8_advise_83 : decode cX8_advise 83 = .ok (.getfield 23, 3) := by decide +kernel
theorem dX8_advise_86 : decode cX8_advise 86 = .ok (.aload_n 0, 1) := by decide +kernel
theorem dX8_advise_87 : decode cX8_advise 87 = .ok (.getfield 17, 3) := by decide +kernel
theorem dX8_advise_90 : decode cX8_advise 90 = .ok (.sipush 584, 3) := by decide +kernel
theorem dX8_advise_93 : decode cX8_advise 93 = .ok (.invokestatic 193, 3) := by decide +kernel
theorem dX8_advise_96 : decode cX8_advise 96 = .ok (.iload 6, 2) := by decide +kernel
theorem dX8_advise_98 : decode cX8_advise 98 = .ok (.iload_n 3, 1) := by decide +kernel
theorem dX8_advise_99 : decode cX8_advise 99 = .ok (.if_icmp .lt 6, 3) := by decide +kernel
theorem dX8_advise_102 : decode cX8_advise 102 = .ok (.goto 9, 3) := by decide +kernel
theorem dX8_advise_105 : decode cX8_advise 105 = .ok (.iload 4, 2) := by decide +kernel
theorem dX8_advise_107 : decode cX8_advise 107 = .ok (.istore_n 2, 1) := by decide +kernel
theorem dX8_advise_108 : decode cX8_advise 108 = .ok (.iload 6, 2) := by decide +kernel
theorem dX8_advise_110 : decode cX8_advise 110 = .ok (.istore_n 3, 1) := by decide +kernel
theorem dX8_advise_111 : decode cX8_advise 111 = .ok (.iinc 4 1, 3) := by decide +kernel
theorem dX8_advise_114 : decode cX8_advise 114 = .ok (.goto (-87), 3) := by decide +kernel
theorem dX8_advise_117 : decode cX8_advise 117 = .ok (.iload_n 2, 1) := by decide +kernel
theorem dX8_advise_118 : decode cX8_advise 118 = .ok (.ireturn, 1) := by decide +kernel
theorem dX8_remember_0 : decode cX8_remember 0 = .ok (.aload_n 0, 1) := by decide +kernel
theorem dX8_remember_1 : decode cX8_remember 1 = .ok (.getfield 320, 3) := by decide +kernel
theorem dX8_remember_4 : decode cX8_remember 4 = .ok (.bipush 8, 2) := by decide +kernel
theorem dX8_remember_6 : decode cX8_remember 6 = .ok (.if_icmp .ne 47, 3) := by decide +kernel
theorem dX8_remember_9 : decode cX8_remember 9 = .ok (.iconst 1, 1) := by decide +kernel
theorem dX8_remember_10 : decode cX8_remember 10 = .ok (.istore_n 1, 1) := by decide +kernel
theorem dX8_remember_11 : decode cX8_remember 11 = .ok (.iload_n 1, 1) := by decide +kernel
theorem dX8_remember_12 : decode cX8_remember 12 = .ok (.bipush 8, 2) := by decide +kernel
theorem dX8_remember_14 : decode cX8_remember 14 = .ok (.if_icmp .ge 29, 3) := by decide +kernel
theorem dX8_remember_17 : decode cX8_remember 17 = .ok (.aload_n 0, 1) := by decide +kernel
theorem dX8_remember_18 : decode cX8_remember 18 = .ok (.getfield 31, 3) := by decide +kernel
theorem dX8_remember_21 : decode cX8_remember 21 = .ok (.iload_n 1, 1) := by decide +kernel
theorem dX8_remember_22 : decode cX8_remember 22 = .ok (.aaload, 1) := by decide +kernel
theorem dX8_remember_23 : decode cX8_remember 23 = .ok (.aload_n 0, 1) := by decide +kernel
theorem dX8_remember_24 : decode cX8_remember 24 = .ok (.getfield 31, 3) := by decide +kernel
theorem dX8_remember_27 : decode cX8_remember 27 = .ok (.iload_n 1, 1) := by decide +kernel
theorem dX8_remember_28 : decode cX8_remember 28 = .ok (.iconst 1, 1) := by decide +kernel
theorem dX8_remember_29 : decode cX8_remember 29 = .ok (.isub, 1) := by decide +kernel
theorem dX8_remember_30 : decode cX8_remember 30 = .ok (.aaload, 1) := by decide +kernel
theorem dX8_remember_31 : decode cX8_remember 31 = .ok (.sipush 1784, 3) := by decide +kernel
theorem dX8_remember_34 : decode cX8_remember 34 = .ok (.invokestatic 193, 3) := by decide +kernel
theorem dX8_remember_37 : decode cX8_remember 37 = .ok (.iinc 1 1, 3) := by decide +kernel
theorem dX8_remember_40 : decode cX8_remember 40 = .ok (.goto (-29), 3) := by decide +kernel
theorem dX8_remember_43 : decode cX8_remember 43 = .ok (.aload_n 0, 1) := by decide +kernel
theorem dX8_remember_44 : decode cX8_remember 44 = .ok (.dup, 1) := by decide +kernel
theorem dX8_remember_45 : decode cX8_remember 45 = .ok (.getfield 320, 3) := by decide +kernel
theorem dX8_remember_48 : decode cX8_remember 48 = .ok (.iconst 1, 1) := by decide +kernel
theorem dX8_remember_49 : decode cX8_remember 49 = .ok (.isub, 1) := by decide +kernel
theorem dX8_remember_50 : decode cX8_remember 50 = .ok (.putfield 320, 3) := by decide +kernel
theorem dX8_remember_53 : decode cX8_remember 53 = .ok (.aload_n 0, 1) := by decide +kernel
theorem dX8_remember_54 : decode cX8_remember 54 = .ok (.getfield 17, 3) := by decide +kernel
theorem dX8_remember_57 : decode cX8_remember 57 = .ok (.aload_n 0, 1) := by decide +kernel
theorem dX8_remember_58 : decode cX8_remember 58 = .ok (.getfield 31, 3) := by decide +kernel
theorem dX8_remember_61 : decode cX8_remember 61 = .ok (.aload_n 0, 1) := by decide +kernel
theorem dX8_remember_62 : decode cX8_remember 62 = .ok (.getfield 320, 3) := by decide +kernel
theorem dX8_remember_65 : decode cX8_remember 65 = .ok (.aaload, 1) := by decide +kernel
theorem dX8_remember_66 : decode cX8_remember 66 = .ok (.sipush 1784, 3) := by decide +kernel
theorem dX8_remember_69 : decode cX8_remember 69 = .ok (.invokestatic 193, 3) := by decide +kernel
theorem dX8_remember_72 : decode cX8_remember 72 = .ok (.aload_n 0, 1) := by decide +kernel
theorem dX8_remember_73 : decode cX8_remember 73 = .ok (.dup, 1) := by decide +kernel
theorem dX8_remember_74 : decode cX8_remember 74 = .ok (.getfield 320, 3) := by decide +kernel
theorem dX8_remember_77 : decode cX8_remember 77 = .ok (.iconst 1, 1) := by decide +kernel
theorem dX8_remember_78 : decode cX8_remember 78 = .ok (.iadd, 1) := by decide +kernel
theorem dX8_remember_79 : decode cX8_remember 79 = .ok (.putfield 320, 3) := by decide +kernel
theorem dX8_remember_82 : decode cX8_remember 82 = .ok (.return_, 1) := by decide +kernel
theorem dX8_pass_0 : decode cX8_pass 0 = .ok (.aload_n 0, 1) := by decide +kernel
theorem dX8_pass_1 : decode cX8_pass 1 = .ok (.iconst 0, 1) := by decide +kernel
theorem dX8_pass_2 : decode cX8_pass 2 = .ok (.putfield 45, 3) := by decide +kernel
theorem dX8_pass_5 : decode cX8_pass 5 = .ok (.aload_n 0, 1) := by decide +kernel
theorem dX8_pass_6 : decode cX8_pass 6 = .ok (.iload_n 1, 1) := by decide +kernel
theorem dX8_pass_7 : decode cX8_pass 7 = .ok (.iconst 1, 1) := by decide +kernel
theorem dX8_pass_8 : decode cX8_pass 8 = .ok (.sipush 200, 3) := by decide +kernel
theorem dX8_pass_11 : decode cX8_pass 11 = .ok (.invokestatic 67, 3) := by decide +kernel
theorem dX8_pass_14 : decode cX8_pass 14 = .ok (.ifCond .eq 17, 3) := by decide +kernel
theorem dX8_pass_17 : decode cX8_pass 17 = .ok (.aload_n 0, 1) := by decide +kernel
theorem dX8_pass_18 : decode cX8_pass 18 = .ok (.getfield 17, 3) := by decide +kernel
theorem dX8_pass_21 : decode cX8_pass 21 = .ok (.iconst 0, 1) := by decide +kernel
theorem dX8_pass_22 : decode cX8_pass 22 = .ok (.iaload, 1) := by decide +kernel
theorem dX8_pass_23 : decode cX8_pass 23 = .ok (.iload_n 1, 1) := by decide +kernel
theorem dX8_pass_24 : decode cX8_pass 24 = .ok (.iadd, 1) := by decide +kernel
theorem dX8_pass_25 : decode cX8_pass 25 = .ok (.sipush 9999, 3) := by decide +kernel
theorem dX8_pass_28 : decode cX8_pass 28 = .ok (.if_icmp .le 7, 3) := by decide +kernel
theorem dX8_pass_31 : decode cX8_pass 31 = .ok (.iconst 1, 1) := by decide +kernel
theorem dX8_pass_32 : decode cX8_pass 32 = .ok (.goto 4, 3) := by decide +kernel
theorem dX8_pass_35 : decode cX8_pass 35 = .ok (.iconst 0, 1) := by decide +kernel
theorem dX8_pass_36 : decode cX8_pass 36 = .ok (.iconst 1, 1) := by decide +kernel
theorem dX8_pass_37 : decode cX8_pass 37 = .ok (.invokevirtual 181, 3) := by decide +kernel
theorem dX8_pass_40 : decode cX8_pass 40 = .ok (.ifCond .eq 5, 3) := by decide +kernel
theorem dX8_pass_43 : decode cX8_pass 43 = .ok (.iconst 0, 1) := by decide +kernel
theorem dX8_pass_44 : decode cX8_pass 44 = .ok (.ireturn, 1) := by decide +kernel
theorem dX8_pass_45 : decode cX8_pass 45 = .ok (.aload_n 0, 1) := by decide +kernel
theorem dX8_pass_46 : decode cX8_pass 46 = .ok (.invokevirtual 190, 3) := by decide +kernel
theorem dX8_pass_49 : decode cX8_pass 49 = .ok (.aload_n 0, 1) := by decide +kernel
theorem dX8_pass_50 : decode cX8_pass 50 = .ok (.iconst 2, 1) := by decide +kernel
theorem dX8_pass_51 : decode cX8_pass 51 = .ok (.invokevirtual 272, 3) := by decide +kernel
theorem dX8_pass_54 : decode cX8_pass 54 = .ok (.istore_n 2, 1) := by decide +kernel
theorem dX8_pass_55 : decode cX8_pass 55 = .ok (.iconst 0, 1) := by decide +kernel
theorem dX8_pass_56 : decode cX8_pass 56 = .ok (.istore_n 3, 1) := by decide +kernel
theorem dX8_pass_57 : decode cX8_pass 57 = .ok (.iload_n 3, 1) := by decide +kernel
theorem dX8_pass_58 : decode cX8_pass 58 = .ok (.iload_n 1, 1) := by decide +kernel
theorem dX8_pass_59 : decode cX8_pass 59 = .ok (.if_icmp .ge 13, 3) := by decide +kernel
theorem dX8_pass_62 : decode cX8_pass 62 = .ok (.aload_n 0, 1) := by decide +kernel
theorem dX8_pass_63 : decode cX8_pass 63 = .ok (.invokevirtual 305, 3) := by decide +kernel
theorem dX8_pass_66 : decode cX8_pass 66 = .ok (.iinc 3 1, 3) := by decide +kernel
theorem dX8_pass_69 : decode cX8_pass 69 = .ok (.goto (-12), 3) := by decide +kernel
theorem dX8_pass_72 : decode cX8_pass 72 = .ok (.aload_n 0, 1) := by decide +kernel
theorem dX8_pass_73 : decode cX8_pass 73 = .ok (.iconst 2, 1) := by decide +kernel
theorem dX8_pass_74 : decode cX8_pass 74 = .ok (.invokevirtual 272, 3) := by decide +kernel
theorem dX8_pass_77 : decode cX8_pass 77 = .ok (.iload_n 2, 1) := by decide +kernel
theorem dX8_pass_78 : decode cX8_pass 78 = .ok (.isub, 1) := by decide +kernel
theorem dX8_pass_79 : decode cX8_pass 79 = .ok (.ireturn, 1) := by decide +kernel
theorem dX8_raise_0 : decode cX8_raise 0 = .ok (.aload_n 0, 1) := by decide +kernel
theorem dX8_raise_1 : decode cX8_raise 1 = .ok (.iconst 0, 1) := by decide +kernel
theorem dX8_raise_2 : decode cX8_raise 2 = .ok (.putfield 45, 3) := by decide +kernel
theorem dX8_raise_5 : decode cX8_raise 5 = .ok (.aload_n 0, 1) := by decide +kernel
theorem dX8_raise_6 : decode cX8_raise 6 = .ok (.iload_n 1, 1) := by decide +kernel
theorem dX8_raise_7 : decode cX8_raise 7 = .ok (.invokevirtual 296, 3) := by decide +kernel
theorem dX8_raise_10 : decode cX8_raise 10 = .ok (.ifCond .ne 38, 3) := by decide +kernel
theorem dX8_raise_13 : decode cX8_raise 13 = .ok (.aload_n 0, 1) := by decide +kernel
theorem dX8_raise_14 : decode cX8_raise 14 = .ok (.iload_n 2, 1) := by decide +kernel
theorem dX8_raise_15 : decode cX8_raise 15 = .ok (.iconst 1, 1) := by decide +kernel
theorem dX8_raise_16 : decode cX8_raise 16 = .ok (.bipush 99, 2) := by decide +kernel
theorem dX8_raise_18 : decode cX8_raise 18 = .ok (.invokevirtual 290, 3) := by decide +kernel
theorem dX8_raise_21 : decode cX8_raise 21 = .ok (.ifCond .ne 27, 3) := by decide +kernel
theorem dX8_raise_24 : decode cX8_raise 24 = .ok (.aload_n 0, 1) := by decide +kernel
theorem dX8_raise_25 : decode cX8_raise 25 = .ok (.aload_n 0, 1) := by decide +kernel
theorem dX8_raise_26 : decode cX8_raise 26 = .ok (.getfield 17, 3) := by decide +kernel
theorem dX8_raise_29 : decode cX8_raise 29 = .ok (.iconst 3, 1) := by decide +kernel
theorem dX8_raise_30 : decode cX8_raise 30 = .ok (.iaload, 1) := by decide +kernel
theorem dX8_raise_31 : decode cX8_raise 31 = .ok (.bipush 60, 2) := by decide +kernel
theorem dX8_raise_33 : decode cX8_raise 33 = .ok (.if_icmp .ne 7, 3) := by decide +kernel
theorem dX8_raise_36 : decode cX8_raise 36 = .ok (.iconst 1, 1) := by decide +kernel
theorem dX8_raise_37 : decode cX8_raise 37 = .ok (.goto 4, 3) := by decide +kernel
theorem dX8_raise_40 : decode cX8_raise 40 = .ok (.iconst 0, 1) := by decide +kernel
theorem dX8_raise_41 : decode cX8_raise 41 = .ok (.iconst 3, 1) := by decide +kernel
theorem dX8_raise_42 : decode cX8_raise 42 = .ok (.invokevirtual 181, 3) := by decide +kernel
theorem dX8_raise_45 : decode cX8_raise 45 = .ok (.ifCond .eq 5, 3) := by decide +kernel
theorem dX8_raise_48 : decode cX8_raise 48 = .ok (.iconst 0, 1) := by decide +kernel
theorem dX8_raise_49 : decode cX8_raise 49 = .ok (.ireturn, 1) := by decide +kernel
theorem dX8_raise_50 : decode cX8_raise 50 = .ok (.aload_n 0, 1) := by decide +kernel
theorem dX8_raise_51 : decode cX8_raise 51 = .ok (.invokevirtual 190, 3) := by decide +kernel
theorem dX8_raise_54 : decode cX8_raise 54 = .ok (.aload_n 0, 1) := by decide +kernel
theorem dX8_raise_55 : decode cX8_raise 55 = .ok (.getfield 17, 3) := by decide +kernel
theorem dX8_raise_58 : decode cX8_raise 58 = .ok (.iload_n 1, 1) := by decide +kernel
theorem dX8_raise_59 : decode cX8_raise 59 = .ok (.aload_n 0, 1) := by decide +kernel
theorem dX8_raise_60 : decode cX8_raise 60 = .ok (.getfield 17, 3) := by decide +kernel
theorem dX8_raise_63 : decode cX8_raise 63 = .ok (.iconst 0, 1) := by decide +kernel
theorem dX8_raise_64 : decode cX8_raise 64 = .ok (.iaload, 1) := by decide +kernel
theorem dX8_raise_65 : decode cX8_raise 65 = .ok (.iload_n 2, 1) := by decide +kernel
theorem dX8_raise_66 : decode cX8_raise 66 = .ok (.invokestatic 145, 3) := by decide +kernel
theorem dX8_raise_69 : decode cX8_raise 69 = .ok (.aload_n 0, 1) := by decide +kernel
theorem dX8_raise_70 : decode cX8_raise 70 = .ok (.aload_n 0, 1) := by decide +kernel
theorem dX8_raise_71 : decode cX8_raise 71 = .ok (.getfield 17, 3) := by decide +kernel
theorem dX8_raise_74 : decode cX8_raise 74 = .ok (.iconst 3, 1) := by decide +kernel
theorem dX8_raise_75 : decode cX8_raise 75 = .ok (.iaload, 1) := by decide +kernel
theorem dX8_raise_76 : decode cX8_raise 76 = .ok (.iconst 1, 1) := by decide +kernel
theorem dX8_raise_77 : decode cX8_raise 77 = .ok (.isub, 1) := by decide +kernel
theorem dX8_raise_78 : decode cX8_raise 78 = .ok (.invokevirtual 261, 3) := by decide +kernel
theorem dX8_raise_81 : decode cX8_raise 81 = .ok (.aload_n 0, 1) := by decide +kernel
theorem dX8_raise_82 : decode cX8_raise 82 = .ok (.getfield 17, 3) := by decide +kernel
theorem dX8_raise_85 : decode cX8_raise 85 = .ok (.iconst 3, 1) := by decide +kernel
theorem dX8_raise_86 : decode cX8_raise 86 = .ok (.iaload, 1) := by decide +kernel
theorem dX8_raise_87 : decode cX8_raise 87 = .ok (.iconst 1, 1) := by decide +kernel
theorem dX8_raise_88 : decode cX8_raise 88 = .ok (.isub, 1) := by decide +kernel
theorem dX8_raise_89 : decode cX8_raise 89 = .ok (.ireturn, 1) := by decide +kernel
theorem dX8_mayLease_0 : decode cX8_mayLease 0 = .ok (.aload_n 0, 1) := by decide +kernel
theorem dX8_mayLease_1 : decode cX8_mayLease 1 = .ok (.iload_n 1, 1) := by decide +kernel
theorem dX8_mayLease_2 : decode cX8_mayLease 2 = .ok (.iconst 2, 1) := by decide +kernel
theorem dX8_mayLease_3 : decode cX8_mayLease 3 = .ok (.invokevirtual 245, 3) := by decide +kernel
theorem dX8_mayLease_6 : decode cX8_mayLease 6 = .ok (.ifCond .ne 26, 3) := by decide +kernel
theorem dX8_mayLease_9 : decode cX8_mayLease 9 = .ok (.aload_n 0, 1) := by decide +kernel
theorem dX8_mayLease_10 : decode cX8_mayLease 10 = .ok (.iload_n 1, 1) := by decide +kernel
theorem dX8_mayLease_11 : decode cX8_mayLease 11 = .ok (.iload_n 2, 1) := by decide +kernel
theorem dX8_mayLease_12 : decode cX8_mayLease 12 = .ok (.invokevirtual 258, 3) := by decide +kernel
theorem dX8_mayLease_15 : decode cX8_mayLease 15 = .ok (.ifCond .ne 17, 3) := by decide +kernel
theorem dX8_mayLease_18 : decode cX8_mayLease 18 = .ok (.aload_n 0, 1) := by decide +kernel
theorem dX8_mayLease_19 : decode cX8_mayLease 19 = .ok (.iload_n 2, 1) := by decide +kernel
theorem dX8_mayLease_20 : decode cX8_mayLease 20 = .ok (.iconst 3, 1) := by decide +kernel
theorem dX8_mayLease_21 : decode cX8_mayLease 21 = .ok (.invokevirtual 222, 3) := by decide +kernel
theorem dX8_mayLease_24 : decode cX8_mayLease 24 = .ok (.iconst 3, 1) := by decide +kernel
theorem dX8_mayLease_25 : decode cX8_mayLease 25 = .ok (.if_icmp .ge 7, 3) := by decide +kernel
theorem dX8_mayLease_28 : decode cX8_mayLease 28 = .ok (.iconst 1, 1) := by decide +kernel
theorem dX8_mayLease_29 : decode cX8_mayLease 29 = .ok (.goto 4, 3) := by decide +kernel
theorem dX8_mayLease_32 : decode cX8_mayLease 32 = .ok (.iconst 0, 1) := by decide +kernel
theorem dX8_mayLease_33 : decode cX8_mayLease 33 = .ok (.ireturn, 1) := by decide +kernel
theorem dX8_leaseNow_0 : decode cX8_leaseNow 0 = .ok (.iload_n 2, 1) := by decide +kernel
theorem dX8_leaseNow_1 : decode cX8_leaseNow 1 = .ok (.invokestatic 200, 3) := by decide +kernel
theorem dX8_leaseNow_4 : decode cX8_leaseNow 4 = .ok (.istore_n 3, 1) := by decide +kernel
theorem dX8_leaseNow_5 : decode cX8_leaseNow 5 = .ok (.iconst 0, 1) := by decide +kernel
theorem dX8_leaseNow_6 : decode cX8_leaseNow 6 = .ok (.istore 4, 2) := by decide +kernel
theorem dX8_leaseNow_8 : decode cX8_leaseNow 8 = .ok (.aload_n 0, 1) := by decide +kernel
theorem dX8_leaseNow_9 : decode cX8_leaseNow 9 = .ok (.getfield 17, 3) := by decide +kernel
theorem dX8_leaseNow_12 : decode cX8_leaseNow 12 = .ok (.iload_n 3, 1) := by decide +kernel
theorem dX8_leaseNow_13 : decode cX8_leaseNow 13 = .ok (.iconst 4, 1) := by decide +kernel
theorem dX8_leaseNow_14 : decode cX8_leaseNow 14 = .ok (.iadd, 1) := by decide +kernel
theorem dX8_leaseNow_15 : decode cX8_leaseNow 15 = .ok (.aload_n 0, 1) := by decide +kernel
theorem dX8_leaseNow_16 : decode cX8_leaseNow 16 = .ok (.getfield 17, 3) := by decide +kernel
theorem dX8_leaseNow_19 : decode cX8_leaseNow 19 = .ok (.iload_n 3, 1) := by decide +kernel
theorem dX8_leaseNow_20 : decode cX8_leaseNow 20 = .ok (.iconst 3, 1) := by decide +kernel
theorem dX8_leaseNow_21 : decode cX8_leaseNow 21 = .ok (.iadd, 1) := by decide +kernel
theorem dX8_leaseNow_22 : decode cX8_leaseNow 22 = .ok (.iaload, 1) := by decide +kernel
theorem dX8_leaseNow_23 : decode cX8_leaseNow 23 = .ok (.iadd, 1) := by decide +kernel
theorem dX8_leaseNow_24 : decode cX8_leaseNow 24 = .ok (.iload_n 1, 1) := by decide +kernel
theorem dX8_leaseNow_25 : decode cX8_leaseNow 25 = .ok (.iastore, 1) := by decide +kernel
theorem dX8_leaseNow_26 : decode cX8_leaseNow 26 = .ok (.aload_n 0, 1) := by decide +kernel
theorem dX8_leaseNow_27 : decode cX8_leaseNow 27 = .ok (.getfield 17, 3) := by decide +kernel
theorem dX8_leaseNow_30 : decode cX8_leaseNow 30 = .ok (.iload_n 3, 1) := by decide +kernel
theorem dX8_leaseNow_31 : decode cX8_leaseNow 31 = .ok (.iconst 3, 1) := by decide +kernel
theorem dX8_leaseNow_32 : decode cX8_leaseNow 32 = .ok (.iadd, 1) := by decide +kernel
theorem dX8_leaseNow_33 : decode cX8_leaseNow 33 = .ok (.dup2, 1) := by decide +kernel
theorem dX8_leaseNow_34 : decode cX8_leaseNow 34 = .ok (.iaload, 1) := by decide +kernel
theorem dX8_leaseNow_35 : decode cX8_leaseNow 35 = .ok (.iconst 1, 1) := by decide +kernel
theorem dX8_leaseNow_36 : decode cX8_leaseNow 36 = .ok (.iadd, 1) := by decide +kernel
theorem dX8_leaseNow_37 : decode cX8_leaseNow 37 = .ok (.iastore, 1) := by decide +kernel
theorem dX8_leaseNow_38 : decode cX8_leaseNow 38 = .ok (.iconst 0, 1) := by decide +kernel
theorem dX8_leaseNow_39 : decode cX8_leaseNow 39 = .ok (.istore 5, 2) := by decide +kernel
theorem dX8_leaseNow_41 : decode cX8_leaseNow 41 = .ok (.iload 5, 2) := by decide +kernel
theorem dX8_leaseNow_43 : decode cX8_leaseNow 43 = .ok (.aload_n 0, 1) := by decide +kernel
theorem dX8_leaseNow_44 : decode cX8_leaseNow 44 = .ok (.getfield 17, 3) := by decide +kernel
theorem dX8_leaseNow_47 : decode cX8_leaseNow 47 = .ok (.iconst 3, 1) := by decide +kernel
theorem dX8_leaseNow_48 : decode cX8_leaseNow 48 = .ok (.iaload, 1) := by decide +kernel
theorem dX8_leaseNow_49 : decode cX8_leaseNow 49 = .ok (.if_icmp .ge 52, 3) := by decide +kernel
theorem dX8_leaseNow_52 : decode cX8_leaseNow 52 = .ok (.aload_n 0, 1) := by decide +kernel
theorem dX8_leaseNow_53 : decode cX8_leaseNow 53 = .ok (.iload 5, 2) := by decide +kernel
theorem dX8_leaseNow_55 : decode cX8_leaseNow 55 = .ok (.invokevirtual 209, 3) := by decide +kernel
theorem dX8_leaseNow_58 : decode cX8_leaseNow 58 = .ok (.ifCond .eq 37, 3) := by decide +kernel
theorem dX8_leaseNow_61 : decode cX8_leaseNow 61 = .ok (.aload_n 0, 1) := by decide +kernel
theorem dX8_leaseNow_62 : decode cX8_leaseNow 62 = .ok (.iload 5, 2) := by decide +kernel
theorem dX8_leaseNow_64 : decode cX8_leaseNow 64 = .ok (.iconst 0, 1) := by decide +kernel
theorem dX8_leaseNow_65 : decode cX8_leaseNow 65 = .ok (.invokevirtual 206, 3) := by decide +kernel
theorem dX8_leaseNow_68 : decode cX8_leaseNow 68 = .ok (.iload_n 2, 1) := by decide +kernel
theorem dX8_leaseNow_69 : decode cX8_leaseNow 69 = .ok (.if_icmp .ne 26, 3) := by decide +kernel
theorem dX8_leaseNow_72 : decode cX8_leaseNow 72 = .ok (.aload_n 0, 1) := by decide +kernel
theorem dX8_leaseNow_73 : decode cX8_leaseNow 73 = .ok (.iload 5, 2) := by decide +kernel
theorem dX8_leaseNow_75 : decode cX8_leaseNow 75 = .ok (.iconst 4, 1) := by decide +kernel
theorem dX8_leaseNow_76 : decode cX8_leaseNow 76 = .ok (.invokevirtual 206, 3) := by decide +kernel
theorem dX8_leaseNow_79 : decode cX8_leaseNow 79 = .ok (.iconst (-1), 1) := by decide +kernel
theorem dX8_leaseNow_80 : decode cX8_leaseNow 80 = .ok (.if_icmp .eq 6, 3) := by decide +kernel
theorem dX8_leaseNow_83 : decode cX8_leaseNow 83 = .ok (.goto 12, 3) := by decide +kernel
theorem dX8_leaseNow_86 : decode cX8_leaseNow 86 = .ok (.aload_n 0, 1) := by decide +kernel
theorem dX8_leaseNow_87 : decode cX8_leaseNow 87 = .ok (.iload 5, 2) := by decide +kernel
theorem dX8_leaseNow_89 : decode cX8_leaseNow 89 = .ok (.invokevirtual 225, 3) := by decide +kernel
theorem dX8_leaseNow_92 : decode cX8_leaseNow 92 = .ok (.iinc 4 1, 3) := by decide +kernel
theorem dX8_leaseNow_95 : decode cX8_leaseNow 95 = .ok (.iinc 5 1, 3) := by decide +kernel
theorem dX8_leaseNow_98 : decode cX8_leaseNow 98 = .ok (.goto (-57), 3) := by decide +kernel
theorem dX8_leaseNow_101 : decode cX8_leaseNow 101 = .ok (.iload 4, 2) := by decide +kernel
theorem dX8_leaseNow_103 : decode cX8_leaseNow 103 = .ok (.ireturn, 1) := by decide +kernel
theorem dX8_lease_0 : decode cX8_lease 0 = .ok (.aload_n 0, 1) := by decide +kernel
theorem dX8_lease_1 : decode cX8_lease 1 = .ok (.iconst 0, 1) := by decide +kernel
theorem dX8_lease_2 : decode cX8_lease 2 = .ok (.putfield 45, 3) := by decide +kernel
theorem dX8_lease_5 : decode cX8_lease 5 = .ok (.aload_n 0, 1) := by decide +kernel
theorem dX8_lease_6 : decode cX8_lease 6 = .ok (.iload_n 1, 1) := by decide +kernel
theorem dX8_lease_7 : decode cX8_lease 7 = .ok (.invokevirtual 287, 3) := by decide +kernel
theorem dX8_lease_10 : decode cX8_lease 10 = .ok (.ifCond .ne 11, 3) := by decide +kernel
theorem dX8_lease_13 : decode cX8_lease 13 = .ok (.aload_n 0, 1) := by decide +kernel
theorem dX8_lease_14 : decode cX8_lease 14 = .ok (.iload_n 2, 1) := by decide +kernel
theorem dX8_lease_15 : decode cX8_lease 15 = .ok (.invokevirtual 296, 3) := by decide +kernel
theorem dX8_lease_18 : decode cX8_lease 18 = .ok (.ifCond .eq 5, 3) := by decide +kernel
theorem dX8_lease_21 : decode cX8_lease 21 = .ok (.iconst 0, 1) := by decide +kernel
theorem dX8_lease_22 : decode cX8_lease 22 = .ok (.ireturn, 1) := by decide +kernel
theorem dX8_lease_23 : decode cX8_lease 23 = .ok (.aload_n 0, 1) := by decide +kernel
theorem dX8_lease_24 : decode cX8_lease 24 = .ok (.invokevirtual 190, 3) := by decide +kernel
theorem dX8_lease_27 : decode cX8_lease 27 = .ok (.aload_n 0, 1) := by decide +kernel
theorem dX8_lease_28 : decode cX8_lease 28 = .ok (.iload_n 1, 1) := by decide +kernel
theorem dX8_lease_29 : decode cX8_lease 29 = .ok (.iload_n 2, 1) := by decide +kernel
theorem dX8_lease_30 : decode cX8_lease 30 = .ok (.invokevirtual 314, 3) := by decide +kernel
theorem dX8_lease_33 : decode cX8_lease 33 = .ok (.ifCond .eq 12, 3) := by decide +kernel
theorem dX8_lease_36 : decode cX8_lease 36 = .ok (.aload_n 0, 1) := by decide +kernel
theorem dX8_lease_37 : decode cX8_lease 37 = .ok (.iload_n 1, 1) := by decide +kernel
theorem dX8_lease_38 : decode cX8_lease 38 = .ok (.iload_n 2, 1) := by decide +kernel
theorem dX8_lease_39 : decode cX8_lease 39 = .ok (.invokevirtual 317, 3) := by decide +kernel
theorem dX8_lease_42 : decode cX8_lease 42 = .ok (.goto 4, 3) := by decide +kernel
theorem dX8_lease_45 : decode cX8_lease 45 = .ok (.iconst (-1), 1) := by decide +kernel
theorem dX8_lease_46 : decode cX8_lease 46 = .ok (.ireturn, 1) := by decide +kernel
theorem dX8_release_0 : decode cX8_release 0 = .ok (.aload_n 0, 1) := by decide +kernel
theorem dX8_release_1 : decode cX8_release 1 = .ok (.iconst 0, 1) := by decide +kernel
theorem dX8_release_2 : decode cX8_release 2 = .ok (.putfield 45, 3) := by decide +kernel
theorem dX8_release_5 : decode cX8_release 5 = .ok (.aload_n 0, 1) := by decide +kernel
theorem dX8_release_6 : decode cX8_release 6 = .ok (.iload_n 1, 1) := by decide +kernel
theorem dX8_release_7 : decode cX8_release 7 = .ok (.invokevirtual 287, 3) := by decide +kernel
theorem dX8_release_10 : decode cX8_release 10 = .ok (.ifCond .ne 11, 3) := by decide +kernel
theorem dX8_release_13 : decode cX8_release 13 = .ok (.aload_n 0, 1) := by decide +kernel
theorem dX8_release_14 : decode cX8_release 14 = .ok (.iload_n 2, 1) := by decide +kernel
theorem dX8_release_15 : decode cX8_release 15 = .ok (.invokevirtual 296, 3) := by decide +kernel
theorem dX8_release_18 : decode cX8_release 18 = .ok (.ifCond .eq 5, 3) := by decide +kernel
theorem dX8_release_21 : decode cX8_release 21 = .ok (.iconst 0, 1) := by decide +kernel
theorem dX8_release_22 : decode cX8_release 22 = .ok (.ireturn, 1) := by decide +kernel
theorem dX8_release_23 : decode cX8_release 23 = .ok (.aload_n 0, 1) := by decide +kernel
theorem dX8_release_24 : decode cX8_release 24 = .ok (.invokevirtual 190, 3) := by decide +kernel
theorem dX8_release_27 : decode cX8_release 27 = .ok (.aload_n 0, 1) := by decide +kernel
theorem dX8_release_28 : decode cX8_release 28 = .ok (.iload_n 1, 1) := by decide +kernel
theorem dX8_release_29 : decode cX8_release 29 = .ok (.iload_n 2, 1) := by decide +kernel
theorem dX8_release_30 : decode cX8_release 30 = .ok (.invokevirtual 258, 3) := by decide +kernel
theorem dX8_release_33 : decode cX8_release 33 = .ok (.ifCond .ne 5, 3) := by decide +kernel
theorem dX8_release_36 : decode cX8_release 36 = .ok (.iconst (-1), 1) := by decide +kernel
theorem dX8_release_37 : decode cX8_release 37 = .ok (.ireturn, 1) := by decide +kernel
theorem dX8_release_38 : decode cX8_release 38 = .ok (.aload_n 0, 1) := by decide +kernel
theorem dX8_release_39 : decode cX8_release 39 = .ok (.iload_n 1, 1) := by decide +kernel
theorem dX8_release_40 : decode cX8_release 40 = .ok (.iload_n 2, 1) := by decide +kernel
theorem dX8_release_41 : decode cX8_release 41 = .ok (.invokevirtual 228, 3) := by decide +kernel
theorem dX8_release_44 : decode cX8_release 44 = .ok (.iconst 0, 1) := by decide +kernel
theorem dX8_release_45 : decode cX8_release 45 = .ok (.istore_n 3, 1) := by decide +kernel
theorem dX8_release_46 : decode cX8_release 46 = .ok (.iconst 0, 1) := by decide +kernel
theorem dX8_release_47 : decode cX8_release 47 = .ok (.istore 4, 2) := by decide +kernel
theorem dX8_release_49 : decode cX8_release 49 = .ok (.iload 4, 2) := by decide +kernel
theorem dX8_release_51 : decode cX8_release 51 = .ok (.aload_n 0, 1) := by decide +kernel
theorem dX8_release_52 : decode cX8_release 52 = .ok (.getfield 17, 3) := by decide +kernel
theorem dX8_release_55 : decode cX8_release 55 = .ok (.iconst 3, 1) := by decide +kernel
theorem dX8_release_56 : decode cX8_release 56 = .ok (.iaload, 1) := by decide +kernel
theorem dX8_release_57 : decode cX8_release 57 = .ok (.if_icmp .ge 42, 3) := by decide +kernel
theorem dX8_release_60 : decode cX8_release 60 = .ok (.aload_n 0, 1) := by decide +kernel
theorem dX8_release_61 : decode cX8_release 61 = .ok (.iload_n 1, 1) := by decide +kernel
theorem dX8_release_62 : decode cX8_release 62 = .ok (.iload 4, 2) := by decide +kernel
theorem dX8_release_64 : decode cX8_release 64 = .ok (.invokevirtual 212, 3) := by decide +kernel
theorem dX8_release_67 : decode cX8_release 67 = .ok (.ifCond .eq 26, 3) := by decide +kernel
theorem dX8_release_70 : decode cX8_release 70 = .ok (.aload_n 0, 1) := by decide +kernel
theorem dX8_release_71 : decode cX8_release 71 = .ok (.iload 4, 2) := by decide +kernel
theorem dX8_release_73 : decode cX8_release 73 = .ok (.iconst 0, 1) := by decide +kernel
theorem dX8_release_74 : decode cX8_release 74 = .ok (.invokevirtual 206, 3) := by decide +kernel
theorem dX8_release_77 : decode cX8_release 77 = .ok (.iload_n 2, 1) := by decide +kernel
theorem dX8_release_78 : decode cX8_release 78 = .ok (.if_icmp .eq 6, 3) := by decide +kernel
theorem dX8_release_81 : decode cX8_release 81 = .ok (.goto 12, 3) := by decide +kernel
theorem dX8_release_84 : decode cX8_release 84 = .ok (.aload_n 0, 1) := by decide +kernel
theorem dX8_release_85 : decode cX8_release 85 = .ok (.iload 4, 2) := by decide +kernel
theorem dX8_release_87 : decode cX8_release 87 = .ok (.invokevirtual 225, 3) := by decide +kernel
theorem dX8_release_90 : decode cX8_release 90 = .ok (.iinc 3 1, 3) := by decide +kernel
theorem dX8_release_93 : decode cX8_release 93 = .ok (.iinc 4 1, 3) := by decide +kernel
theorem dX8_release_96 : decode cX8_release 96 = .ok (.goto (-47), 3) := by decide +kernel
theorem dX8_release_99 : decode cX8_release 99 = .ok (.iload_n 3, 1) := by decide +kernel
theorem dX8_release_100 : decode cX8_release 100 = .ok (.ireturn, 1) := by decide +kernel
theorem dX8_fund_0 : decode cX8_fund 0 = .ok (.aload_n 0, 1) := by decide +kernel
theorem dX8_fund_1 : decode cX8_fund 1 = .ok (.iconst 0, 1) := by decide +kernel
theorem dX8_fund_2 : decode cX8_fund 2 = .ok (.putfield 45, 3) := by decide +kernel
theorem dX8_fund_5 : decode cX8_fund 5 = .ok (.aload_n 0, 1) := by decide +kernel
theorem dX8_fund_6 : decode cX8_fund 6 = .ok (.iload_n 1, 1) := by decide +kernel
theorem dX8_fund_7 : decode cX8_fund 7 = .ok (.invokevirtual 287, 3) := by decide +kernel
theorem dX8_fund_10 : decode cX8_fund 10 = .ok (.ifCond .ne 15, 3) := by decide +kernel
theorem dX8_fund_13 : decode cX8_fund 13 = .ok (.aload_n 0, 1) := by decide +kernel
theorem dX8_fund_14 : decode cX8_fund 14 = .ok (.iload_n 2, 1) := by decide +kernel
theorem dX8_fund_15 : decode cX8_fund 15 = .ok (.iconst 1, 1) := by decide +kernel
theorem dX8_fund_16 : decode cX8_fund 16 = .ok (.sipush 9999, 3) := by decide +kernel
theorem dX8_fund_19 : decode cX8_fund 19 = .ok (.invokevirtual 290, 3) := by decide +kernel
theorem dX8_fund_22 : decode cX8_fund 22 = .ok (.ifCond .eq 5, 3) := by decide +kernel
theorem dX8_fund_25 : decode cX8_fund 25 = .ok (.iconst 0, 1) := by decide +kernel
theorem dX8_fund_26 : decode cX8_fund 26 = .ok (.ireturn, 1) := by decide +kernel
theorem dX8_fund_27 : decode cX8_fund 27 = .ok (.aload_n 0, 1) := by decide +kernel
theorem dX8_fund_28 : decode cX8_fund 28 = .ok (.invokevirtual 190, 3) := by decide +kernel
theorem dX8_fund_31 : decode cX8_fund 31 = .ok (.aload_n 0, 1) := by decide +kernel
theorem dX8_fund_32 : decode cX8_fund 32 = .ok (.getfield 17, 3) := by decide +kernel
theorem dX8_fund_35 : decode cX8_fund 35 = .ok (.iload_n 1, 1) := by decide +kernel
theorem dX8_fund_36 : decode cX8_fund 36 = .ok (.invokestatic 197, 3) := by decide +kernel
theorem dX8_fund_39 : decode cX8_fund 39 = .ok (.iconst 0, 1) := by decide +kernel
theorem dX8_fund_40 : decode cX8_fund 40 = .ok (.iadd, 1) := by decide +kernel
theorem dX8_fund_41 : decode cX8_fund 41 = .ok (.dup2, 1) := by decide +kernel
theorem dX8_fund_42 : decode cX8_fund 42 = .ok (.iaload, 1) := by decide +kernel
theorem dX8_fund_43 : decode cX8_fund 43 = .ok (.iload_n 2, 1) := by decide +kernel
theorem dX8_fund_44 : decode cX8_fund 44 = .ok (.iadd, 1) := by decide +kernel
theorem dX8_fund_45 : decode cX8_fund 45 = .ok (.iastore, 1) := by decide +kernel
theorem dX8_fund_46 : decode cX8_fund 46 = .ok (.aload_n 0, 1) := by decide +kernel
theorem dX8_fund_47 : decode cX8_fund 47 = .ok (.getfield 17, 3) := by decide +kernel
theorem dX8_fund_50 : decode cX8_fund 50 = .ok (.iload_n 1, 1) := by decide +kernel
theorem dX8_fund_51 : decode cX8_fund 51 = .ok (.invokestatic 197, 3) := by decide +kernel
theorem dX8_fund_54 : decode cX8_fund 54 = .ok (.iconst 2, 1) := by decide +kernel
theorem dX8_fund_55 : decode cX8_fund 55 = .ok (.iadd, 1) := by decide +kernel
theorem dX8_fund_56 : decode cX8_fund 56 = .ok (.iconst 0, 1) := by decide +kernel
theorem dX8_fund_57 : decode cX8_fund 57 = .ok (.iastore, 1) := by decide +kernel
theorem dX8_fund_58 : decode cX8_fund 58 = .ok (.aload_n 0, 1) := by decide +kernel
theorem dX8_fund_59 : decode cX8_fund 59 = .ok (.iload_n 1, 1) := by decide +kernel
theorem dX8_fund_60 : decode cX8_fund 60 = .ok (.iconst 0, 1) := by decide +kernel
theorem dX8_fund_61 : decode cX8_fund 61 = .ok (.invokevirtual 245, 3) := by decide +kernel
theorem dX8_fund_64 : decode cX8_fund 64 = .ok (.ireturn, 1) := by decide +kernel
theorem dX8_undo_0 : decode cX8_undo 0 = .ok (.aload_n 0, 1) := by decide +kernel
theorem dX8_undo_1 : decode cX8_undo 1 = .ok (.iconst 0, 1) := by decide +kernel
theorem dX8_undo_2 : decode cX8_undo 2 = .ok (.putfield 45, 3) := by decide +kernel
theorem dX8_undo_5 : decode cX8_undo 5 = .ok (.aload_n 0, 1) := by decide +kernel
theorem dX8_undo_6 : decode cX8_undo 6 = .ok (.getfield 320, 3) := by decide +kernel
theorem dX8_undo_9 : decode cX8_undo 9 = .ok (.ifCond .ne 5, 3) := by decide +kernel
theorem dX8_undo_12 : decode cX8_undo 12 = .ok (.iconst (-1), 1) := by decide +kernel
theorem dX8_undo_13 : decode cX8_undo 13 = .ok (.ireturn, 1) := by decide +kernel
theorem dX8_undo_14 : decode cX8_undo 14 = .ok (.aload_n 0, 1) := by decide +kernel
theorem dX8_undo_15 : decode cX8_undo 15 = .ok (.dup, 1) := by decide +kernel
theorem dX8_undo_16 : decode cX8_undo 16 = .ok (.getfield 320, 3) := by decide +kernel
theorem dX8_undo_19 : decode cX8_undo 19 = .ok (.iconst 1, 1) := by decide +kernel
theorem dX8_undo_20 : decode cX8_undo 20 = .ok (.isub, 1) := by decide +kernel
theorem dX8_undo_21 : decode cX8_undo 21 = .ok (.putfield 320, 3) := by decide +kernel
theorem dX8_undo_24 : decode cX8_undo 24 = .ok (.aload_n 0, 1) := by decide +kernel
theorem dX8_undo_25 : decode cX8_undo 25 = .ok (.getfield 31, 3) := by decide +kernel
theorem dX8_undo_28 : decode cX8_undo 28 = .ok (.aload_n 0, 1) := by decide +kernel
theorem dX8_undo_29 : decode cX8_undo 29 = .ok (.getfield 320, 3) := by decide +kernel
theorem dX8_undo_32 : decode cX8_undo 32 = .ok (.aaload, 1) := by decide +kernel
theorem dX8_undo_33 : decode cX8_undo 33 = .ok (.aload_n 0, 1) := by decide +kernel
theorem dX8_undo_34 : decode cX8_undo 34 = .ok (.getfield 17, 3) := by decide +kernel
theorem dX8_undo_37 : decode cX8_undo 37 = .ok (.sipush 1784, 3) := by decide +kernel
theorem dX8_undo_40 : decode cX8_undo 40 = .ok (.invokestatic 193, 3) := by decide +kernel
theorem dX8_undo_43 : decode cX8_undo 43 = .ok (.aload_n 0, 1) := by decide +kernel
theorem dX8_undo_44 : decode cX8_undo 44 = .ok (.getfield 320, 3) := by decide +kernel
theorem dX8_undo_47 : decode cX8_undo 47 = .ok (.ireturn, 1) := by decide +kernel
theorem dX8_checksum_0 : decode cX8_checksum 0 = .ok (.aload_n 0, 1) := by decide +kernel
theorem dX8_checksum_1 : decode cX8_checksum 1 = .ok (.iconst 0, 1) := by decide +kernel
theorem dX8_checksum_2 : decode cX8_checksum 2 = .ok (.putfield 45, 3) := by decide +kernel
theorem dX8_checksum_5 : decode cX8_checksum 5 = .ok (.lconst 0, 1) := by decide +kernel
theorem dX8_checksum_6 : decode cX8_checksum 6 = .ok (.lstore_n 1, 1) := by decide +kernel
theorem dX8_checksum_7 : decode cX8_checksum 7 = .ok (.iconst 0, 1) := by decide +kernel
theorem dX8_checksum_8 : decode cX8_checksum 8 = .ok (.istore_n 3, 1) := by decide +kernel
theorem dX8_checksum_9 : decode cX8_checksum 9 = .ok (.iload_n 3, 1) := by decide +kernel
theorem dX8_checksum_10 : decode cX8_checksum 10 = .ok (.bipush 10, 2) := by decide +kernel
theorem dX8_checksum_12 : decode cX8_checksum 12 = .ok (.if_icmp .ge 22, 3) := by decide +kernel
theorem dX8_checksum_15 : decode cX8_checksum 15 = .ok (.ldc2_w 323, 3) := by decide +kernel
theorem dX8_checksum_18 : decode cX8_checksum 18 = .ok (.lload_n 1, 1) := by decide +kernel
theorem dX8_checksum_19 : decode cX8_checksum 19 = .ok (.lmul, 1) := by decide +kernel
theorem dX8_checksum_20 : decode cX8_checksum 20 = .ok (.aload_n 0, 1) := by decide +kernel
theorem dX8_checksum_21 : decode cX8_checksum 21 = .ok (.iload_n 3, 1) := by decide +kernel
theorem dX8_checksum_22 : decode cX8_checksum 22 = .ok (.invokevirtual 281, 3) := by decide +kernel
theorem dX8_checksum_25 : decode cX8_checksum 25 = .ok (.i2l, 1) := by decide +kernel
theorem dX8_checksum_26 : decode cX8_checksum 26 = .ok (.ladd, 1) := by decide +kernel
theorem dX8_checksum_27 : decode cX8_checksum 27 = .ok (.lstore_n 1, 1) := by decide +kernel
theorem dX8_checksum_28 : decode cX8_checksum 28 = .ok (.iinc 3 1, 3) := by decide +kernel
theorem dX8_checksum_31 : decode cX8_checksum 31 = .ok (.goto (-22), 3) := by decide +kernel
theorem dX8_checksum_34 : decode cX8_checksum 34 = .ok (.iconst 0, 1) := by decide +kernel
theorem dX8_checksum_35 : decode cX8_checksum 35 = .ok (.istore_n 3, 1) := by decide +kernel
theorem dX8_checksum_36 : decode cX8_checksum 36 = .ok (.iload_n 3, 1) := by decide +kernel
theorem dX8_checksum_37 : decode cX8_checksum 37 = .ok (.aload_n 0, 1) := by decide +kernel
theorem dX8_checksum_38 : decode cX8_checksum 38 = .ok (.getfield 17, 3) := by decide +kernel
theorem dX8_checksum_41 : decode cX8_checksum 41 = .ok (.iconst 1, 1) := by decide +kernel
theorem dX8_checksum_42 : decode cX8_checksum 42 = .ok (.iaload, 1) := by decide +kernel
theorem dX8_checksum_43 : decode cX8_checksum 43 = .ok (.if_icmp .ge 40, 3) := by decide +kernel
theorem dX8_checksum_46 : decode cX8_checksum 46 = .ok (.iconst 0, 1) := by decide +kernel
theorem dX8_checksum_47 : decode cX8_checksum 47 = .ok (.istore 4, 2) := by decide +kernel
theorem dX8_checksum_49 : decode cX8_checksum 49 = .ok (.iload 4, 2) := by decide +kernel
theorem dX8_checksum_51 : decode cX8_checksum 51 = .ok (.bipush 8, 2) := by decide +kernel
theorem dX8_checksum_53 : decode cX8_checksum 53 = .ok (.if_icmp .ge 24, 3) := by decide +kernel
theorem dX8_checksum_56 : decode cX8_checksum 56 = .ok (.ldc2_w 323, 3) := by decide +kernel
theorem dX8_checksum_59 : decode cX8_checksum 59 = .ok (.lload_n 1, 1) := by decide +kernel
theorem dX8_checksum_60 : decode cX8_checksum 60 = .ok (.lmul, 1) := by decide +kernel
theorem dX8_checksum_61 : decode cX8_checksum 61 = .ok (.aload_n 0, 1) := by decide +kernel
theorem dX8_checksum_62 : decode cX8_checksum 62 = .ok (.iload_n 3, 1) := by decide +kernel
theorem dX8_checksum_63 : decode cX8_checksum 63 = .ok (.iload 4, 2) := by decide +kernel
theorem dX8_checksum_65 : decode cX8_checksum 65 = .ok (.invokevirtual 293, 3) := by decide +kernel
theorem dX8_checksum_68 : decode cX8_checksum 68 = .ok (.i2l, 1) := by decide +kernel
theorem dX8_checksum_69 : decode cX8_checksum 69 = .ok (.ladd, 1) := by decide +kernel
theorem dX8_checksum_70 : decode cX8_checksum 70 = .ok (.lstore_n 1, 1) := by decide +kernel
theorem dX8_checksum_71 : decode cX8_checksum 71 = .ok (.iinc 4 1, 3) := by decide +kernel
theorem dX8_checksum_74 : decode cX8_checksum 74 = .ok (.goto (-25), 3) := by decide +kernel
theorem dX8_checksum_77 : decode cX8_checksum 77 = .ok (.iinc 3 1, 3) := by decide +kernel
theorem dX8_checksum_80 : decode cX8_checksum 80 = .ok (.goto (-44), 3) := by decide +kernel
theorem dX8_checksum_83 : decode cX8_checksum 83 = .ok (.iconst 0, 1) := by decide +kernel
theorem dX8_checksum_84 : decode cX8_checksum 84 = .ok (.istore_n 3, 1) := by decide +kernel
theorem dX8_checksum_85 : decode cX8_checksum 85 = .ok (.iload_n 3, 1) := by decide +kernel
theorem dX8_checksum_86 : decode cX8_checksum 86 = .ok (.aload_n 0, 1) := by decide +kernel
theorem dX8_checksum_87 : decode cX8_checksum 87 = .ok (.getfield 17, 3) := by decide +kernel
theorem dX8_checksum_90 : decode cX8_checksum 90 = .ok (.iconst 2, 1) := by decide +kernel
theorem dX8_checksum_91 : decode cX8_checksum 91 = .ok (.iaload, 1) := by decide +kernel
theorem dX8_checksum_92 : decode cX8_checksum 92 = .ok (.if_icmp .ge 76, 3) := by decide +kernel
theorem dX8_checksum_95 : decode cX8_checksum 95 = .ok (.iconst 0, 1) := by decide +kernel
theorem dX8_checksum_96 : decode cX8_checksum 96 = .ok (.istore 4, 2) := by decide +kernel
theorem dX8_checksum_98 : decode cX8_checksum 98 = .ok (.iload 4, 2) := by decide +kernel
theorem dX8_checksum_100 : decode cX8_checksum 100 = .ok (.iconst 5, 1) := by decide +kernel
theorem dX8_checksum_101 : decode cX8_checksum 101 = .ok (.if_icmp .ge 24, 3) := by decide +kernel
theorem dX8_checksum_104 : decode cX8_checksum 104 = .ok (.ldc2_w 323, 3) := by decide +kernel
theorem dX8_checksum_107 : decode cX8_checksum 107 = .ok (.lload_n 1, 1) := by decide +kernel
theorem dX8_checksum_108 : decode cX8_checksum 108 = .ok (.lmul, 1) := by decide +kernel
theorem dX8_checksum_109 : decode cX8_checksum 109 = .ok (.aload_n 0, 1) := by decide +kernel
theorem dX8_checksum_110 : decode cX8_checksum 110 = .ok (.iload_n 3, 1) := by decide +kernel
theorem dX8_checksum_111 : decode cX8_checksum 111 = .ok (.iload 4, 2) := by decide +kernel
theorem dX8_checksum_113 : decode cX8_checksum 113 = .ok (.invokevirtual 299, 3) := by decide +kernel
theorem dX8_checksum_116 : decode cX8_checksum 116 = .ok (.i2l, 1) := by decide +kernel
theorem dX8_checksum_117 : decode cX8_checksum 117 = .ok (.ladd, 1) := by decide +kernel
theorem dX8_checksum_118 : decode cX8_checksum 118 = .ok (.lstore_n 1, 1) := by decide +kernel
theorem dX8_checksum_119 : decode cX8_checksum 119 = .ok (.iinc 4 1, 3) := by decide +kernel
theorem dX8_checksum_122 : decode cX8_checksum 122 = .ok (.goto (-24), 3) := by decide +kernel
theorem dX8_checksum_125 : decode cX8_checksum 125 = .ok (.iconst 0, 1) := by decide +kernel
theorem dX8_checksum_126 : decode cX8_checksum 126 = .ok (.istore 4, 2) := by decide +kernel
theorem dX8_checksum_128 : decode cX8_checksum 128 = .ok (.iload 4, 2) := by decide +kernel
theorem dX8_checksum_130 : decode cX8_checksum 130 = .ok (.aload_n 0, 1) := by decide +kernel
theorem dX8_checksum_131 : decode cX8_checksum 131 = .ok (.iload_n 3, 1) := by decide +kernel
theorem dX8_checksum_132 : decode cX8_checksum 132 = .ok (.iconst 3, 1) := by decide +kernel
theorem dX8_checksum_133 : decode cX8_checksum 133 = .ok (.invokevirtual 222, 3) := by decide +kernel
theorem dX8_checksum_136 : decode cX8_checksum 136 = .ok (.if_icmp .ge 26, 3) := by decide +kernel
theorem dX8_checksum_139 : decode cX8_checksum 139 = .ok (.ldc2_w 323, 3) := by decide +kernel
theorem dX8_checksum_142 : decode cX8_checksum 142 = .ok (.lload_n 1, 1) := by decide +kernel
theorem dX8_checksum_143 : decode cX8_checksum 143 = .ok (.lmul, 1) := by decide +kernel
theorem dX8_checksum_144 : decode cX8_checksum 144 = .ok (.aload_n 0, 1) := by decide +kernel
theorem dX8_checksum_145 : decode cX8_checksum 145 = .ok (.iload_n 3, 1) := by decide +kernel
theorem dX8_checksum_146 : decode cX8_checksum 146 = .ok (.iconst 4, 1) := by decide +kernel
theorem dX8_checksum_147 : decode cX8_checksum 147 = .ok (.iload 4, 2) := by decide +kernel
theorem dX8_checksum_149 : decode cX8_checksum 149 = .ok (.iadd, 1) := by decide +kernel
theorem dX8_checksum_150 : decode cX8_checksum 150 = .ok (.invokevirtual 222, 3) := by decide +kernel
theorem dX8_checksum_153 : decode cX8_checksum 153 = .ok (.i2l, 1) := by decide +kernel
theorem dX8_checksum_154 : decode cX8_checksum 154 = .ok (.ladd, 1) := by decide +kernel
theorem dX8_checksum_155 : decode cX8_checksum 155 = .ok (.lstore_n 1, 1) := by decide +kernel
theorem dX8_checksum_156 : decode cX8_checksum 156 = .ok (.iinc 4 1, 3) := by decide +kernel
theorem dX8_checksum_159 : decode cX8_checksum 159 = .ok (.goto (-31), 3) := by decide +kernel
theorem dX8_checksum_162 : decode cX8_checksum 162 = .ok (.iinc 3 1, 3) := by decide +kernel
theorem dX8_checksum_165 : decode cX8_checksum 165 = .ok (.goto (-80), 3) := by decide +kernel
theorem dX8_checksum_168 : decode cX8_checksum 168 = .ok (.iconst 0, 1) := by decide +kernel
theorem dX8_checksum_169 : decode cX8_checksum 169 = .ok (.istore_n 3, 1) := by decide +kernel
theorem dX8_checksum_170 : decode cX8_checksum 170 = .ok (.iload_n 3, 1) := by decide +kernel
theorem dX8_checksum_171 : decode cX8_checksum 171 = .ok (.aload_n 0, 1) := by decide +kernel
theorem dX8_checksum_172 : decode cX8_checksum 172 = .ok (.getfield 17, 3) := by decide +kernel
theorem dX8_checksum_175 : decode cX8_checksum 175 = .ok (.iconst 3, 1) := by decide +kernel
theorem dX8_checksum_176 : decode cX8_checksum 176 = .ok (.iaload, 1) := by decide +kernel
theorem dX8_checksum_177 : decode cX8_checksum 177 = .ok (.if_icmp .ge 40, 3) := by decide +kernel
theorem dX8_checksum_180 : decode cX8_checksum 180 = .ok (.iconst 0, 1) := by decide +kernel
theorem dX8_checksum_181 : decode cX8_checksum 181 = .ok (.istore 4, 2) := by decide +kernel
theorem dX8_checksum_183 : decode cX8_checksum 183 = .ok (.iload 4, 2) := by decide +kernel
theorem dX8_checksum_185 : decode cX8_checksum 185 = .ok (.bipush 7, 2) := by decide +kernel
theorem dX8_checksum_187 : decode cX8_checksum 187 = .ok (.if_icmp .ge 24, 3) := by decide +kernel
theorem dX8_checksum_190 : decode cX8_checksum 190 = .ok (.ldc2_w 323, 3) := by decide +kernel
theorem dX8_checksum_193 : decode cX8_checksum 193 = .ok (.lload_n 1, 1) := by decide +kernel
theorem dX8_checksum_194 : decode cX8_checksum 194 = .ok (.lmul, 1) := by decide +kernel
theorem dX8_checksum_195 : decode cX8_checksum 195 = .ok (.aload_n 0, 1) := by decide +kernel
theorem dX8_checksum_196 : decode cX8_checksum 196 = .ok (.iload_n 3, 1) := by decide +kernel
theorem dX8_checksum_197 : decode cX8_checksum 197 = .ok (.iload 4, 2) := by decide +kernel
theorem dX8_checksum_199 : decode cX8_checksum 199 = .ok (.invokevirtual 206, 3) := by decide +kernel
theorem dX8_checksum_202 : decode cX8_checksum 202 = .ok (.i2l, 1) := by decide +kernel
theorem dX8_checksum_203 : decode cX8_checksum 203 = .ok (.ladd, 1) := by decide +kernel
theorem dX8_checksum_204 : decode cX8_checksum 204 = .ok (.lstore_n 1, 1) := by decide +kernel
theorem dX8_checksum_205 : decode cX8_checksum 205 = .ok (.iinc 4 1, 3) := by decide +kernel
theorem dX8_checksum_208 : decode cX8_checksum 208 = .ok (.goto (-25), 3) := by decide +kernel
theorem dX8_checksum_211 : decode cX8_checksum 211 = .ok (.iinc 3 1, 3) := by decide +kernel
theorem dX8_checksum_214 : decode cX8_checksum 214 = .ok (.goto (-44), 3) := by decide +kernel
theorem dX8_checksum_217 : decode cX8_checksum 217 = .ok (.lload_n 1, 1) := by decide +kernel
theorem dX8_checksum_218 : decode cX8_checksum 218 = .ok (.lreturn, 1) := by decide +kernel
theorem dL_load_0 : decode cL_load 0 = .ok (.aload_n 2, 1) := by decide +kernel
theorem dL_load_1 : decode cL_load 1 = .ok (.iconst 0, 1) := by decide +kernel
theorem dL_load_2 : decode cL_load 2 = .ok (.aload_n 0, 1) := by decide +kernel
theorem dL_load_3 : decode cL_load 3 = .ok (.iload_n 1, 1) := by decide +kernel
theorem dL_load_4 : decode cL_load 4 = .ok (.invokevirtual 7, 3) := by decide +kernel
theorem dL_load_7 : decode cL_load 7 = .ok (.i2l, 1) := by decide +kernel
theorem dL_load_8 : decode cL_load 8 = .ok (.lastore, 1) := by decide +kernel
theorem dL_load_9 : decode cL_load 9 = .ok (.goto 6, 3) := by decide +kernel
theorem dL_load_12 : decode cL_load 12 = .ok (.astore_n 3, 1) := by decide +kernel
theorem dL_load_13 : decode cL_load 13 = .ok (.iconst 1, 1) := by decide +kernel
theorem dL_load_14 : decode cL_load 14 = .ok (.ireturn, 1) := by decide +kernel
theorem dL_load_15 : decode cL_load 15 = .ok (.iconst 0, 1) := by decide +kernel
theorem dL_load_16 : decode cL_load 16 = .ok (.ireturn, 1) := by decide +kernel
theorem dL_state_0 : decode cL_state 0 = .ok (.aload_n 2, 1) := by decide +kernel
theorem dL_state_1 : decode cL_state 1 = .ok (.iconst 0, 1) := by decide +kernel
theorem dL_state_2 : decode cL_state 2 = .ok (.aload_n 0, 1) := by decide +kernel
theorem dL_state_3 : decode cL_state 3 = .ok (.iload_n 1, 1) := by decide +kernel
theorem dL_state_4 : decode cL_state 4 = .ok (.invokevirtual 15, 3) := by decide +kernel
theorem dL_state_7 : decode cL_state 7 = .ok (.i2l, 1) := by decide +kernel
theorem dL_state_8 : decode cL_state 8 = .ok (.lastore, 1) := by decide +kernel
theorem dL_state_9 : decode cL_state 9 = .ok (.goto 6, 3) := by decide +kernel
theorem dL_state_12 : decode cL_state 12 = .ok (.astore_n 3, 1) := by decide +kernel
theorem dL_state_13 : decode cL_state 13 = .ok (.iconst 1, 1) := by decide +kernel
theorem dL_state_14 : decode cL_state 14 = .ok (.ireturn, 1) := by decide +kernel
theorem dL_state_15 : decode cL_state 15 = .ok (.iconst 0, 1) := by decide +kernel
theorem dL_state_16 : decode cL_state 16 = .ok (.ireturn, 1) := by decide +kernel
theorem dL_handler_0 : decode cL_handler 0 = .ok (.aload_n 3, 1) := by decide +kernel
theorem dL_handler_1 : decode cL_handler 1 = .ok (.iconst 0, 1) := by decide +kernel
theorem dL_handler_2 : decode cL_handler 2 = .ok (.aload_n 0, 1) := by decide +kernel
theorem dL_handler_3 : decode cL_handler 3 = .ok (.iload_n 1, 1) := by decide +kernel
theorem dL_handler_4 : decode cL_handler 4 = .ok (.iload_n 2, 1) := by decide +kernel
theorem dL_handler_5 : decode cL_handler 5 = .ok (.invokevirtual 18, 3) := by decide +kernel
theorem dL_handler_8 : decode cL_handler 8 = .ok (.i2l, 1) := by decide +kernel
theorem dL_handler_9 : decode cL_handler 9 = .ok (.lastore, 1) := by decide +kernel
theorem dL_handler_10 : decode cL_handler 10 = .ok (.goto 11, 3) := by decide +kernel
theorem dL_handler_13 : decode cL_handler 13 = .ok (.astore 4, 2) := by decide +kernel
theorem dL_handler_15 : decode cL_handler 15 = .ok (.iconst 1, 1) := by decide +kernel
theorem dL_handler_16 : decode cL_handler 16 = .ok (.ireturn, 1) := by decide +kernel
theorem dL_handler_17 : decode cL_handler 17 = .ok (.astore 4, 2) := by decide +kernel
theorem dL_handler_19 : decode cL_handler 19 = .ok (.iconst 2, 1) := by decide +kernel
theorem dL_handler_20 : decode cL_handler 20 = .ok (.ireturn, 1) := by decide +kernel
theorem dL_handler_21 : decode cL_handler 21 = .ok (.iconst 0, 1) := by decide +kernel
theorem dL_handler_22 : decode cL_handler 22 = .ok (.ireturn, 1) := by decide +kernel
theorem dL_line_0 : decode cL_line 0 = .ok (.aload_n 3, 1) := by decide +kernel
theorem dL_line_1 : decode cL_line 1 = .ok (.iconst 0, 1) := by decide +kernel
theorem dL_line_2 : decode cL_line 2 = .ok (.aload_n 0, 1) := by decide +kernel
theorem dL_line_3 : decode cL_line 3 = .ok (.iload_n 1, 1) := by decide +kernel
theorem dL_line_4 : decode cL_line 4 = .ok (.iload_n 2, 1) := by decide +kernel
theorem dL_line_5 : decode cL_line 5 = .ok (.invokevirtual 24, 3) := by decide +kernel
theorem dL_line_8 : decode cL_line 8 = .ok (.i2l, 1) := by decide +kernel
theorem dL_line_9 : decode cL_line 9 = .ok (.lastore, 1) := by decide +kernel
theorem dL_line_10 : decode cL_line 10 = .ok (.goto 11, 3) := by decide +kernel
theorem dL_line_13 : decode cL_line 13 = .ok (.astore 4, 2) := by decide +kernel
theorem dL_line_15 : decode cL_line 15 = .ok (.iconst 1, 1) := by decide +kernel
theorem dL_line_16 : decode cL_line 16 = .ok (.ireturn, 1) := by decide +kernel
theorem dL_line_17 : decode cL_line 17 = .ok (.astore 4, 2) := by decide +kernel
theorem dL_line_19 : decode cL_line 19 = .ok (.iconst 2, 1) := by decide +kernel
theorem dL_line_20 : decode cL_line 20 = .ok (.ireturn, 1) := by decide +kernel
theorem dL_line_21 : decode cL_line 21 = .ok (.iconst 0, 1) := by decide +kernel
theorem dL_line_22 : decode cL_line 22 = .ok (.ireturn, 1) := by decide +kernel
theorem dL_tenant_0 : decode cL_tenant 0 = .ok (.aload_n 3, 1) := by decide +kernel
theorem dL_tenant_1 : decode cL_tenant 1 = .ok (.iconst 0, 1) := by decide +kernel
theorem dL_tenant_2 : decode cL_tenant 2 = .ok (.aload_n 0, 1) := by decide +kernel
theorem dL_tenant_3 : decode cL_tenant 3 = .ok (.iload_n 1, 1) := by decide +kernel
theorem dL_tenant_4 : decode cL_tenant 4 = .ok (.iload_n 2, 1) := by decide +kernel
theorem dL_tenant_5 : decode cL_tenant 5 = .ok (.invokevirtual 27, 3) := by decide +kernel
theorem dL_tenant_8 : decode cL_tenant 8 = .ok (.i2l, 1) := by decide +kernel
theorem dL_tenant_9 : decode cL_tenant 9 = .ok (.lastore, 1) := by decide +kernel
theorem dL_tenant_10 : decode cL_tenant 10 = .ok (.goto 11, 3) := by decide +kernel
theorem dL_tenant_13 : decode cL_tenant 13 = .ok (.astore 4, 2) := by decide +kernel
theorem dL_tenant_15 : decode cL_tenant 15 = .ok (.iconst 1, 1) := by decide +kernel
theorem dL_tenant_16 : decode cL_tenant 16 = .ok (.ireturn, 1) := by decide +kernel
theorem dL_tenant_17 : decode cL_tenant 17 = .ok (.astore 4, 2) := by decide +kernel
theorem dL_tenant_19 : decode cL_tenant 19 = .ok (.iconst 2, 1) := by decide +kernel
theorem dL_tenant_20 : decode cL_tenant 20 = .ok (.ireturn, 1) := by decide +kernel
theorem dL_tenant_21 : decode cL_tenant 21 = .ok (.iconst 0, 1) := by decide +kernel
theorem dL_tenant_22 : decode cL_tenant 22 = .ok (.ireturn, 1) := by decide +kernel
theorem dL_request_0 : decode cL_request 0 = .ok (.aload_n 3, 1) := by decide +kernel
theorem dL_request_1 : decode cL_request 1 = .ok (.iconst 0, 1) := by decide +kernel
theorem dL_request_2 : decode cL_request 2 = .ok (.aload_n 0, 1) := by decide +kernel
theorem dL_request_3 : decode cL_request 3 = .ok (.iload_n 1, 1) := by decide +kernel
theorem dL_request_4 : decode cL_request 4 = .ok (.iload_n 2, 1) := by decide +kernel
theorem dL_request_5 : decode cL_request 5 = .ok (.invokevirtual 32, 3) := by decide +kernel
theorem dL_request_8 : decode cL_request 8 = .ok (.i2l, 1) := by decide +kernel
theorem dL_request_9 : decode cL_request 9 = .ok (.lastore, 1) := by decide +kernel
theorem dL_request_10 : decode cL_request 10 = .ok (.goto 11, 3) := by decide +kernel
theorem dL_request_13 : decode cL_request 13 = .ok (.astore 4, 2) := by decide +kernel
theorem dL_request_15 : decode cL_request 15 = .ok (.iconst 1, 1) := by decide +kernel
theorem dL_request_16 : decode cL_request 16 = .ok (.ireturn, 1) := by decide +kernel
theorem dL_request_17 : decode cL_request 17 = .ok (.astore 4, 2) := by decide +kernel
theorem dL_request_19 : decode cL_request 19 = .ok (.iconst 2, 1) := by decide +kernel
theorem dL_request_20 : decode cL_request 20 = .ok (.ireturn, 1) := by decide +kernel
theorem dL_request_21 : decode cL_request 21 = .ok (.iconst 0, 1) := by decide +kernel
theorem dL_request_22 : decode cL_request 22 = .ok (.ireturn, 1) := by decide +kernel
theorem dL_calm_0 : decode cL_calm 0 = .ok (.aload_n 2, 1) := by decide +kernel
theorem dL_calm_1 : decode cL_calm 1 = .ok (.iconst 0, 1) := by decide +kernel
theorem dL_calm_2 : decode cL_calm 2 = .ok (.aload_n 0, 1) := by decide +kernel
theorem dL_calm_3 : decode cL_calm 3 = .ok (.iload_n 1, 1) := by decide +kernel
theorem dL_calm_4 : decode cL_calm 4 = .ok (.invokevirtual 35, 3) := by decide +kernel
theorem dL_calm_7 : decode cL_calm 7 = .ok (.i2l, 1) := by decide +kernel
theorem dL_calm_8 : decode cL_calm 8 = .ok (.lastore, 1) := by decide +kernel
theorem dL_calm_9 : decode cL_calm 9 = .ok (.goto 6, 3) := by decide +kernel
theorem dL_calm_12 : decode cL_calm 12 = .ok (.astore_n 3, 1) := by decide +kernel
theorem dL_calm_13 : decode cL_calm 13 = .ok (.iconst 1, 1) := by decide +kernel
theorem dL_calm_14 : decode cL_calm 14 = .ok (.ireturn, 1) := by decide +kernel
theorem dL_calm_15 : decode cL_calm 15 = .ok (.iconst 0, 1) := by decide +kernel
theorem dL_calm_16 : decode cL_calm 16 = .ok (.ireturn, 1) := by decide +kernel
theorem dL_endsAt_0 : decode cL_endsAt 0 = .ok (.aload_n 2, 1) := by decide +kernel
theorem dL_endsAt_1 : decode cL_endsAt 1 = .ok (.iconst 0, 1) := by decide +kernel
theorem dL_endsAt_2 : decode cL_endsAt 2 = .ok (.aload_n 0, 1) := by decide +kernel
theorem dL_endsAt_3 : decode cL_endsAt 3 = .ok (.iload_n 1, 1) := by decide +kernel
theorem dL_endsAt_4 : decode cL_endsAt 4 = .ok (.invokevirtual 38, 3) := by decide +kernel
theorem dL_endsAt_7 : decode cL_endsAt 7 = .ok (.i2l, 1) := by decide +kernel
theorem dL_endsAt_8 : decode cL_endsAt 8 = .ok (.lastore, 1) := by decide +kernel
theorem dL_endsAt_9 : decode cL_endsAt 9 = .ok (.goto 6, 3) := by decide +kernel
theorem dL_endsAt_12 : decode cL_endsAt 12 = .ok (.astore_n 3, 1) := by decide +kernel
theorem dL_endsAt_13 : decode cL_endsAt 13 = .ok (.iconst 1, 1) := by decide +kernel
theorem dL_endsAt_14 : decode cL_endsAt 14 = .ok (.ireturn, 1) := by decide +kernel
theorem dL_endsAt_15 : decode cL_endsAt 15 = .ok (.iconst 0, 1) := by decide +kernel
theorem dL_endsAt_16 : decode cL_endsAt 16 = .ok (.ireturn, 1) := by decide +kernel
theorem dL_bankruptIn_0 : decode cL_bankruptIn 0 = .ok (.aload_n 2, 1) := by decide +kernel
theorem dL_bankruptIn_1 : decode cL_bankruptIn 1 = .ok (.iconst 0, 1) := by decide +kernel
theorem dL_bankruptIn_2 : decode cL_bankruptIn 2 = .ok (.aload_n 0, 1) := by decide +kernel
theorem dL_bankruptIn_3 : decode cL_bankruptIn 3 = .ok (.iload_n 1, 1) := by decide +kernel
theorem dL_bankruptIn_4 : decode cL_bankruptIn 4 = .ok (.invokevirtual 41, 3) := by decide +kernel
theorem dL_bankruptIn_7 : decode cL_bankruptIn 7 = .ok (.i2l, 1) := by decide +kernel
theorem dL_bankruptIn_8 : decode cL_bankruptIn 8 = .ok (.lastore, 1) := by decide +kernel
theorem dL_bankruptIn_9 : decode cL_bankruptIn 9 = .ok (.goto 6, 3) := by decide +kernel
theorem dL_bankruptIn_12 : decode cL_bankruptIn 12 = .ok (.astore_n 3, 1) := by decide +kernel
theorem dL_bankruptIn_13 : decode cL_bankruptIn 13 = .ok (.iconst 1, 1) := by decide +kernel
theorem dL_bankruptIn_14 : decode cL_bankruptIn 14 = .ok (.ireturn, 1) := by decide +kernel
theorem dL_bankruptIn_15 : decode cL_bankruptIn 15 = .ok (.iconst 0, 1) := by decide +kernel
theorem dL_bankruptIn_16 : decode cL_bankruptIn 16 = .ok (.ireturn, 1) := by decide +kernel
theorem dL_finesIn_0 : decode cL_finesIn 0 = .ok (.aload_n 2, 1) := by decide +kernel
theorem dL_finesIn_1 : decode cL_finesIn 1 = .ok (.iconst 0, 1) := by decide +kernel
theorem dL_finesIn_2 : decode cL_finesIn 2 = .ok (.aload_n 0, 1) := by decide +kernel
theorem dL_finesIn_3 : decode cL_finesIn 3 = .ok (.iload_n 1, 1) := by decide +kernel
theorem dL_finesIn_4 : decode cL_finesIn 4 = .ok (.invokevirtual 44, 3) := by decide +kernel
theorem dL_finesIn_7 : decode cL_finesIn 7 = .ok (.i2l, 1) := by decide +kernel
theorem dL_finesIn_8 : decode cL_finesIn 8 = .ok (.lastore, 1) := by decide +kernel
theorem dL_finesIn_9 : decode cL_finesIn 9 = .ok (.goto 6, 3) := by decide +kernel
theorem dL_finesIn_12 : decode cL_finesIn 12 = .ok (.astore_n 3, 1) := by decide +kernel
theorem dL_finesIn_13 : decode cL_finesIn 13 = .ok (.iconst 1, 1) := by decide +kernel
theorem dL_finesIn_14 : decode cL_finesIn 14 = .ok (.ireturn, 1) := by decide +kernel
theorem dL_finesIn_15 : decode cL_finesIn 15 = .ok (.iconst 0, 1) := by decide +kernel
theorem dL_finesIn_16 : decode cL_finesIn 16 = .ok (.ireturn, 1) := by decide +kernel
theorem dL_advise_0 : decode cL_advise 0 = .ok (.aload_n 2, 1) := by decide +kernel
theorem dL_advise_1 : decode cL_advise 1 = .ok (.iconst 0, 1) := by decide +kernel
theorem dL_advise_2 : decode cL_advise 2 = .ok (.aload_n 0, 1) := by decide +kernel
theorem dL_advise_3 : decode cL_advise 3 = .ok (.iload_n 1, 1) := by decide +kernel
theorem dL_advise_4 : decode cL_advise 4 = .ok (.invokevirtual 47, 3) := by decide +kernel
theorem dL_advise_7 : decode cL_advise 7 = .ok (.i2l, 1) := by decide +kernel
theorem dL_advise_8 : decode cL_advise 8 = .ok (.lastore, 1) := by decide +kernel
theorem dL_advise_9 : decode cL_advise 9 = .ok (.goto 6, 3) := by decide +kernel
theorem dL_advise_12 : decode cL_advise 12 = .ok (.astore_n 3, 1) := by decide +kernel
theorem dL_advise_13 : decode cL_advise 13 = .ok (.iconst 1, 1) := by decide +kernel
theorem dL_advise_14 : decode cL_advise 14 = .ok (.ireturn, 1) := by decide +kernel
theorem dL_advise_15 : decode cL_advise 15 = .ok (.iconst 0, 1) := by decide +kernel
theorem dL_advise_16 : decode cL_advise 16 = .ok (.ireturn, 1) := by decide +kernel
theorem dL_pass_0 : decode cL_pass 0 = .ok (.aload_n 2, 1) := by decide +kernel
theorem dL_pass_1 : decode cL_pass 1 = .ok (.iconst 0, 1) := by decide +kernel
theorem dL_pass_2 : decode cL_pass 2 = .ok (.aload_n 0, 1) := by decide +kernel
theorem dL_pass_3 : decode cL_pass 3 = .ok (.iload_n 1, 1) := by decide +kernel
theorem dL_pass_4 : decode cL_pass 4 = .ok (.invokevirtual 50, 3) := by decide +kernel
theorem dL_pass_7 : decode cL_pass 7 = .ok (.i2l, 1) := by decide +kernel
theorem dL_pass_8 : decode cL_pass 8 = .ok (.lastore, 1) := by decide +kernel
theorem dL_pass_9 : decode cL_pass 9 = .ok (.goto 6, 3) := by decide +kernel
theorem dL_pass_12 : decode cL_pass 12 = .ok (.astore_n 3, 1) := by decide +kernel
theorem dL_pass_13 : decode cL_pass 13 = .ok (.iconst 1, 1) := by decide +kernel
theorem dL_pass_14 : decode cL_pass 14 = .ok (.ireturn, 1) := by decide +kernel
theorem dL_pass_15 : decode cL_pass 15 = .ok (.iconst 0, 1) := by decide +kernel
theorem dL_pass_16 : decode cL_pass 16 = .ok (.ireturn, 1) := by decide +kernel
theorem dL_raise_0 : decode cL_raise 0 = .ok (.aload_n 3, 1) := by decide +kernel
theorem dL_raise_1 : decode cL_raise 1 = .ok (.iconst 0, 1) := by decide +kernel
theorem dL_raise_2 : decode cL_raise 2 = .ok (.aload_n 0, 1) := by decide +kernel
theorem dL_raise_3 : decode cL_raise 3 = .ok (.iload_n 1, 1) := by decide +kernel
theorem dL_raise_4 : decode cL_raise 4 = .ok (.iload_n 2, 1) := by decide +kernel
theorem dL_raise_5 : decode cL_raise 5 = .ok (.invokevirtual 53, 3) := by decide +kernel
theorem dL_raise_8 : decode cL_raise 8 = .ok (.i2l, 1) := by decide +kernel
theorem dL_raise_9 : decode cL_raise 9 = .ok (.lastore, 1) := by decide +kernel
theorem dL_raise_10 : decode cL_raise 10 = .ok (.goto 15, 3) := by decide +kernel
theorem dL_raise_13 : decode cL_raise 13 = .ok (.astore 4, 2) := by decide +kernel
theorem dL_raise_15 : decode cL_raise 15 = .ok (.iconst 1, 1) := by decide +kernel
theorem dL_raise_16 : decode cL_raise 16 = .ok (.ireturn, 1) := by decide +kernel
theorem dL_raise_17 : decode cL_raise 17 = .ok (.astore 4, 2) := by decide +kernel
theorem dL_raise_19 : decode cL_raise 19 = .ok (.iconst 2, 1) := by decide +kernel
theorem dL_raise_20 : decode cL_raise 20 = .ok (.ireturn, 1) := by decide +kernel
theorem dL_raise_21 : decode cL_raise 21 = .ok (.astore 4, 2) := by decide +kernel
theorem dL_raise_23 : decode cL_raise 23 = .ok (.iconst 3, 1) := by decide +kernel
theorem dL_raise_24 : decode cL_raise 24 = .ok (.ireturn, 1) := by decide +kernel
theorem dL_raise_25 : decode cL_raise 25 = .ok (.iconst 0, 1) := by decide +kernel
theorem dL_raise_26 : decode cL_raise 26 = .ok (.ireturn, 1) := by decide +kernel
theorem dL_lease_0 : decode cL_lease 0 = .ok (.aload_n 3, 1) := by decide +kernel
theorem dL_lease_1 : decode cL_lease 1 = .ok (.iconst 0, 1) := by decide +kernel
theorem dL_lease_2 : decode cL_lease 2 = .ok (.aload_n 0, 1) := by decide +kernel
theorem dL_lease_3 : decode cL_lease 3 = .ok (.iload_n 1, 1) := by decide +kernel
theorem dL_lease_4 : decode cL_lease 4 = .ok (.iload_n 2, 1) := by decide +kernel
theorem dL_lease_5 : decode cL_lease 5 = .ok (.invokevirtual 58, 3) := by decide +kernel
theorem dL_lease_8 : decode cL_lease 8 = .ok (.i2l, 1) := by decide +kernel
theorem dL_lease_9 : decode cL_lease 9 = .ok (.lastore, 1) := by decide +kernel
theorem dL_lease_10 : decode cL_lease 10 = .ok (.goto 7, 3) := by decide +kernel
theorem dL_lease_13 : decode cL_lease 13 = .ok (.astore 4, 2) := by decide +kernel
theorem dL_lease_15 : decode cL_lease 15 = .ok (.iconst 1, 1) := by decide +kernel
theorem dL_lease_16 : decode cL_lease 16 = .ok (.ireturn, 1) := by decide +kernel
theorem dL_lease_17 : decode cL_lease 17 = .ok (.iconst 0, 1) := by decide +kernel
theorem dL_lease_18 : decode cL_lease 18 = .ok (.ireturn, 1) := by decide +kernel
theorem dL_release_0 : decode cL_release 0 = .ok (.aload_n 3, 1) := by decide +kernel
theorem dL_release_1 : decode cL_release 1 = .ok (.iconst 0, 1) := by decide +kernel
theorem dL_release_2 : decode cL_release 2 = .ok (.aload_n 0, 1) := by decide +kernel
theorem dL_release_3 : decode cL_release 3 = .ok (.iload_n 1, 1) := by decide +kernel
theorem dL_release_4 : decode cL_release 4 = .ok (.iload_n 2, 1) := by decide +kernel
theorem dL_release_5 : decode cL_release 5 = .ok (.invokevirtual 61, 3) := by decide +kernel
theorem dL_release_8 : decode cL_release 8 = .ok (.i2l, 1) := by decide +kernel
theorem dL_release_9 : decode cL_release 9 = .ok (.lastore, 1) := by decide +kernel
theorem dL_release_10 : decode cL_release 10 = .ok (.goto 7, 3) := by decide +kernel
theorem dL_release_13 : decode cL_release 13 = .ok (.astore 4, 2) := by decide +kernel
theorem dL_release_15 : decode cL_release 15 = .ok (.iconst 1, 1) := by decide +kernel
theorem dL_release_16 : decode cL_release 16 = .ok (.ireturn, 1) := by decide +kernel
theorem dL_release_17 : decode cL_release 17 = .ok (.iconst 0, 1) := by decide +kernel
theorem dL_release_18 : decode cL_release 18 = .ok (.ireturn, 1) := by decide +kernel
theorem dL_fund_0 : decode cL_fund 0 = .ok (.aload_n 3, 1) := by decide +kernel
theorem dL_fund_1 : decode cL_fund 1 = .ok (.iconst 0, 1) := by decide +kernel
theorem dL_fund_2 : decode cL_fund 2 = .ok (.aload_n 0, 1) := by decide +kernel
theorem dL_fund_3 : decode cL_fund 3 = .ok (.iload_n 1, 1) := by decide +kernel
theorem dL_fund_4 : decode cL_fund 4 = .ok (.iload_n 2, 1) := by decide +kernel
theorem dL_fund_5 : decode cL_fund 5 = .ok (.invokevirtual 64, 3) := by decide +kernel
theorem dL_fund_8 : decode cL_fund 8 = .ok (.i2l, 1) := by decide +kernel
theorem dL_fund_9 : decode cL_fund 9 = .ok (.lastore, 1) := by decide +kernel
theorem dL_fund_10 : decode cL_fund 10 = .ok (.goto 11, 3) := by decide +kernel
theorem dL_fund_13 : decode cL_fund 13 = .ok (.astore 4, 2) := by decide +kernel
theorem dL_fund_15 : decode cL_fund 15 = .ok (.iconst 1, 1) := by decide +kernel
theorem dL_fund_16 : decode cL_fund 16 = .ok (.ireturn, 1) := by decide +kernel
theorem dL_fund_17 : decode cL_fund 17 = .ok (.astore 4, 2) := by decide +kernel
theorem dL_fund_19 : decode cL_fund 19 = .ok (.iconst 2, 1) := by decide +kernel
theorem dL_fund_20 : decode cL_fund 20 = .ok (.ireturn, 1) := by decide +kernel
theorem dL_fund_21 : decode cL_fund 21 = .ok (.iconst 0, 1) := by decide +kernel
theorem dL_fund_22 : decode cL_fund 22 = .ok (.ireturn, 1) := by decide +kernel
theorem dL_law_0 : decode cL_law 0 = .ok (.new 8, 3) := by decide +kernel
theorem dL_law_3 : decode cL_law 3 = .ok (.dup, 1) := by decide +kernel
theorem dL_law_4 : decode cL_law 4 = .ok (.invokespecial 67, 3) := by decide +kernel
theorem dL_law_7 : decode cL_law 7 = .ok (.astore_n 1, 1) := by decide +kernel
theorem dL_law_8 : decode cL_law 8 = .ok (.new 68, 3) := by decide +kernel
theorem dL_law_11 : decode cL_law 11 = .ok (.dup, 1) := by decide +kernel
theorem dL_law_12 : decode cL_law 12 = .ok (.invokespecial 70, 3) := by decide +kernel
theorem dL_law_15 : decode cL_law 15 = .ok (.astore_n 2, 1) := by decide +kernel
theorem dL_law_16 : decode cL_law 16 = .ok (.iconst 1, 1) := by decide +kernel
theorem dL_law_17 : decode cL_law 17 = .ok (.newarray .long, 2) := by decide +kernel
theorem dL_law_19 : decode cL_law 19 = .ok (.astore_n 3, 1) := by decide +kernel
theorem dL_law_20 : decode cL_law 20 = .ok (.iconst 0, 1) := by decide +kernel
theorem dL_law_21 : decode cL_law 21 = .ok (.istore 4, 2) := by decide +kernel
theorem dL_law_23 : decode cL_law 23 = .ok (.iload 4, 2) := by decide +kernel
theorem dL_law_25 : decode cL_law 25 = .ok (.aload_n 0, 1) := by decide +kernel
theorem dL_law_26 : decode cL_law 26 = .ok (.arraylength, 1) := by decide +kernel
theorem dL_law_27 : decode cL_law 27 = .ok (.bipush 6, 2) := by decide +kernel
theorem dL_law_29 : decode cL_law 29 = .ok (.isub, 1) := by decide +kernel
theorem dL_law_30 : decode cL_law 30 = .ok (.if_icmp .gt 1217, 3) := by decide +kernel
theorem dL_law_33 : decode cL_law 33 = .ok (.aload_n 0, 1) := by decide +kernel
theorem dL_law_34 : decode cL_law 34 = .ok (.iload 4, 2) := by decide +kernel
theorem dL_law_36 : decode cL_law 36 = .ok (.iaload, 1) := by decide +kernel
theorem dL_law_37 : decode cL_law 37 = .ok (.bipush 31, 2) := by decide +kernel
theorem dL_law_39 : decode cL_law 39 = .ok (.iand, 1) := by decide +kernel
theorem dL_law_40 : decode cL_law 40 = .ok (.tableswitch 1201 0 19 #[96, 169, 225, 238, 294, 362, 430, 498, 566, 622, 678, 734, 790, 846, 902, 970, 1038, 1106, 1174, 1187], 96) := by decide +kernel
theorem dL_law_136 : decode cL_law 136 = .ok (.aload_n 1, 1) := by decide +kernel
theorem dL_law_137 : decode cL_law 137 = .ok (.aload_n 0, 1) := by decide +kernel
theorem dL_law_138 : decode cL_law 138 = .ok (.iload 4, 2) := by decide +kernel
theorem dL_law_140 : decode cL_law 140 = .ok (.iconst 1, 1) := by decide +kernel
theorem dL_law_141 : decode cL_law 141 = .ok (.iadd, 1) := by decide +kernel
theorem dL_law_142 : decode cL_law 142 = .ok (.iaload, 1) := by decide +kernel
theorem dL_law_143 : decode cL_law 143 = .ok (.aload_n 0, 1) := by decide +kernel
theorem dL_law_144 : decode cL_law 144 = .ok (.iload 4, 2) := by decide +kernel
theorem dL_law_146 : decode cL_law 146 = .ok (.iconst 2, 1) := by decide +kernel
theorem dL_law_147 : decode cL_law 147 = .ok (.iadd, 1) := by decide +kernel
theorem dL_law_148 : decode cL_law 148 = .ok (.iaload, 1) := by decide +kernel
theorem dL_law_149 : decode cL_law 149 = .ok (.aload_n 0, 1) := by decide +kernel
theorem dL_law_150 : decode cL_law 150 = .ok (.iload 4, 2) := by decide +kernel
theorem dL_law_152 : decode cL_law 152 = .ok (.iconst 3, 1) := by decide +kernel
theorem dL_law_153 : decode cL_law 153 = .ok (.iadd, 1) := by decide +kernel
theorem dL_law_154 : decode cL_law 154 = .ok (.iaload, 1) := by decide +kernel
theorem dL_law_155 : decode cL_law 155 = .ok (.aload_n 0, 1) := by decide +kernel
theorem dL_law_156 : decode cL_law 156 = .ok (.iload 4, 2) := by decide +kernel
theorem dL_law_158 : decode cL_law 158 = .ok (.iconst 4, 1) := by decide +kernel
theorem dL_law_159 : decode cL_law 159 = .ok (.iadd, 1) := by decide +kernel
theorem dL_law_160 : decode cL_law 160 = .ok (.iaload, 1) := by decide +kernel
theorem dL_law_161 : decode cL_law 161 = .ok (.aload_n 0, 1) := by decide +kernel
theorem dL_law_162 : decode cL_law 162 = .ok (.iload 4, 2) := by decide +kernel
theorem dL_law_164 : decode cL_law 164 = .ok (.iconst 5, 1) := by decide +kernel
theorem dL_law_165 : decode cL_law 165 = .ok (.iadd, 1) := by decide +kernel
theorem dL_law_166 : decode cL_law 166 = .ok (.iaload, 1) := by decide +kernel
theorem dL_law_167 : decode cL_law 167 = .ok (.invokevirtual 71, 3) := by decide +kernel
theorem dL_law_170 : decode cL_law 170 = .ok (.aload_n 2, 1) := by decide +kernel
theorem dL_law_171 : decode cL_law 171 = .ok (.aload_n 0, 1) := by decide +kernel
theorem dL_law_172 : decode cL_law 172 = .ok (.iload 4, 2) := by decide +kernel
theorem dL_law_174 : decode cL_law 174 = .ok (.iconst 1, 1) := by decide +kernel
theorem dL_law_175 : decode cL_law 175 = .ok (.iadd, 1) := by decide +kernel
theorem dL_law_176 : decode cL_law 176 = .ok (.iaload, 1) := by decide +kernel
theorem dL_law_177 : decode cL_law 177 = .ok (.aload_n 0, 1) := by decide +kernel
theorem dL_law_178 : decode cL_law 178 = .ok (.iload 4, 2) := by decide +kernel
theorem dL_law_180 : decode cL_law 180 = .ok (.iconst 2, 1) := by decide +kernel
theorem dL_law_181 : decode cL_law 181 = .ok (.iadd, 1) := by decide +kernel
theorem dL_law_182 : decode cL_law 182 = .ok (.iaload, 1) := by decide +kernel
theorem dL_law_183 : decode cL_law 183 = .ok (.aload_n 0, 1) := by decide +kernel
theorem dL_law_184 : decode cL_law 184 = .ok (.iload 4, 2) := by decide +kernel
theorem dL_law_186 : decode cL_law 186 = .ok (.iconst 3, 1) := by decide +kernel
theorem dL_law_187 : decode cL_law 187 = .ok (.iadd, 1) := by decide +kernel
theorem dL_law_188 : decode cL_law 188 = .ok (.iaload, 1) := by decide +kernel
theorem dL_law_189 : decode cL_law 189 = .ok (.aload_n 0, 1) := by decide +kernel
theorem dL_law_190 : decode cL_law 190 = .ok (.iload 4, 2) := by decide +kernel
theorem dL_law_192 : decode cL_law 192 = .ok (.iconst 4, 1) := by decide +kernel
theorem dL_law_193 : decode cL_law 193 = .ok (.iadd, 1) := by decide +kernel
theorem dL_law_194 : decode cL_law 194 = .ok (.iaload, 1) := by decide +kernel
theorem dL_law_195 : decode cL_law 195 = .ok (.aload_n 0, 1) := by decide +kernel
theorem dL_law_196 : decode cL_law 196 = .ok (.iload 4, 2) := by decide +kernel
theorem dL_law_198 : decode cL_law 198 = .ok (.iconst 5, 1) := by decide +kernel
theorem dL_law_199 : decode cL_law 199 = .ok (.iadd, 1) := by decide +kernel
theorem dL_law_200 : decode cL_law 200 = .ok (.iaload, 1) := by decide +kernel
theorem dL_law_201 : decode cL_law 201 = .ok (.invokevirtual 75, 3) := by decide +kernel
theorem dL_law_204 : decode cL_law 204 = .ok (.if_icmp .eq 1037, 3) := by decide +kernel
theorem dL_law_207 : decode cL_law 207 = .ok (.iconst 0, 1) := by decide +kernel
theorem dL_law_208 : decode cL_law 208 = .ok (.ireturn, 1) := by decide +kernel
theorem dL_law_209 : decode cL_law 209 = .ok (.aload_n 1, 1) := by decide +kernel
theorem dL_law_210 : decode cL_law 210 = .ok (.aload_n 0, 1) := by decide +kernel
theorem dL_law_211 : decode cL_law 211 = .ok (.iload 4, 2) := by decide +kernel
theorem dL_law_213 : decode cL_law 213 = .ok (.iconst 1, 1) := by decide +kernel
theorem dL_law_214 : decode cL_law 214 = .ok (.iadd, 1) := by decide +kernel
theorem dL_law_215 : decode cL_law 215 = .ok (.iaload, 1) := by decide +kernel
theorem dL_law_216 : decode cL_law 216 = .ok (.aload_n 3, 1) := by decide +kernel
theorem dL_law_217 : decode cL_law 217 = .ok (.invokestatic 76, 3) := by decide +kernel
theorem dL_law_220 : decode cL_law 220 = .ok (.istore 5, 2) := by decide +kernel
theorem dL_law_222 : decode cL_law 222 = .ok (.aload_n 2, 1) := by decide +kernel
theorem dL_law_223 : decode cL_law 223 = .ok (.aload_n 0, 1) := by decide +kernel
theorem dL_law_224 : decode cL_law 224 = .ok (.iload 4, 2) := by decide +kernel
theorem dL_law_226 : decode cL_law 226 = .ok (.iconst 1, 1) := by decide +kernel
theorem dL_law_227 : decode cL_law 227 = .ok (.iadd, 1) := by decide +kernel
theorem dL_law_228 : decode cL_law 228 = .ok (.iaload, 1) := by decide +kernel
theorem dL_law_229 : decode cL_law 229 = .ok (.invokevirtual 81, 3) := by decide +kernel
theorem dL_law_232 : decode cL_law 232 = .ok (.istore 6, 2) := by decide +kernel
theorem dL_law_234 : decode cL_law 234 = .ok (.aload_n 2, 1) := by decide +kernel
theorem dL_law_235 : decode cL_law 235 = .ok (.invokevirtual 82, 3) := by decide +kernel
theorem dL_law_238 : decode cL_law 238 = .ok (.iload 5, 2) := by decide +kernel
theorem dL_law_240 : decode cL_law 240 = .ok (.if_icmp .eq 5, 3) := by decide +kernel
theorem dL_law_243 : decode cL_law 243 = .ok (.iconst 0, 1) := by decide +kernel
theorem dL_law_244 : decode cL_law 244 = .ok (.ireturn, 1) := by decide +kernel
theorem dL_law_245 : decode cL_law 245 = .ok (.iload 5, 2) := by decide +kernel
theorem dL_law_247 : decode cL_law 247 = .ok (.ifCond .ne 15, 3) := by decide +kernel
theorem dL_law_250 : decode cL_law 250 = .ok (.aload_n 3, 1) := by decide +kernel
theorem dL_law_251 : decode cL_law 251 = .ok (.iconst 0, 1) := by decide +kernel
theorem dL_law_252 : decode cL_law 252 = .ok (.laload, 1) := by decide +kernel
theorem dL_law_253 : decode cL_law 253 = .ok (.iload 6, 2) := by decide +kernel
theorem dL_law_255 : decode cL_law 255 = .ok (.i2l, 1) := by decide +kernel
theorem dL_law_256 : decode cL_law 256 = .ok (.lcmp, 1) := by decide +kernel
theorem dL_law_257 : decode cL_law 257 = .ok (.ifCond .eq 5, 3) := by decide +kernel
theorem dL_law_260 : decode cL_law 260 = .ok (.iconst 0, 1) := by decide +kernel
theorem dL_law_261 : decode cL_law 261 = .ok (.ireturn, 1) := by decide +kernel
theorem dL_law_262 : decode cL_law 262 = .ok (.goto 979, 3) := by decide +kernel
theorem dL_law_265 : decode cL_law 265 = .ok (.aload_n 1, 1) := by decide +kernel
theorem dL_law_266 : decode cL_law 266 = .ok (.invokevirtual 86, 3) := by decide +kernel
theorem dL_law_269 : decode cL_law 269 = .ok (.aload_n 2, 1) := by decide +kernel
theorem dL_law_270 : decode cL_law 270 = .ok (.invokevirtual 89, 3) := by decide +kernel
theorem dL_law_273 : decode cL_law 273 = .ok (.if_icmp .eq 968, 3) := by decide +kernel
theorem dL_law_276 : decode cL_law 276 = .ok (.iconst 0, 1) := by decide +kernel
theorem dL_law_277 : decode cL_law 277 = .ok (.ireturn, 1) := by decide +kernel
theorem dL_law_278 : decode cL_law 278 = .ok (.aload_n 1, 1) := by decide +kernel
theorem dL_law_279 : decode cL_law 279 = .ok (.aload_n 0, 1) := by decide +kernel
theorem dL_law_280 : decode cL_law 280 = .ok (.iload 4, 2) := by decide +kernel
theorem dL_law_282 : decode cL_law 282 = .ok (.iconst 1, 1) := by decide +kernel
theorem dL_law_283 : decode cL_law 283 = .ok (.iadd, 1) := by decide +kernel
theorem dL_law_284 : decode cL_law 284 = .ok (.iaload, 1) := by decide +kernel
theorem dL_law_285 : decode cL_law 285 = .ok (.aload_n 3, 1) := by decide +kernel
theorem dL_law_286 : decode cL_law 286 = .ok (.invokestatic 90, 3) := by decide +kernel
theorem dL_law_289 : decode cL_law 289 = .ok (.istore 5, 2) := by decide +kernel
theorem dL_law_291 : decode cL_law 291 = .ok (.aload_n 2, 1) := by decide +kernel
theorem dL_law_292 : decode cL_law 292 = .ok (.aload_n 0, 1) := by decide +kernel
theorem dL_law_293 : decode cL_law 293 = .ok (.iload 4, 2) := by decide +kernel
theorem dL_law_295 : decode cL_law 295 = .ok (.iconst 1, 1) := by decide +kernel
theorem dL_law_296 : decode cL_law 296 = .ok (.iadd, 1) := by decide +kernel
theorem dL_law_297 : decode cL_law 297 = .ok (.iaload, 1) := by decide +kernel
theorem dL_law_298 : decode cL_law 298 = .ok (.invokevirtual 92, 3) := by decide +kernel
theorem dL_law_301 : decode cL_law 301 = .ok (.istore 6, 2) := by decide +kernel
theorem dL_law_303 : decode cL_law 303 = .ok (.aload_n 2, 1) := by decide +kernel
theorem dL_law_304 : decode cL_law 304 = .ok (.invokevirtual 82, 3) := by decide +kernel
theorem dL_law_307 : decode cL_law 307 = .ok (.iload 5, 2) := by decide +kernel
theorem dL_law_309 : decode cL_law 309 = .ok (.if_icmp .eq 5, 3) := by decide +kernel
theorem dL_law_312 : decode cL_law 312 = .ok (.iconst 0, 1) := by decide +kernel
theorem dL_law_313 : decode cL_law 313 = .ok (.ireturn, 1) := by decide +kernel
theorem dL_law_314 : decode cL_law 314 = .ok (.iload 5, 2) := by decide +kernel
theorem dL_law_316 : decode cL_law 316 = .ok (.ifCond .ne 15, 3) := by decide +kernel
theorem dL_law_319 : decode cL_law 319 = .ok (.aload_n 3, 1) := by decide +kernel
theorem dL_law_320 : decode cL_law 320 = .ok (.iconst 0, 1) := by decide +kernel
theorem dL_law_321 : decode cL_law 321 = .ok (.laload, 1) := by decide +kernel
theorem dL_law_322 : decode cL_law 322 = .ok (.iload 6, 2) := by decide +kernel
theorem dL_law_324 : decode cL_law 324 = .ok (.i2l, 1) := by decide +kernel
theorem dL_law_325 : decode cL_law 325 = .ok (.lcmp, 1) := by decide +kernel
theorem dL_law_326 : decode cL_law 326 = .ok (.ifCond .eq 5, 3) := by decide +kernel
theorem dL_law_329 : decode cL_law 329 = .ok (.iconst 0, 1) := by decide +kernel
theorem dL_law_330 : decode cL_law 330 = .ok (.ireturn, 1) := by decide +kernel
theorem dL_law_331 : decode cL_law 331 = .ok (.goto 910, 3) := by decide +kernel
theorem dL_law_334 : decode cL_law 334 = .ok (.aload_n 1, 1) := by decide +kernel
theorem dL_law_335 : decode cL_law 335 = .ok (.aload_n 0, 1) := by decide +kernel
theorem dL_law_336 : decode cL_law 336 = .ok (.iload 4, 2) := by decide +kernel
theorem dL_law_338 : decode cL_law 338 = .ok (.iconst 1, 1) := by decide +kernel
theorem dL_law_339 : decode cL_law 339 = .ok (.iadd, 1) := by decide +kernel
theorem dL_law_340 : decode cL_law 340 = .ok (.iaload, 1) := by decide +kernel
theorem dL_law_341 : decode cL_law 341 = .ok (.aload_n 0, 1) := by decide +kernel
theorem dL_law_342 : decode cL_law 342 = .ok (.iload 4, 2) := by decide +kernel
theorem dL_law_344 : decode cL_law 344 = .ok (.iconst 2, 1) := by decide +kernel
theorem dL_law_345 : decode cL_law 345 = .ok (.iadd, 1) := by decide +kernel
theorem dL_law_346 : decode cL_law 346 = .ok (.iaload, 1) := by decide +kernel
theorem dL_law_347 : decode cL_law 347 = .ok (.aload_n 3, 1) := by decide +kernel
theorem dL_law_348 : decode cL_law 348 = .ok (.invokestatic 93, 3) := by decide +kernel
theorem dL_law_351 : decode cL_law 351 = .ok (.istore 5, 2) := by decide +kernel
theorem dL_law_353 : decode cL_law 353 = .ok (.aload_n 2, 1) := by decide +kernel
theorem dL_law_354 : decode cL_law 354 = .ok (.aload_n 0, 1) := by decide +kernel
theorem dL_law_355 : decode cL_law 355 = .ok (.iload 4, 2) := by decide +kernel
theorem dL_law_357 : decode cL_law 357 = .ok (.iconst 1, 1) := by decide +kernel
theorem dL_law_358 : decode cL_law 358 = .ok (.iadd, 1) := by decide +kernel
theorem dL_law_359 : decode cL_law 359 = .ok (.iaload, 1) := by decide +kernel
theorem dL_law_360 : decode cL_law 360 = .ok (.aload_n 0, 1) := by decide +kernel
theorem dL_law_361 : decode cL_law 361 = .ok (.iload 4, 2) := by decide +kernel
theorem dL_law_363 : decode cL_law 363 = .ok (.iconst 2, 1) := by decide +kernel
theorem dL_law_364 : decode cL_law 364 = .ok (.iadd, 1) := by decide +kernel
theorem dL_law_365 : decode cL_law 365 = .ok (.iaload, 1) := by decide +kernel
theorem dL_law_366 : decode cL_law 366 = .ok (.invokevirtual 96, 3) := by decide +kernel
theorem dL_law_369 : decode cL_law 369 = .ok (.istore 6, 2) := by decide +kernel
theorem dL_law_371 : decode cL_law 371 = .ok (.aload_n 2, 1) := by decide +kernel
theorem dL_law_372 : decode cL_law 372 = .ok (.invokevirtual 82, 3) := by decide +kernel
theorem dL_law_375 : decode cL_law 375 = .ok (.iload 5, 2) := by decide +kernel
theorem dL_law_377 : decode cL_law 377 = .ok (.if_icmp .eq 5, 3) := by decide +kernel
theorem dL_law_380 : decode cL_law 380 = .ok (.iconst 0, 1) := by decide +kernel
theorem dL_law_381 : decode cL_law 381 = .ok (.ireturn, 1) := by decide +kernel
theorem dL_law_382 : decode cL_law 382 = .ok (.iload 5, 2) := by decide +kernel
theorem dL_law_384 : decode cL_law 384 = .ok (.ifCond .ne 15, 3) := by decide +kernel
theorem dL_law_387 : decode cL_law 387 = .ok (.aload_n 3, 1) := by decide +kernel
theorem dL_law_388 : decode cL_law 388 = .ok (.iconst 0, 1) := by decide +kernel
theorem dL_law_389 : decode cL_law 389 = .ok (.laload, 1) := by decide +kernel
theorem dL_law_390 : decode cL_law 390 = .ok (.iload 6, 2) := by decide +kernel
theorem dL_law_392 : decode cL_law 392 = .ok (.i2l, 1) := by decide +kernel
theorem dL_law_393 : decode cL_law 393 = .ok (.lcmp, 1) := by decide +kernel
theorem dL_law_394 : decode cL_law 394 = .ok (.ifCond .eq 5, 3) := by decide +kernel
theorem dL_law_397 : decode cL_law 397 = .ok (.iconst 0, 1) := by decide +kernel
theorem dL_law_398 : decode cL_law 398 = .ok (.ireturn, 1) := by decide +kernel
theorem dL_law_399 : decode cL_law 399 = .ok (.goto 842, 3) := by decide +kernel
theorem dL_law_402 : decode cL_law 402 = .ok (.aload_n 1, 1) := by decide +kernel
theorem dL_law_403 : decode cL_law 403 = .ok (.aload_n 0, 1) := by decide +kernel
theorem dL_law_404 : decode cL_law 404 = .ok (.iload 4, 2) := by decide +kernel
theorem dL_law_406 : decode cL_law 406 = .ok (.iconst 1, 1) := by decide +kernel
theorem dL_law_407 : decode cL_law 407 = .ok (.iadd, 1) := by decide +kernel
theorem dL_law_408 : decode cL_law 408 = .ok (.iaload, 1) := by decide +kernel
theorem dL_law_409 : decode cL_law 409 = .ok (.aload_n 0, 1) := by decide +kernel
theorem dL_law_410 : decode cL_law 410 = .ok (.iload 4, 2) := by decide +kernel
theorem dL_law_412 : decode cL_law 412 = .ok (.iconst 2, 1) := by decide +kernel
theorem dL_law_413 : decode cL_law 413 = .ok (.iadd, 1) := by decide +kernel
theorem dL_law_414 : decode cL_law 414 = .ok (.iaload, 1) := by decide +kernel
theorem dL_law_415 : decode cL_law 415 = .ok (.aload_n 3, 1) := by decide +kernel
theorem dL_law_416 : decode cL_law 416 = .ok (.invokestatic 97, 3) := by decide +kernel
theorem dL_law_419 : decode cL_law 419 = .ok (.istore 5, 2) := by decide +kernel
theorem dL_law_421 : decode cL_law 421 = .ok (.aload_n 2, 1) := by decide +kernel
theorem dL_law_422 : decode cL_law 422 = .ok (.aload_n 0, 1) := by decide +kernel
theorem dL_law_423 : decode cL_law 423 = .ok (.iload 4, 2) := by decide +kernel
theorem dL_law_425 : decode cL_law 425 = .ok (.iconst 1, 1) := by decide +kernel
theorem dL_law_426 : decode cL_law 426 = .ok (.iadd, 1) := by decide +kernel
theorem dL_law_427 : decode cL_law 427 = .ok (.iaload, 1) := by decide +kernel
theorem dL_law_428 : decode cL_law 428 = .ok (.aload_n 0, 1) := by decide +kernel
theorem dL_law_429 : decode cL_law 429 = .ok (.iload 4, 2) := by decide +kernel
theorem dL_law_431 : decode cL_law 431 = .ok (.iconst 2, 1) := by decide +kernel
theorem dL_law_432 : decode cL_law 432 = .ok (.iadd, 1) := by decide +kernel
theorem dL_law_433 : decode cL_law 433 = .ok (.iaload, 1) := by decide +kernel
theorem dL_law_434 : decode cL_law 434 = .ok (.invokevirtual 99, 3) := by decide +kernel
theorem dL_law_437 : decode cL_law 437 = .ok (.istore 6, 2) := by decide +kernel
theorem dL_law_439 : decode cL_law 439 = .ok (.aload_n 2, 1) := by decide +kernel
theorem dL_law_440 : decode cL_law 440 = .ok (.invokevirtual 82, 3) := by decide +kernel
theorem dL_law_443 : decode cL_law 443 = .ok (.iload 5, 2) := by decide +kernel
theorem dL_law_445 : decode cL_law 445 = .ok (.if_icmp .eq 5, 3) := by decide +kernel
theorem dL_law_448 : decode cL_law 448 = .ok (.iconst 0, 1) := by decide +kernel
theorem dL_law_449 : decode cL_law 449 = .ok (.ireturn, 1) := by decide +kernel
theorem dL_law_450 : decode cL_law 450 = .ok (.iload 5, 2) := by decide +kernel
theorem dL_law_452 : decode cL_law 452 = .ok (.ifCond .ne 15, 3) := by decide +kernel
theorem dL_law_455 : decode cL_law 455 = .ok (.aload_n 3, 1) := by decide +kernel
theorem dL_law_456 : decode cL_law 456 = .ok (.iconst 0, 1) := by decide +kernel
theorem dL_law_457 : decode cL_law 457 = .ok (.laload, 1) := by decide +kernel
theorem dL_law_458 : decode cL_law 458 = .ok (.iload 6, 2) := by decide +kernel
theorem dL_law_460 : decode cL_law 460 = .ok (.i2l, 1) := by decide +kernel
theorem dL_law_461 : decode cL_law 461 = .ok (.lcmp, 1) := by decide +kernel
theorem dL_law_462 : decode cL_law 462 = .ok (.ifCond .eq 5, 3) := by decide +kernel
theorem dL_law_465 : decode cL_law 465 = .ok (.iconst 0, 1) := by decide +kernel
theorem dL_law_466 : decode cL_law 466 = .ok (.ireturn, 1) := by decide +kernel
theorem dL_law_467 : decode cL_law 467 = .ok (.goto 774, 3) := by decide +kernel
theorem dL_law_470 : decode cL_law 470 = .ok (.aload_n 1, 1) := by decide +kernel
theorem dL_law_471 : decode cL_law 471 = .ok (.aload_n 0, 1) := by decide +kernel
theorem dL_law_472 : decode cL_law 472 = .ok (.iload 4, 2) := by decide +kernel
theorem dL_law_474 : decode cL_law 474 = .ok (.iconst 1, 1) := by decide +kernel
theorem dL_law_475 : decode cL_law 475 = .ok (.iadd, 1) := by decide +kernel
theorem dL_law_476 : decode cL_law 476 = .ok (.iaload, 1) := by decide +kernel
theorem dL_law_477 : decode cL_law 477 = .ok (.aload_n 0, 1) := by decide +kernel
theorem dL_law_478 : decode cL_law 478 = .ok (.iload 4, 2) := by decide +kernel
theorem dL_law_480 : decode cL_law 480 = .ok (.iconst 2, 1) := by decide +kernel
theorem dL_law_481 : decode cL_law 481 = .ok (.iadd, 1) := by decide +kernel
theorem dL_law_482 : decode cL_law 482 = .ok (.iaload, 1) := by decide +kernel
theorem dL_law_483 : decode cL_law 483 = .ok (.aload_n 3, 1) := by decide +kernel
theorem dL_law_484 : decode cL_law 484 = .ok (.invokestatic 100, 3) := by decide +kernel
theorem dL_law_487 : decode cL_law 487 = .ok (.istore 5, 2) := by decide +kernel
theorem dL_law_489 : decode cL_law 489 = .ok (.aload_n 2, 1) := by decide +kernel
theorem dL_law_490 : decode cL_law 490 = .ok (.aload_n 0, 1) := by decide +kernel
theorem dL_law_491 : decode cL_law 491 = .ok (.iload 4, 2) := by decide +kernel
theorem dL_law_493 : decode cL_law 493 = .ok (.iconst 1, 1) := by decide +kernel
theorem dL_law_494 : decode cL_law 494 = .ok (.iadd, 1) := by decide +kernel
theorem dL_law_495 : decode cL_law 495 = .ok (.iaload, 1) := by decide +kernel
theorem dL_law_496 : decode cL_law 496 = .ok (.aload_n 0, 1) := by decide +kernel
theorem dL_law_497 : decode cL_law 497 = .ok (.iload 4, 2) := by decide +kernel
theorem dL_law_499 : decode cL_law 499 = .ok (.iconst 2, 1) := by decide +kernel
theorem dL_law_500 : decode cL_law 500 = .ok (.iadd, 1) := by decide +kernel
theorem dL_law_501 : decode cL_law 501 = .ok (.iaload, 1) := by decide +kernel
theorem dL_law_502 : decode cL_law 502 = .ok (.invokevirtual 102, 3) := by decide +kernel
theorem dL_law_505 : decode cL_law 505 = .ok (.istore 6, 2) := by decide +kernel
theorem dL_law_507 : decode cL_law 507 = .ok (.aload_n 2, 1) := by decide +kernel
theorem dL_law_508 : decode cL_law 508 = .ok (.invokevirtual 82, 3) := by decide +kernel
theorem dL_law_511 : decode cL_law 511 = .ok (.iload 5, 2) := by decide +kernel
theorem dL_law_513 : decode cL_law 513 = .ok (.if_icmp .eq 5, 3) := by decide +kernel
theorem dL_law_516 : decode cL_law 516 = .ok (.iconst 0, 1) := by decide +kernel
theorem dL_law_517 : decode cL_law 517 = .ok (.ireturn, 1) := by decide +kernel
theorem dL_law_518 : decode cL_law 518 = .ok (.iload 5, 2) := by decide +kernel
theorem dL_law_520 : decode cL_law 520 = .ok (.ifCond .ne 15, 3) := by decide +kernel
theorem dL_law_523 : decode cL_law 523 = .ok (.aload_n 3, 1) := by decide +kernel
theorem dL_law_524 : decode cL_law 524 = .ok (.iconst 0, 1) := by decide +kernel
theorem dL_law_525 : decode cL_law 525 = .ok (.laload, 1) := by decide +kernel
theorem dL_law_526 : decode cL_law 526 = .ok (.iload 6, 2) := by decide +kernel
theorem dL_law_528 : decode cL_law 528 = .ok (.i2l, 1) := by decide +kernel
theorem dL_law_529 : decode cL_law 529 = .ok (.lcmp, 1) := by decide +kernel
theorem dL_law_530 : decode cL_law 530 = .ok (.ifCond .eq 5, 3) := by decide +kernel
theorem dL_law_533 : decode cL_law 533 = .ok (.iconst 0, 1) := by decide +kernel
theorem dL_law_534 : decode cL_law 534 = .ok (.ireturn, 1) := by decide +kernel
theorem dL_law_535 : decode cL_law 535 = .ok (.goto 706, 3) := by decide +kernel
theorem dL_law_538 : decode cL_law 538 = .ok (.aload_n 1, 1) := by decide +kernel
theorem dL_law_539 : decode cL_law 539 = .ok (.aload_n 0, 1) := by decide +kernel
theorem dL_law_540 : decode cL_law 540 = .ok (.iload 4, 2) := by decide +kernel
theorem dL_law_542 : decode cL_law 542 = .ok (.iconst 1, 1) := by decide +kernel
theorem dL_law_543 : decode cL_law 543 = .ok (.iadd, 1) := by decide +kernel
theorem dL_law_544 : decode cL_law 544 = .ok (.iaload, 1) := by decide +kernel
theorem dL_law_545 : decode cL_law 545 = .ok (.aload_n 0, 1) := by decide +kernel
theorem dL_law_546 : decode cL_law 546 = .ok (.iload 4, 2) := by decide +kernel
theorem dL_law_548 : decode cL_law 548 = .ok (.iconst 2, 1) := by decide +kernel
theorem dL_law_549 : decode cL_law 549 = .ok (.iadd, 1) := by decide +kernel
theorem dL_law_550 : decode cL_law 550 = .ok (.iaload, 1) := by decide +kernel
theorem dL_law_551 : decode cL_law 551 = .ok (.aload_n 3, 1) := by decide +kernel
theorem dL_law_552 : decode cL_law 552 = .ok (.invokestatic 103, 3) := by decide +kernel
theorem dL_law_555 : decode cL_law 555 = .ok (.istore 5, 2) := by decide +kernel
theorem dL_law_557 : decode cL_law 557 = .ok (.aload_n 2, 1) := by decide +kernel
theorem dL_law_558 : decode cL_law 558 = .ok (.aload_n 0, 1) := by decide +kernel
theorem dL_law_559 : decode cL_law 559 = .ok (.iload 4, 2) := by decide +kernel
theorem dL_law_561 : decode cL_law 561 = .ok (.iconst 1, 1) := by decide +kernel
theorem dL_law_562 : decode cL_law 562 = .ok (.iadd, 1) := by decide +kernel
theorem dL_law_563 : decode cL_law 563 = .ok (.iaload, 1) := by decide +kernel
theorem dL_law_564 : decode cL_law 564 = .ok (.aload_n 0, 1) := by decide +kernel
theorem dL_law_565 : decode cL_law 565 = .ok (.iload 4, 2) := by decide +kernel
theorem dL_law_567 : decode cL_law 567 = .ok (.iconst 2, 1) := by decide +kernel
theorem dL_law_568 : decode cL_law 568 = .ok (.iadd, 1) := by decide +kernel
theorem dL_law_569 : decode cL_law 569 = .ok (.iaload, 1) := by decide +kernel
theorem dL_law_570 : decode cL_law 570 = .ok (.invokevirtual 105, 3) := by decide +kernel
theorem dL_law_573 : decode cL_law 573 = .ok (.istore 6, 2) := by decide +kernel
theorem dL_law_575 : decode cL_law 575 = .ok (.aload_n 2, 1) := by decide +kernel
theorem dL_law_576 : decode cL_law 576 = .ok (.invokevirtual 82, 3) := by decide +kernel
theorem dL_law_579 : decode cL_law 579 = .ok (.iload 5, 2) := by decide +kernel
theorem dL_law_581 : decode cL_law 581 = .ok (.if_icmp .eq 5, 3) := by decide +kernel
theorem dL_law_584 : decode cL_law 584 = .ok (.iconst 0, 1) := by decide +kernel
theorem dL_law_585 : decode cL_law 585 = .ok (.ireturn, 1) := by decide +kernel
theorem dL_law_586 : decode cL_law 586 = .ok (.iload 5, 2) := by decide +kernel
theorem dL_law_588 : decode cL_law 588 = .ok (.ifCond .ne 15, 3) := by decide +kernel
theorem dL_law_591 : decode cL_law 591 = .ok (.aload_n 3, 1) := by decide +kernel
theorem dL_law_592 : decode cL_law 592 = .ok (.iconst 0, 1) := by decide +kernel
theorem dL_law_593 : decode cL_law 593 = .ok (.laload, 1) := by decide +kernel
theorem dL_law_594 : decode cL_law 594 = .ok (.iload 6, 2) := by decide +kernel
theorem dL_law_596 : decode cL_law 596 = .ok (.i2l, 1) := by decide +kernel
theorem dL_law_597 : decode cL_law 597 = .ok (.lcmp, 1) := by decide +kernel
theorem dL_law_598 : decode cL_law 598 = .ok (.ifCond .eq 5, 3) := by decide +kernel
theorem dL_law_601 : decode cL_law 601 = .ok (.iconst 0, 1) := by decide +kernel
theorem dL_law_602 : decode cL_law 602 = .ok (.ireturn, 1) := by decide +kernel
theorem dL_law_603 : decode cL_law 603 = .ok (.goto 638, 3) := by decide +kernel
theorem dL_law_606 : decode cL_law 606 = .ok (.aload_n 1, 1) := by decide +kernel
theorem dL_law_607 : decode cL_law 607 = .ok (.aload_n 0, 1) := by decide +kernel
theorem dL_law_608 : decode cL_law 608 = .ok (.iload 4, 2) := by decide +kernel
theorem dL_law_610 : decode cL_law 610 = .ok (.iconst 1, 1) := by decide +kernel
theorem dL_law_611 : decode cL_law 611 = .ok (.iadd, 1) := by decide +kernel
theorem dL_law_612 : decode cL_law 612 = .ok (.iaload, 1) := by decide +kernel
theorem dL_law_613 : decode cL_law 613 = .ok (.aload_n 3, 1) := by decide +kernel
theorem dL_law_614 : decode cL_law 614 = .ok (.invokestatic 106, 3) := by decide +kernel
theorem dL_law_617 : decode cL_law 617 = .ok (.istore 5, 2) := by decide +kernel
theorem dL_law_619 : decode cL_law 619 = .ok (.aload_n 2, 1) := by decide +kernel
theorem dL_law_620 : decode cL_law 620 = .ok (.aload_n 0, 1) := by decide +kernel
theorem dL_law_621 : decode cL_law 621 = .ok (.iload 4, 2) := by decide +kernel
theorem dL_law_623 : decode cL_law 623 = .ok (.iconst 1, 1) := by decide +kernel
theorem dL_law_624 : decode cL_law 624 = .ok (.iadd, 1) := by decide +kernel
theorem dL_law_625 : decode cL_law 625 = .ok (.iaload, 1) := by decide +kernel
theorem dL_law_626 : decode cL_law 626 = .ok (.invokevirtual 108, 3) := by decide +kernel
theorem dL_law_629 : decode cL_law 629 = .ok (.istore 6, 2) := by decide +kernel
theorem dL_law_631 : decode cL_law 631 = .ok (.aload_n 2, 1) := by decide +kernel
theorem dL_law_632 : decode cL_law 632 = .ok (.invokevirtual 82, 3) := by decide +kernel
theorem dL_law_635 : decode cL_law 635 = .ok (.iload 5, 2) := by decide +kernel
theorem dL_law_637 : decode cL_law 637 = .ok (.if_icmp .eq 5, 3) := by decide +kernel
theorem dL_law_640 : decode cL_law 640 = .ok (.iconst 0, 1) := by decide +kernel
theorem dL_law_641 : decode cL_law 641 = .ok (.ireturn, 1) := by decide +kernel
theorem dL_law_642 : decode cL_law 642 = .ok (.iload 5, 2) := by decide +kernel
theorem dL_law_644 : decode cL_law 644 = .ok (.ifCond .ne 15, 3) := by decide +kernel
theorem dL_law_647 : decode cL_law 647 = .ok (.aload_n 3, 1) := by decide +kernel
theorem dL_law_648 : decode cL_law 648 = .ok (.iconst 0, 1) := by decide +kernel
theorem dL_law_649 : decode cL_law 649 = .ok (.laload, 1) := by decide +kernel
theorem dL_law_650 : decode cL_law 650 = .ok (.iload 6, 2) := by decide +kernel
theorem dL_law_652 : decode cL_law 652 = .ok (.i2l, 1) := by decide +kernel
theorem dL_law_653 : decode cL_law 653 = .ok (.lcmp, 1) := by decide +kernel
theorem dL_law_654 : decode cL_law 654 = .ok (.ifCond .eq 5, 3) := by decide +kernel
theorem dL_law_657 : decode cL_law 657 = .ok (.iconst 0, 1) := by decide +kernel
theorem dL_law_658 : decode cL_law 658 = .ok (.ireturn, 1) := by decide +kernel
theorem dL_law_659 : decode cL_law 659 = .ok (.goto 582, 3) := by decide +kernel
theorem dL_law_662 : decode cL_law 662 = .ok (.aload_n 1, 1) := by decide +kernel
theorem dL_law_663 : decode cL_law 663 = .ok (.aload_n 0, 1) := by decide +kernel
theorem dL_law_664 : decode cL_law 664 = .ok (.iload 4, 2) := by decide +kernel
theorem dL_law_666 : decode cL_law 666 = .ok (.iconst 1, 1) := by decide +kernel
theorem dL_law_667 : decode cL_law 667 = .ok (.iadd, 1) := by decide +kernel
theorem dL_law_668 : decode cL_law 668 = .ok (.iaload, 1) := by decide +kernel
theorem dL_law_669 : decode cL_law 669 = .ok (.aload_n 3, 1) := by decide +kernel
theorem dL_law_670 : decode cL_law 670 = .ok (.invokestatic 109, 3) := by decide +kernel
theorem dL_law_673 : decode cL_law 673 = .ok (.istore 5, 2) := by decide +kernel
theorem dL_law_675 : decode cL_law 675 = .ok (.aload_n 2, 1) := by decide +kernel
theorem dL_law_676 : decode cL_law 676 = .ok (.aload_n 0, 1) := by decide +kernel
theorem dL_law_677 : decode cL_law 677 = .ok (.iload 4, 2) := by decide +kernel
theorem dL_law_679 : decode cL_law 679 = .ok (.iconst 1, 1) := by decide +kernel
theorem dL_law_680 : decode cL_law 680 = .ok (.iadd, 1) := by decide +kernel
theorem dL_law_681 : decode cL_law 681 = .ok (.iaload, 1) := by decide +kernel
theorem dL_law_682 : decode cL_law 682 = .ok (.invokevirtual 111, 3) := by decide +kernel
theorem dL_law_685 : decode cL_law 685 = .ok (.istore 6, 2) := by decide +kernel
theorem dL_law_687 : decode cL_law 687 = .ok (.aload_n 2, 1) := by decide +kernel
theorem dL_law_688 : decode cL_law 688 = .ok (.invokevirtual 82, 3) := by decide +kernel
theorem dL_law_691 : decode cL_law 691 = .ok (.iload 5, 2) := by decide +kernel
theorem dL_law_693 : decode cL_law 693 = .ok (.if_icmp .eq 5, 3) := by decide +kernel
theorem dL_law_696 : decode cL_law 696 = .ok (.iconst 0, 1) := by decide +kernel
theorem dL_law_697 : decode cL_law 697 = .ok (.ireturn, 1) := by decide +kernel
theorem dL_law_698 : decode cL_law 698 = .ok (.iload 5, 2) := by decide +kernel
theorem dL_law_700 : decode cL_law 700 = .ok (.ifCond .ne 15, 3) := by decide +kernel
theorem dL_law_703 : decode cL_law 703 = .ok (.aload_n 3, 1) := by decide +kernel
theorem dL_law_704 : decode cL_law 704 = .ok (.iconst 0, 1) := by decide +kernel
theorem dL_law_705 : decode cL_law 705 = .ok (.laload, 1) := by decide +kernel
theorem dL_law_706 : decode cL_law 706 = .ok (.iload 6, 2) := by decide +kernel
theorem dL_law_708 : decode cL_law 708 = .ok (.i2l, 1) := by decide +kernel
theorem dL_law_709 : decode cL_law 709 = .ok (.lcmp, 1) := by decide +kernel
theorem dL_law_710 : decode cL_law 710 = .ok (.ifCond .eq 5, 3) := by decide +kernel
theorem dL_law_713 : decode cL_law 713 = .ok (.iconst 0, 1) := by decide +kernel
theorem dL_law_714 : decode cL_law 714 = .ok (.ireturn, 1) := by decide +kernel
theorem dL_law_715 : decode cL_law 715 = .ok (.goto 526, 3) := by decide +kernel
theorem dL_law_718 : decode cL_law 718 = .ok (.aload_n 1, 1) := by decide +kernel
theorem dL_law_719 : decode cL_law 719 = .ok (.aload_n 0, 1) := by decide +kernel
theorem dL_law_720 : decode cL_law 720 = .ok (.iload 4, 2) := by decide +kernel
theorem dL_law_722 : decode cL_law 722 = .ok (.iconst 1, 1) := by decide +kernel
theorem dL_law_723 : decode cL_law 723 = .ok (.iadd, 1) := by decide +kernel
theorem dL_law_724 : decode cL_law 724 = .ok (.iaload, 1) := by decide +kernel
theorem dL_law_725 : decode cL_law 725 = .ok (.aload_n 3, 1) := by decide +kernel
theorem dL_law_726 : decode cL_law 726 = .ok (.invokestatic 112, 3) := by decide +kernel
theorem dL_law_729 : decode cL_law 729 = .ok (.istore 5, 2) := by decide +kernel
theorem dL_law_731 : decode cL_law 731 = .ok (.aload_n 2, 1) := by decide +kernel
theorem dL_law_732 : decode cL_law 732 = .ok (.aload_n 0, 1) := by decide +kernel
theorem dL_law_733 : decode cL_law 733 = .ok (.iload 4, 2) := by decide +kernel
theorem dL_law_735 : decode cL_law 735 = .ok (.iconst 1, 1) := by decide +kernel
theorem dL_law_736 : decode cL_law 736 = .ok (.iadd, 1) := by decide +kernel
theorem dL_law_737 : decode cL_law 737 = .ok (.iaload, 1) := by decide +kernel
theorem dL_law_738 : decode cL_law 738 = .ok (.invokevirtual 114, 3) := by decide +kernel
theorem dL_law_741 : decode cL_law 741 = .ok (.istore 6, 2) := by decide +kernel
theorem dL_law_743 : decode cL_law 743 = .ok (.aload_n 2, 1) := by decide +kernel
theorem dL_law_744 : decode cL_law 744 = .ok (.invokevirtual 82, 3) := by decide +kernel
theorem dL_law_747 : decode cL_law 747 = .ok (.iload 5, 2) := by decide +kernel
theorem dL_law_749 : decode cL_law 749 = .ok (.if_icmp .eq 5, 3) := by decide +kernel
theorem dL_law_752 : decode cL_law 752 = .ok (.iconst 0, 1) := by decide +kernel
theorem dL_law_753 : decode cL_law 753 = .ok (.ireturn, 1) := by decide +kernel
theorem dL_law_754 : decode cL_law 754 = .ok (.iload 5, 2) := by decide +kernel
theorem dL_law_756 : decode cL_law 756 = .ok (.ifCond .ne 15, 3) := by decide +kernel
theorem dL_law_759 : decode cL_law 759 = .ok (.aload_n 3, 1) := by decide +kernel
theorem dL_law_760 : decode cL_law 760 = .ok (.iconst 0, 1) := by decide +kernel
theorem dL_law_761 : decode cL_law 761 = .ok (.laload, 1) := by decide +kernel
theorem dL_law_762 : decode cL_law 762 = .ok (.iload 6, 2) := by decide +kernel
theorem dL_law_764 : decode cL_law 764 = .ok (.i2l, 1) := by decide +kernel
theorem dL_law_765 : decode cL_law 765 = .ok (.lcmp, 1) := by decide +kernel
theorem dL_law_766 : decode cL_law 766 = .ok (.ifCond .eq 5, 3) := by decide +kernel
theorem dL_law_769 : decode cL_law 769 = .ok (.iconst 0, 1) := by decide +kernel
theorem dL_law_770 : decode cL_law 770 = .ok (.ireturn, 1) := by decide +kernel
theorem dL_law_771 : decode cL_law 771 = .ok (.goto 470, 3) := by decide +kernel
theorem dL_law_774 : decode cL_law 774 = .ok (.aload_n 1, 1) := by decide +kernel
theorem dL_law_775 : decode cL_law 775 = .ok (.aload_n 0, 1) := by decide +kernel
theorem dL_law_776 : decode cL_law 776 = .ok (.iload 4, 2) := by decide +kernel
theorem dL_law_778 : decode cL_law 778 = .ok (.iconst 1, 1) := by decide +kernel
theorem dL_law_779 : decode cL_law 779 = .ok (.iadd, 1) := by decide +kernel
theorem dL_law_780 : decode cL_law 780 = .ok (.iaload, 1) := by decide +kernel
theorem dL_law_781 : decode cL_law 781 = .ok (.aload_n 3, 1) := by decide +kernel
theorem dL_law_782 : decode cL_law 782 = .ok (.invokestatic 115, 3) := by decide +kernel
theorem dL_law_785 : decode cL_law 785 = .ok (.istore 5, 2) := by decide +kernel
theorem dL_law_787 : decode cL_law 787 = .ok (.aload_n 2, 1) := by decide +kernel
theorem dL_law_788 : decode cL_law 788 = .ok (.aload_n 0, 1) := by decide +kernel
theorem dL_law_789 : decode cL_law 789 = .ok (.iload 4, 2) := by decide +kernel
theorem dL_law_791 : decode cL_law 791 = .ok (.iconst 1, 1) := by decide +kernel
theorem dL_law_792 : decode cL_law 792 = .ok (.iadd, 1) := by decide +kernel
theorem dL_law_793 : decode cL_law 793 = .ok (.iaload, 1) := by decide +kernel
theorem dL_law_794 : decode cL_law 794 = .ok (.invokevirtual 117, 3) := by decide +kernel
theorem dL_law_797 : decode cL_law 797 = .ok (.istore 6, 2) := by decide +kernel
theorem dL_law_799 : decode cL_law 799 = .ok (.aload_n 2, 1) := by decide +kernel
theorem dL_law_800 : decode cL_law 800 = .ok (.invokevirtual 82, 3) := by decide +kernel
theorem dL_law_803 : decode cL_law 803 = .ok (.iload 5, 2) := by decide +kernel
theorem dL_law_805 : decode cL_law 805 = .ok (.if_icmp .eq 5, 3) := by decide +kernel
theorem dL_law_808 : decode cL_law 808 = .ok (.iconst 0, 1) := by decide +kernel
theorem dL_law_809 : decode cL_law 809 = .ok (.ireturn, 1) := by decide +kernel
theorem dL_law_810 : decode cL_law 810 = .ok (.iload 5, 2) := by decide +kernel
theorem dL_law_812 : decode cL_law 812 = .ok (.ifCond .ne 15, 3) := by decide +kernel
theorem dL_law_815 : decode cL_law 815 = .ok (.aload_n 3, 1) := by decide +kernel
theorem dL_law_816 : decode cL_law 816 = .ok (.iconst 0, 1) := by decide +kernel
theorem dL_law_817 : decode cL_law 817 = .ok (.laload, 1) := by decide +kernel
theorem dL_law_818 : decode cL_law 818 = .ok (.iload 6, 2) := by decide +kernel
theorem dL_law_820 : decode cL_law 820 = .ok (.i2l, 1) := by decide +kernel
theorem dL_law_821 : decode cL_law 821 = .ok (.lcmp, 1) := by decide +kernel
theorem dL_law_822 : decode cL_law 822 = .ok (.ifCond .eq 5, 3) := by decide +kernel
theorem dL_law_825 : decode cL_law 825 = .ok (.iconst 0, 1) := by decide +kernel
theorem dL_law_826 : decode cL_law 826 = .ok (.ireturn, 1) := by decide +kernel
theorem dL_law_827 : decode cL_law 827 = .ok (.goto 414, 3) := by decide +kernel
theorem dL_law_830 : decode cL_law 830 = .ok (.aload_n 1, 1) := by decide +kernel
theorem dL_law_831 : decode cL_law 831 = .ok (.aload_n 0, 1) := by decide +kernel
theorem dL_law_832 : decode cL_law 832 = .ok (.iload 4, 2) := by decide +kernel
theorem dL_law_834 : decode cL_law 834 = .ok (.iconst 1, 1) := by decide +kernel
theorem dL_law_835 : decode cL_law 835 = .ok (.iadd, 1) := by decide +kernel
theorem dL_law_836 : decode cL_law 836 = .ok (.iaload, 1) := by decide +kernel
theorem dL_law_837 : decode cL_law 837 = .ok (.aload_n 3, 1) := by decide +kernel
theorem dL_law_838 : decode cL_law 838 = .ok (.invokestatic 118, 3) := by decide +kernel
theorem dL_law_841 : decode cL_law 841 = .ok (.istore 5, 2) := by decide +kernel
theorem dL_law_843 : decode cL_law 843 = .ok (.aload_n 2, 1) := by decide +kernel
theorem dL_law_844 : decode cL_law 844 = .ok (.aload_n 0, 1) := by decide +kernel
theorem dL_law_845 : decode cL_law 845 = .ok (.iload 4, 2) := by decide +kernel
theorem dL_law_847 : decode cL_law 847 = .ok (.iconst 1, 1) := by decide +kernel
theorem dL_law_848 : decode cL_law 848 = .ok (.iadd, 1) := by decide +kernel
theorem dL_law_849 : decode cL_law 849 = .ok (.iaload, 1) := by decide +kernel
theorem dL_law_850 : decode cL_law 850 = .ok (.invokevirtual 120, 3) := by decide +kernel
theorem dL_law_853 : decode cL_law 853 = .ok (.istore 6, 2) := by decide +kernel
theorem dL_law_855 : decode cL_law 855 = .ok (.aload_n 2, 1) := by decide +kernel
theorem dL_law_856 : decode cL_law 856 = .ok (.invokevirtual 82, 3) := by decide +kernel
theorem dL_law_859 : decode cL_law 859 = .ok (.iload 5, 2) := by decide +kernel
theorem dL_law_861 : decode cL_law 861 = .ok (.if_icmp .eq 5, 3) := by decide +kernel
theorem dL_law_864 : decode cL_law 864 = .ok (.iconst 0, 1) := by decide +kernel
theorem dL_law_865 : decode cL_law 865 = .ok (.ireturn, 1) := by decide +kernel
theorem dL_law_866 : decode cL_law 866 = .ok (.iload 5, 2) := by decide +kernel
theorem dL_law_868 : decode cL_law 868 = .ok (.ifCond .ne 15, 3) := by decide +kernel
theorem dL_law_871 : decode cL_law 871 = .ok (.aload_n 3, 1) := by decide +kernel
theorem dL_law_872 : decode cL_law 872 = .ok (.iconst 0, 1) := by decide +kernel
theorem dL_law_873 : decode cL_law 873 = .ok (.laload, 1) := by decide +kernel
theorem dL_law_874 : decode cL_law 874 = .ok (.iload 6, 2) := by decide +kernel
theorem dL_law_876 : decode cL_law 876 = .ok (.i2l, 1) := by decide +kernel
theorem dL_law_877 : decode cL_law 877 = .ok (.lcmp, 1) := by decide +kernel
theorem dL_law_878 : decode cL_law 878 = .ok (.ifCond .eq 5, 3) := by decide +kernel
theorem dL_law_881 : decode cL_law 881 = .ok (.iconst 0, 1) := by decide +kernel
theorem dL_law_882 : decode cL_law 882 = .ok (.ireturn, 1) := by decide +kernel
theorem dL_law_883 : decode cL_law 883 = .ok (.goto 358, 3) := by decide +kernel
theorem dL_law_886 : decode cL_law 886 = .ok (.aload_n 1, 1) := by decide +kernel
theorem dL_law_887 : decode cL_law 887 = .ok (.aload_n 0, 1) := by decide +kernel
theorem dL_law_888 : decode cL_law 888 = .ok (.iload 4, 2) := by decide +kernel
theorem dL_law_890 : decode cL_law 890 = .ok (.iconst 1, 1) := by decide +kernel
theorem dL_law_891 : decode cL_law 891 = .ok (.iadd, 1) := by decide +kernel
theorem dL_law_892 : decode cL_law 892 = .ok (.iaload, 1) := by decide +kernel
theorem dL_law_893 : decode cL_law 893 = .ok (.aload_n 3, 1) := by decide +kernel
theorem dL_law_894 : decode cL_law 894 = .ok (.invokestatic 121, 3) := by decide +kernel
theorem dL_law_897 : decode cL_law 897 = .ok (.istore 5, 2) := by decide +kernel
theorem dL_law_899 : decode cL_law 899 = .ok (.aload_n 2, 1) := by decide +kernel
theorem dL_law_900 : decode cL_law 900 = .ok (.aload_n 0, 1) := by decide +kernel
theorem dL_law_901 : decode cL_law 901 = .ok (.iload 4, 2) := by decide +kernel
theorem dL_law_903 : decode cL_law 903 = .ok (.iconst 1, 1) := by decide +kernel
theorem dL_law_904 : decode cL_law 904 = .ok (.iadd, 1) := by decide +kernel
theorem dL_law_905 : decode cL_law 905 = .ok (.iaload, 1) := by decide +kernel
theorem dL_law_906 : decode cL_law 906 = .ok (.invokevirtual 123, 3) := by decide +kernel
theorem dL_law_909 : decode cL_law 909 = .ok (.istore 6, 2) := by decide +kernel
theorem dL_law_911 : decode cL_law 911 = .ok (.aload_n 2, 1) := by decide +kernel
theorem dL_law_912 : decode cL_law 912 = .ok (.invokevirtual 82, 3) := by decide +kernel
theorem dL_law_915 : decode cL_law 915 = .ok (.iload 5, 2) := by decide +kernel
theorem dL_law_917 : decode cL_law 917 = .ok (.if_icmp .eq 5, 3) := by decide +kernel
theorem dL_law_920 : decode cL_law 920 = .ok (.iconst 0, 1) := by decide +kernel
theorem dL_law_921 : decode cL_law 921 = .ok (.ireturn, 1) := by decide +kernel
theorem dL_law_922 : decode cL_law 922 = .ok (.iload 5, 2) := by decide +kernel
theorem dL_law_924 : decode cL_law 924 = .ok (.ifCond .ne 15, 3) := by decide +kernel
theorem dL_law_927 : decode cL_law 927 = .ok (.aload_n 3, 1) := by decide +kernel
theorem dL_law_928 : decode cL_law 928 = .ok (.iconst 0, 1) := by decide +kernel
theorem dL_law_929 : decode cL_law 929 = .ok (.laload, 1) := by decide +kernel
theorem dL_law_930 : decode cL_law 930 = .ok (.iload 6, 2) := by decide +kernel
theorem dL_law_932 : decode cL_law 932 = .ok (.i2l, 1) := by decide +kernel
theorem dL_law_933 : decode cL_law 933 = .ok (.lcmp, 1) := by decide +kernel
theorem dL_law_934 : decode cL_law 934 = .ok (.ifCond .eq 5, 3) := by decide +kernel
theorem dL_law_937 : decode cL_law 937 = .ok (.iconst 0, 1) := by decide +kernel
theorem dL_law_938 : decode cL_law 938 = .ok (.ireturn, 1) := by decide +kernel
theorem dL_law_939 : decode cL_law 939 = .ok (.goto 302, 3) := by decide +kernel
theorem dL_law_942 : decode cL_law 942 = .ok (.aload_n 1, 1) := by decide +kernel
theorem dL_law_943 : decode cL_law 943 = .ok (.aload_n 0, 1) := by decide +kernel
theorem dL_law_944 : decode cL_law 944 = .ok (.iload 4, 2) := by decide +kernel
theorem dL_law_946 : decode cL_law 946 = .ok (.iconst 1, 1) := by decide +kernel
theorem dL_law_947 : decode cL_law 947 = .ok (.iadd, 1) := by decide +kernel
theorem dL_law_948 : decode cL_law 948 = .ok (.iaload, 1) := by decide +kernel
theorem dL_law_949 : decode cL_law 949 = .ok (.aload_n 0, 1) := by decide +kernel
theorem dL_law_950 : decode cL_law 950 = .ok (.iload 4, 2) := by decide +kernel
theorem dL_law_952 : decode cL_law 952 = .ok (.iconst 2, 1) := by decide +kernel
theorem dL_law_953 : decode cL_law 953 = .ok (.iadd, 1) := by decide +kernel
theorem dL_law_954 : decode cL_law 954 = .ok (.iaload, 1) := by decide +kernel
theorem dL_law_955 : decode cL_law 955 = .ok (.aload_n 3, 1) := by decide +kernel
theorem dL_law_956 : decode cL_law 956 = .ok (.invokestatic 124, 3) := by decide +kernel
theorem dL_law_959 : decode cL_law 959 = .ok (.istore 5, 2) := by decide +kernel
theorem dL_law_961 : decode cL_law 961 = .ok (.aload_n 2, 1) := by decide +kernel
theorem dL_law_962 : decode cL_law 962 = .ok (.aload_n 0, 1) := by decide +kernel
theorem dL_law_963 : decode cL_law 963 = .ok (.iload 4, 2) := by decide +kernel
theorem dL_law_965 : decode cL_law 965 = .ok (.iconst 1, 1) := by decide +kernel
theorem dL_law_966 : decode cL_law 966 = .ok (.iadd, 1) := by decide +kernel
theorem dL_law_967 : decode cL_law 967 = .ok (.iaload, 1) := by decide +kernel
theorem dL_law_968 : decode cL_law 968 = .ok (.aload_n 0, 1) := by decide +kernel
theorem dL_law_969 : decode cL_law 969 = .ok (.iload 4, 2) := by decide +kernel
theorem dL_law_971 : decode cL_law 971 = .ok (.iconst 2, 1) := by decide +kernel
theorem dL_law_972 : decode cL_law 972 = .ok (.iadd, 1) := by decide +kernel
theorem dL_law_973 : decode cL_law 973 = .ok (.iaload, 1) := by decide +kernel
theorem dL_law_974 : decode cL_law 974 = .ok (.invokevirtual 126, 3) := by decide +kernel
theorem dL_law_977 : decode cL_law 977 = .ok (.istore 6, 2) := by decide +kernel
theorem dL_law_979 : decode cL_law 979 = .ok (.aload_n 2, 1) := by decide +kernel
theorem dL_law_980 : decode cL_law 980 = .ok (.invokevirtual 82, 3) := by decide +kernel
theorem dL_law_983 : decode cL_law 983 = .ok (.iload 5, 2) := by decide +kernel
theorem dL_law_985 : decode cL_law 985 = .ok (.if_icmp .eq 5, 3) := by decide +kernel
theorem dL_law_988 : decode cL_law 988 = .ok (.iconst 0, 1) := by decide +kernel
theorem dL_law_989 : decode cL_law 989 = .ok (.ireturn, 1) := by decide +kernel
theorem dL_law_990 : decode cL_law 990 = .ok (.iload 5, 2) := by decide +kernel
theorem dL_law_992 : decode cL_law 992 = .ok (.ifCond .ne 15, 3) := by decide +kernel
theorem dL_law_995 : decode cL_law 995 = .ok (.aload_n 3, 1) := by decide +kernel
theorem dL_law_996 : decode cL_law 996 = .ok (.iconst 0, 1) := by decide +kernel
theorem dL_law_997 : decode cL_law 997 = .ok (.laload, 1) := by decide +kernel
theorem dL_law_998 : decode cL_law 998 = .ok (.iload 6, 2) := by decide +kernel
theorem dL_law_1000 : decode cL_law 1000 = .ok (.i2l, 1) := by decide +kernel
theorem dL_law_1001 : decode cL_law 1001 = .ok (.lcmp, 1) := by decide +kernel
theorem dL_law_1002 : decode cL_law 1002 = .ok (.ifCond .eq 5, 3) := by decide +kernel
theorem dL_law_1005 : decode cL_law 1005 = .ok (.iconst 0, 1) := by decide +kernel
theorem dL_law_1006 : decode cL_law 1006 = .ok (.ireturn, 1) := by decide +kernel
theorem dL_law_1007 : decode cL_law 1007 = .ok (.goto 234, 3) := by decide +kernel
theorem dL_law_1010 : decode cL_law 1010 = .ok (.aload_n 1, 1) := by decide +kernel
theorem dL_law_1011 : decode cL_law 1011 = .ok (.aload_n 0, 1) := by decide +kernel
theorem dL_law_1012 : decode cL_law 1012 = .ok (.iload 4, 2) := by decide +kernel
theorem dL_law_1014 : decode cL_law 1014 = .ok (.iconst 1, 1) := by decide +kernel
theorem dL_law_1015 : decode cL_law 1015 = .ok (.iadd, 1) := by decide +kernel
theorem dL_law_1016 : decode cL_law 1016 = .ok (.iaload, 1) := by decide +kernel
theorem dL_law_1017 : decode cL_law 1017 = .ok (.aload_n 0, 1) := by decide +kernel
theorem dL_law_1018 : decode cL_law 1018 = .ok (.iload 4, 2) := by decide +kernel
theorem dL_law_1020 : decode cL_law 1020 = .ok (.iconst 2, 1) := by decide +kernel
theorem dL_law_1021 : decode cL_law 1021 = .ok (.iadd, 1) := by decide +kernel
theorem dL_law_1022 : decode cL_law 1022 = .ok (.iaload, 1) := by decide +kernel
theorem dL_law_1023 : decode cL_law 1023 = .ok (.aload_n 3, 1) := by decide +kernel
theorem dL_law_1024 : decode cL_law 1024 = .ok (.invokestatic 127, 3) := by decide +kernel
theorem dL_law_1027 : decode cL_law 1027 = .ok (.istore 5, 2) := by decide +kernel
theorem dL_law_1029 : decode cL_law 1029 = .ok (.aload_n 2, 1) := by decide +kernel
theorem dL_law_1030 : decode cL_law 1030 = .ok (.aload_n 0, 1) := by decide +kernel
theorem dL_law_1031 : decode cL_law 1031 = .ok (.iload 4, 2) := by decide +kernel
theorem dL_law_1033 : decode cL_law 1033 = .ok (.iconst 1, 1) := by decide +kernel
theorem dL_law_1034 : decode cL_law 1034 = .ok (.iadd, 1) := by decide +kernel
theorem dL_law_1035 : decode cL_law 1035 = .ok (.iaload, 1) := by decide +kernel
theorem dL_law_1036 : decode cL_law 1036 = .ok (.aload_n 0, 1) := by decide +kernel
theorem dL_law_1037 : decode cL_law 1037 = .ok (.iload 4, 2) := by decide +kernel
theorem dL_law_1039 : decode cL_law 1039 = .ok (.iconst 2, 1) := by decide +kernel
theorem dL_law_1040 : decode cL_law 1040 = .ok (.iadd, 1) := by decide +kernel
theorem dL_law_1041 : decode cL_law 1041 = .ok (.iaload, 1) := by decide +kernel
theorem dL_law_1042 : decode cL_law 1042 = .ok (.invokevirtual 129, 3) := by decide +kernel
theorem dL_law_1045 : decode cL_law 1045 = .ok (.istore 6, 2) := by decide +kernel
theorem dL_law_1047 : decode cL_law 1047 = .ok (.aload_n 2, 1) := by decide +kernel
theorem dL_law_1048 : decode cL_law 1048 = .ok (.invokevirtual 82, 3) := by decide +kernel
theorem dL_law_1051 : decode cL_law 1051 = .ok (.iload 5, 2) := by decide +kernel
theorem dL_law_1053 : decode cL_law 1053 = .ok (.if_icmp .eq 5, 3) := by decide +kernel
theorem dL_law_1056 : decode cL_law 1056 = .ok (.iconst 0, 1) := by decide +kernel
theorem dL_law_1057 : decode cL_law 1057 = .ok (.ireturn, 1) := by decide +kernel
theorem dL_law_1058 : decode cL_law 1058 = .ok (.iload 5, 2) := by decide +kernel
theorem dL_law_1060 : decode cL_law 1060 = .ok (.ifCond .ne 15, 3) := by decide +kernel
theorem dL_law_1063 : decode cL_law 1063 = .ok (.aload_n 3, 1) := by decide +kernel
theorem dL_law_1064 : decode cL_law 1064 = .ok (.iconst 0, 1) := by decide +kernel
theorem dL_law_1065 : decode cL_law 1065 = .ok (.laload, 1) := by decide +kernel
theorem dL_law_1066 : decode cL_law 1066 = .ok (.iload 6, 2) := by decide +kernel
theorem dL_law_1068 : decode cL_law 1068 = .ok (.i2l, 1) := by decide +kernel
theorem dL_law_1069 : decode cL_law 1069 = .ok (.lcmp, 1) := by decide +kernel
theorem dL_law_1070 : decode cL_law 1070 = .ok (.ifCond .eq 5, 3) := by decide +kernel
theorem dL_law_1073 : decode cL_law 1073 = .ok (.iconst 0, 1) := by decide +kernel
theorem dL_law_1074 : decode cL_law 1074 = .ok (.ireturn, 1) := by decide +kernel
theorem dL_law_1075 : decode cL_law 1075 = .ok (.goto 166, 3) := by decide +kernel
theorem dL_law_1078 : decode cL_law 1078 = .ok (.aload_n 1, 1) := by decide +kernel
theorem dL_law_1079 : decode cL_law 1079 = .ok (.aload_n 0, 1) := by decide +kernel
theorem dL_law_1080 : decode cL_law 1080 = .ok (.iload 4, 2) := by decide +kernel
theorem dL_law_1082 : decode cL_law 1082 = .ok (.iconst 1, 1) := by decide +kernel
theorem dL_law_1083 : decode cL_law 1083 = .ok (.iadd, 1) := by decide +kernel
theorem dL_law_1084 : decode cL_law 1084 = .ok (.iaload, 1) := by decide +kernel
theorem dL_law_1085 : decode cL_law 1085 = .ok (.aload_n 0, 1) := by decide +kernel
theorem dL_law_1086 : decode cL_law 1086 = .ok (.iload 4, 2) := by decide +kernel
theorem dL_law_1088 : decode cL_law 1088 = .ok (.iconst 2, 1) := by decide +kernel
theorem dL_law_1089 : decode cL_law 1089 = .ok (.iadd, 1) := by decide +kernel
theorem dL_law_1090 : decode cL_law 1090 = .ok (.iaload, 1) := by decide +kernel
theorem dL_law_1091 : decode cL_law 1091 = .ok (.aload_n 3, 1) := by decide +kernel
theorem dL_law_1092 : decode cL_law 1092 = .ok (.invokestatic 130, 3) := by decide +kernel
theorem dL_law_1095 : decode cL_law 1095 = .ok (.istore 5, 2) := by decide +kernel
theorem dL_law_1097 : decode cL_law 1097 = .ok (.aload_n 2, 1) := by decide +kernel
theorem dL_law_1098 : decode cL_law 1098 = .ok (.aload_n 0, 1) := by decide +kernel
theorem dL_law_1099 : decode cL_law 1099 = .ok (.iload 4, 2) := by decide +kernel
theorem dL_law_1101 : decode cL_law 1101 = .ok (.iconst 1, 1) := by decide +kernel
theorem dL_law_1102 : decode cL_law 1102 = .ok (.iadd, 1) := by decide +kernel
theorem dL_law_1103 : decode cL_law 1103 = .ok (.iaload, 1) := by decide +kernel
theorem dL_law_1104 : decode cL_law 1104 = .ok (.aload_n 0, 1) := by decide +kernel
theorem dL_law_1105 : decode cL_law 1105 = .ok (.iload 4, 2) := by decide +kernel
theorem dL_law_1107 : decode cL_law 1107 = .ok (.iconst 2, 1) := by decide +kernel
theorem dL_law_1108 : decode cL_law 1108 = .ok (.iadd, 1) := by decide +kernel
theorem dL_law_1109 : decode cL_law 1109 = .ok (.iaload, 1) := by decide +kernel
theorem dL_law_1110 : decode cL_law 1110 = .ok (.invokevirtual 132, 3) := by decide +kernel
theorem dL_law_1113 : decode cL_law 1113 = .ok (.istore 6, 2) := by decide +kernel
theorem dL_law_1115 : decode cL_law 1115 = .ok (.aload_n 2, 1) := by decide +kernel
theorem dL_law_1116 : decode cL_law 1116 = .ok (.invokevirtual 82, 3) := by decide +kernel
theorem dL_law_1119 : decode cL_law 1119 = .ok (.iload 5, 2) := by decide +kernel
theorem dL_law_1121 : decode cL_law 1121 = .ok (.if_icmp .eq 5, 3) := by decide +kernel
theorem dL_law_1124 : decode cL_law 1124 = .ok (.iconst 0, 1) := by decide +kernel
theorem dL_law_1125 : decode cL_law 1125 = .ok (.ireturn, 1) := by decide +kernel
theorem dL_law_1126 : decode cL_law 1126 = .ok (.iload 5, 2) := by decide +kernel
theorem dL_law_1128 : decode cL_law 1128 = .ok (.ifCond .ne 15, 3) := by decide +kernel
theorem dL_law_1131 : decode cL_law 1131 = .ok (.aload_n 3, 1) := by decide +kernel
theorem dL_law_1132 : decode cL_law 1132 = .ok (.iconst 0, 1) := by decide +kernel
theorem dL_law_1133 : decode cL_law 1133 = .ok (.laload, 1) := by decide +kernel
theorem dL_law_1134 : decode cL_law 1134 = .ok (.iload 6, 2) := by decide +kernel
theorem dL_law_1136 : decode cL_law 1136 = .ok (.i2l, 1) := by decide +kernel
theorem dL_law_1137 : decode cL_law 1137 = .ok (.lcmp, 1) := by decide +kernel
theorem dL_law_1138 : decode cL_law 1138 = .ok (.ifCond .eq 5, 3) := by decide +kernel
theorem dL_law_1141 : decode cL_law 1141 = .ok (.iconst 0, 1) := by decide +kernel
theorem dL_law_1142 : decode cL_law 1142 = .ok (.ireturn, 1) := by decide +kernel
theorem dL_law_1143 : decode cL_law 1143 = .ok (.goto 98, 3) := by decide +kernel
theorem dL_law_1146 : decode cL_law 1146 = .ok (.aload_n 1, 1) := by decide +kernel
theorem dL_law_1147 : decode cL_law 1147 = .ok (.aload_n 0, 1) := by decide +kernel
theorem dL_law_1148 : decode cL_law 1148 = .ok (.iload 4, 2) := by decide +kernel
theorem dL_law_1150 : decode cL_law 1150 = .ok (.iconst 1, 1) := by decide +kernel
theorem dL_law_1151 : decode cL_law 1151 = .ok (.iadd, 1) := by decide +kernel
theorem dL_law_1152 : decode cL_law 1152 = .ok (.iaload, 1) := by decide +kernel
theorem dL_law_1153 : decode cL_law 1153 = .ok (.aload_n 0, 1) := by decide +kernel
theorem dL_law_1154 : decode cL_law 1154 = .ok (.iload 4, 2) := by decide +kernel
theorem dL_law_1156 : decode cL_law 1156 = .ok (.iconst 2, 1) := by decide +kernel
theorem dL_law_1157 : decode cL_law 1157 = .ok (.iadd, 1) := by decide +kernel
theorem dL_law_1158 : decode cL_law 1158 = .ok (.iaload, 1) := by decide +kernel
theorem dL_law_1159 : decode cL_law 1159 = .ok (.aload_n 3, 1) := by decide +kernel
theorem dL_law_1160 : decode cL_law 1160 = .ok (.invokestatic 133, 3) := by decide +kernel
theorem dL_law_1163 : decode cL_law 1163 = .ok (.istore 5, 2) := by decide +kernel
theorem dL_law_1165 : decode cL_law 1165 = .ok (.aload_n 2, 1) := by decide +kernel
theorem dL_law_1166 : decode cL_law 1166 = .ok (.aload_n 0, 1) := by decide +kernel
theorem dL_law_1167 : decode cL_law 1167 = .ok (.iload 4, 2) := by decide +kernel
theorem dL_law_1169 : decode cL_law 1169 = .ok (.iconst 1, 1) := by decide +kernel
theorem dL_law_1170 : decode cL_law 1170 = .ok (.iadd, 1) := by decide +kernel
theorem dL_law_1171 : decode cL_law 1171 = .ok (.iaload, 1) := by decide +kernel
theorem dL_law_1172 : decode cL_law 1172 = .ok (.aload_n 0, 1) := by decide +kernel
theorem dL_law_1173 : decode cL_law 1173 = .ok (.iload 4, 2) := by decide +kernel
theorem dL_law_1175 : decode cL_law 1175 = .ok (.iconst 2, 1) := by decide +kernel
theorem dL_law_1176 : decode cL_law 1176 = .ok (.iadd, 1) := by decide +kernel
theorem dL_law_1177 : decode cL_law 1177 = .ok (.iaload, 1) := by decide +kernel
theorem dL_law_1178 : decode cL_law 1178 = .ok (.invokevirtual 135, 3) := by decide +kernel
theorem dL_law_1181 : decode cL_law 1181 = .ok (.istore 6, 2) := by decide +kernel
theorem dL_law_1183 : decode cL_law 1183 = .ok (.aload_n 2, 1) := by decide +kernel
theorem dL_law_1184 : decode cL_law 1184 = .ok (.invokevirtual 82, 3) := by decide +kernel
theorem dL_law_1187 : decode cL_law 1187 = .ok (.iload 5, 2) := by decide +kernel
theorem dL_law_1189 : decode cL_law 1189 = .ok (.if_icmp .eq 5, 3) := by decide +kernel
theorem dL_law_1192 : decode cL_law 1192 = .ok (.iconst 0, 1) := by decide +kernel
theorem dL_law_1193 : decode cL_law 1193 = .ok (.ireturn, 1) := by decide +kernel
theorem dL_law_1194 : decode cL_law 1194 = .ok (.iload 5, 2) := by decide +kernel
theorem dL_law_1196 : decode cL_law 1196 = .ok (.ifCond .ne 15, 3) := by decide +kernel
theorem dL_law_1199 : decode cL_law 1199 = .ok (.aload_n 3, 1) := by decide +kernel
theorem dL_law_1200 : decode cL_law 1200 = .ok (.iconst 0, 1) := by decide +kernel
theorem dL_law_1201 : decode cL_law 1201 = .ok (.laload, 1) := by decide +kernel
theorem dL_law_1202 : decode cL_law 1202 = .ok (.iload 6, 2) := by decide +kernel
theorem dL_law_1204 : decode cL_law 1204 = .ok (.i2l, 1) := by decide +kernel
theorem dL_law_1205 : decode cL_law 1205 = .ok (.lcmp, 1) := by decide +kernel
theorem dL_law_1206 : decode cL_law 1206 = .ok (.ifCond .eq 5, 3) := by decide +kernel
theorem dL_law_1209 : decode cL_law 1209 = .ok (.iconst 0, 1) := by decide +kernel
theorem dL_law_1210 : decode cL_law 1210 = .ok (.ireturn, 1) := by decide +kernel
theorem dL_law_1211 : decode cL_law 1211 = .ok (.goto 30, 3) := by decide +kernel
theorem dL_law_1214 : decode cL_law 1214 = .ok (.aload_n 1, 1) := by decide +kernel
theorem dL_law_1215 : decode cL_law 1215 = .ok (.invokevirtual 136, 3) := by decide +kernel
theorem dL_law_1218 : decode cL_law 1218 = .ok (.aload_n 2, 1) := by decide +kernel
theorem dL_law_1219 : decode cL_law 1219 = .ok (.invokevirtual 139, 3) := by decide +kernel
theorem dL_law_1222 : decode cL_law 1222 = .ok (.if_icmp .eq 19, 3) := by decide +kernel
theorem dL_law_1225 : decode cL_law 1225 = .ok (.iconst 0, 1) := by decide +kernel
theorem dL_law_1226 : decode cL_law 1226 = .ok (.ireturn, 1) := by decide +kernel
theorem dL_law_1227 : decode cL_law 1227 = .ok (.aload_n 1, 1) := by decide +kernel
theorem dL_law_1228 : decode cL_law 1228 = .ok (.invokevirtual 140, 3) := by decide +kernel
theorem dL_law_1231 : decode cL_law 1231 = .ok (.aload_n 2, 1) := by decide +kernel
theorem dL_law_1232 : decode cL_law 1232 = .ok (.invokevirtual 144, 3) := by decide +kernel
theorem dL_law_1235 : decode cL_law 1235 = .ok (.lcmp, 1) := by decide +kernel
theorem dL_law_1236 : decode cL_law 1236 = .ok (.ifCond .eq 5, 3) := by decide +kernel
theorem dL_law_1239 : decode cL_law 1239 = .ok (.iconst 0, 1) := by decide +kernel
theorem dL_law_1240 : decode cL_law 1240 = .ok (.ireturn, 1) := by decide +kernel
theorem dL_law_1241 : decode cL_law 1241 = .ok (.iinc 4 6, 3) := by decide +kernel
theorem dL_law_1244 : decode cL_law 1244 = .ok (.goto (-1221), 3) := by decide +kernel
theorem dL_law_1247 : decode cL_law 1247 = .ok (.iconst 1, 1) := by decide +kernel
theorem dL_law_1248 : decode cL_law 1248 = .ok (.ireturn, 1) := by decide +kernel
