abbrev b_Ar_isBelow : ByteArray := prog_2_method_2_code
def y_Ar_isBelow : MethodName := ⟨R_Ar, "isBelow", "(JJ)Z"⟩
abbrev b_Ar_compares : ByteArray := prog_2_method_3_code
def y_Ar_compares : MethodName := ⟨R_Ar, "compares", "(IJJ)Z"⟩
abbrev b_Ar_reasonAgainst : ByteArray := prog_2_method_4_code
def y_Ar_reasonAgainst : MethodName := ⟨R_Ar, "reasonAgainst", "(IJJJ)I"⟩
abbrev b_Ar_filled : ByteArray := prog_2_method_7_code
def y_Ar_filled : MethodName := ⟨R_Ar, "filled", "(J)J"⟩
abbrev b_J_Integer_bitCount : ByteArray := prog_22_method_49_code
def y_J_Integer_bitCount : MethodName := ⟨"java/lang/Integer", "bitCount", "(I)I"⟩
abbrev b_J_Long_bitCount : ByteArray := prog_23_method_50_code
def y_J_Long_bitCount : MethodName := ⟨"java/lang/Long", "bitCount", "(J)I"⟩
abbrev b_Ar_countInt : ByteArray := prog_2_method_5_code
def y_Ar_countInt : MethodName := ⟨R_Ar, "countInt", "(II)I"⟩
abbrev b_Ar_countLong : ByteArray := prog_2_method_6_code
def y_Ar_countLong : MethodName := ⟨R_Ar, "countLong", "(IJ)I"⟩
abbrev b_Ar_quotient : ByteArray := prog_2_method_9_code
def y_Ar_quotient : MethodName := ⟨R_Ar, "quotient", "(JJ)J"⟩
abbrev b_Ar_joinLongs : ByteArray := prog_2_method_10_code
def y_Ar_joinLongs : MethodName := ⟨R_Ar, "joinLongs", "(IJJ)J"⟩
abbrev b_Ar_joinInts : ByteArray := prog_2_method_8_code
def y_Ar_joinInts : MethodName := ⟨R_Ar, "joinInts", "(III)I"⟩
theorem d_Ar_isBelow_0 : decode b_Ar_isBelow 0 = .ok (.lload_n 0, 1) := by decide +kernel
theorem d_Ar_isBelow_1 : decode b_Ar_isBelow 1 = .ok (.ldc2_w 11, 3) := by decide +kernel
theorem d_Ar_isBelow_4 : decode b_Ar_isBelow 4 = .ok (.lxor, 1) := by decide +kernel
theorem d_Ar_isBelow_5 : decode b_Ar_isBelow 5 = .ok (.lload_n 2, 1) := by decide +kernel
theorem d_Ar_isBelow_6 : decode b_Ar_isBelow 6 = .ok (.ldc2_w 11, 3) := by decide +kernel
theorem d_Ar_isBelow_9 : decode b_Ar_isBelow 9 = .ok (.lxor, 1) := by decide +kernel
theorem d_Ar_isBelow_10 : decode b_Ar_isBelow 10 = .ok (.lcmp, 1) := by decide +kernel
theorem d_Ar_isBelow_11 : decode b_Ar_isBelow 11 = .ok (.ifCond .ge 7, 3) := by decide +kernel
theorem d_Ar_isBelow_14 : decode b_Ar_isBelow 14 = .ok (.iconst 1, 1) := by decide +kernel
theorem d_Ar_isBelow_15 : decode b_Ar_isBelow 15 = .ok (.goto 4, 3) := by decide +kernel
theorem d_Ar_isBelow_18 : decode b_Ar_isBelow 18 = .ok (.iconst 0, 1) := by decide +kernel
theorem d_Ar_isBelow_19 : decode b_Ar_isBelow 19 = .ok (.ireturn, 1) := by decide +kernel
theorem d_Ar_compares_0 : decode b_Ar_compares 0 = .ok (.iload_n 0, 1) := by decide +kernel
theorem d_Ar_compares_1 : decode b_Ar_compares 1 = .ok (.tableswitch 153 69 78 #[55, 55, 67, 79, 91, 97, 109, 115, 127, 141], 55) := by decide +kernel
theorem d_Ar_compares_56 : decode b_Ar_compares 56 = .ok (.lload_n 1, 1) := by decide +kernel
theorem d_Ar_compares_57 : decode b_Ar_compares 57 = .ok (.lload_n 3, 1) := by decide +kernel
theorem d_Ar_compares_58 : decode b_Ar_compares 58 = .ok (.lcmp, 1) := by decide +kernel
theorem d_Ar_compares_59 : decode b_Ar_compares 59 = .ok (.ifCond .ne 7, 3) := by decide +kernel
theorem d_Ar_compares_62 : decode b_Ar_compares 62 = .ok (.iconst 1, 1) := by decide +kernel
theorem d_Ar_compares_63 : decode b_Ar_compares 63 = .ok (.goto 4, 3) := by decide +kernel
theorem d_Ar_compares_66 : decode b_Ar_compares 66 = .ok (.iconst 0, 1) := by decide +kernel
theorem d_Ar_compares_67 : decode b_Ar_compares 67 = .ok (.ireturn, 1) := by decide +kernel
theorem d_Ar_compares_68 : decode b_Ar_compares 68 = .ok (.lload_n 1, 1) := by decide +kernel
theorem d_Ar_compares_69 : decode b_Ar_compares 69 = .ok (.lload_n 3, 1) := by decide +kernel
theorem d_Ar_compares_70 : decode b_Ar_compares 70 = .ok (.lcmp, 1) := by decide +kernel
theorem d_Ar_compares_71 : decode b_Ar_compares 71 = .ok (.ifCond .eq 7, 3) := by decide +kernel
theorem d_Ar_compares_74 : decode b_Ar_compares 74 = .ok (.iconst 1, 1) := by decide +kernel
theorem d_Ar_compares_75 : decode b_Ar_compares 75 = .ok (.goto 4, 3) := by decide +kernel
theorem d_Ar_compares_78 : decode b_Ar_compares 78 = .ok (.iconst 0, 1) := by decide +kernel
theorem d_Ar_compares_79 : decode b_Ar_compares 79 = .ok (.ireturn, 1) := by decide +kernel
theorem d_Ar_compares_80 : decode b_Ar_compares 80 = .ok (.lload_n 1, 1) := by decide +kernel
theorem d_Ar_compares_81 : decode b_Ar_compares 81 = .ok (.lload_n 3, 1) := by decide +kernel
theorem d_Ar_compares_82 : decode b_Ar_compares 82 = .ok (.lcmp, 1) := by decide +kernel
theorem d_Ar_compares_83 : decode b_Ar_compares 83 = .ok (.ifCond .ge 7, 3) := by decide +kernel
theorem d_Ar_compares_86 : decode b_Ar_compares 86 = .ok (.iconst 1, 1) := by decide +kernel
theorem d_Ar_compares_87 : decode b_Ar_compares 87 = .ok (.goto 4, 3) := by decide +kernel
theorem d_Ar_compares_90 : decode b_Ar_compares 90 = .ok (.iconst 0, 1) := by decide +kernel
theorem d_Ar_compares_91 : decode b_Ar_compares 91 = .ok (.ireturn, 1) := by decide +kernel
theorem d_Ar_compares_92 : decode b_Ar_compares 92 = .ok (.lload_n 1, 1) := by decide +kernel
theorem d_Ar_compares_93 : decode b_Ar_compares 93 = .ok (.lload_n 3, 1) := by decide +kernel
theorem d_Ar_compares_94 : decode b_Ar_compares 94 = .ok (.invokestatic 13, 3) := by decide +kernel
theorem d_Ar_compares_97 : decode b_Ar_compares 97 = .ok (.ireturn, 1) := by decide +kernel
theorem d_Ar_compares_98 : decode b_Ar_compares 98 = .ok (.lload_n 1, 1) := by decide +kernel
theorem d_Ar_compares_99 : decode b_Ar_compares 99 = .ok (.lload_n 3, 1) := by decide +kernel
theorem d_Ar_compares_100 : decode b_Ar_compares 100 = .ok (.lcmp, 1) := by decide +kernel
theorem d_Ar_compares_101 : decode b_Ar_compares 101 = .ok (.ifCond .le 7, 3) := by decide +kernel
theorem d_Ar_compares_104 : decode b_Ar_compares 104 = .ok (.iconst 1, 1) := by decide +kernel
theorem d_Ar_compares_105 : decode b_Ar_compares 105 = .ok (.goto 4, 3) := by decide +kernel
theorem d_Ar_compares_108 : decode b_Ar_compares 108 = .ok (.iconst 0, 1) := by decide +kernel
theorem d_Ar_compares_109 : decode b_Ar_compares 109 = .ok (.ireturn, 1) := by decide +kernel
theorem d_Ar_compares_110 : decode b_Ar_compares 110 = .ok (.lload_n 3, 1) := by decide +kernel
theorem d_Ar_compares_111 : decode b_Ar_compares 111 = .ok (.lload_n 1, 1) := by decide +kernel
theorem d_Ar_compares_112 : decode b_Ar_compares 112 = .ok (.invokestatic 13, 3) := by decide +kernel
theorem d_Ar_compares_115 : decode b_Ar_compares 115 = .ok (.ireturn, 1) := by decide +kernel
theorem d_Ar_compares_116 : decode b_Ar_compares 116 = .ok (.lload_n 1, 1) := by decide +kernel
theorem d_Ar_compares_117 : decode b_Ar_compares 117 = .ok (.lload_n 3, 1) := by decide +kernel
theorem d_Ar_compares_118 : decode b_Ar_compares 118 = .ok (.lcmp, 1) := by decide +kernel
theorem d_Ar_compares_119 : decode b_Ar_compares 119 = .ok (.ifCond .gt 7, 3) := by decide +kernel
theorem d_Ar_compares_122 : decode b_Ar_compares 122 = .ok (.iconst 1, 1) := by decide +kernel
theorem d_Ar_compares_123 : decode b_Ar_compares 123 = .ok (.goto 4, 3) := by decide +kernel
theorem d_Ar_compares_126 : decode b_Ar_compares 126 = .ok (.iconst 0, 1) := by decide +kernel
theorem d_Ar_compares_127 : decode b_Ar_compares 127 = .ok (.ireturn, 1) := by decide +kernel
theorem d_Ar_compares_128 : decode b_Ar_compares 128 = .ok (.lload_n 3, 1) := by decide +kernel
theorem d_Ar_compares_129 : decode b_Ar_compares 129 = .ok (.lload_n 1, 1) := by decide +kernel
theorem d_Ar_compares_130 : decode b_Ar_compares 130 = .ok (.invokestatic 13, 3) := by decide +kernel
theorem d_Ar_compares_133 : decode b_Ar_compares 133 = .ok (.ifCond .ne 7, 3) := by decide +kernel
theorem d_Ar_compares_136 : decode b_Ar_compares 136 = .ok (.iconst 1, 1) := by decide +kernel
theorem d_Ar_compares_137 : decode b_Ar_compares 137 = .ok (.goto 4, 3) := by decide +kernel
theorem d_Ar_compares_140 : decode b_Ar_compares 140 = .ok (.iconst 0, 1) := by decide +kernel
theorem d_Ar_compares_141 : decode b_Ar_compares 141 = .ok (.ireturn, 1) := by decide +kernel
theorem d_Ar_compares_142 : decode b_Ar_compares 142 = .ok (.lload_n 1, 1) := by decide +kernel
theorem d_Ar_compares_143 : decode b_Ar_compares 143 = .ok (.lload_n 3, 1) := by decide +kernel
theorem d_Ar_compares_144 : decode b_Ar_compares 144 = .ok (.lcmp, 1) := by decide +kernel
theorem d_Ar_compares_145 : decode b_Ar_compares 145 = .ok (.ifCond .lt 7, 3) := by decide +kernel
theorem d_Ar_compares_148 : decode b_Ar_compares 148 = .ok (.iconst 1, 1) := by decide +kernel
theorem d_Ar_compares_149 : decode b_Ar_compares 149 = .ok (.goto 4, 3) := by decide +kernel
theorem d_Ar_compares_152 : decode b_Ar_compares 152 = .ok (.iconst 0, 1) := by decide +kernel
theorem d_Ar_compares_153 : decode b_Ar_compares 153 = .ok (.ireturn, 1) := by decide +kernel
theorem d_Ar_compares_154 : decode b_Ar_compares 154 = .ok (.lload_n 1, 1) := by decide +kernel
theorem d_Ar_compares_155 : decode b_Ar_compares 155 = .ok (.lload_n 3, 1) := by decide +kernel
theorem d_Ar_compares_156 : decode b_Ar_compares 156 = .ok (.invokestatic 13, 3) := by decide +kernel
theorem d_Ar_compares_159 : decode b_Ar_compares 159 = .ok (.ifCond .ne 7, 3) := by decide +kernel
theorem d_Ar_compares_162 : decode b_Ar_compares 162 = .ok (.iconst 1, 1) := by decide +kernel
theorem d_Ar_compares_163 : decode b_Ar_compares 163 = .ok (.goto 4, 3) := by decide +kernel
theorem d_Ar_compares_166 : decode b_Ar_compares 166 = .ok (.iconst 0, 1) := by decide +kernel
theorem d_Ar_compares_167 : decode b_Ar_compares 167 = .ok (.ireturn, 1) := by decide +kernel
theorem d_Ar_reasonAgainst_0 : decode b_Ar_reasonAgainst 0 = .ok (.iload_n 0, 1) := by decide +kernel
theorem d_Ar_reasonAgainst_1 : decode b_Ar_reasonAgainst 1 = .ok (.bipush 109, 2) := by decide +kernel
theorem d_Ar_reasonAgainst_3 : decode b_Ar_reasonAgainst 3 = .ok (.if_icmp .lt 9, 3) := by decide +kernel
theorem d_Ar_reasonAgainst_6 : decode b_Ar_reasonAgainst 6 = .ok (.iload_n 0, 1) := by decide +kernel
theorem d_Ar_reasonAgainst_7 : decode b_Ar_reasonAgainst 7 = .ok (.bipush 112, 2) := by decide +kernel
theorem d_Ar_reasonAgainst_9 : decode b_Ar_reasonAgainst 9 = .ok (.if_icmp .le 5, 3) := by decide +kernel
theorem d_Ar_reasonAgainst_12 : decode b_Ar_reasonAgainst 12 = .ok (.iconst 0, 1) := by decide +kernel
theorem d_Ar_reasonAgainst_13 : decode b_Ar_reasonAgainst 13 = .ok (.ireturn, 1) := by decide +kernel
theorem d_Ar_reasonAgainst_14 : decode b_Ar_reasonAgainst 14 = .ok (.lload_n 3, 1) := by decide +kernel
theorem d_Ar_reasonAgainst_15 : decode b_Ar_reasonAgainst 15 = .ok (.lconst 0, 1) := by decide +kernel
theorem d_Ar_reasonAgainst_16 : decode b_Ar_reasonAgainst 16 = .ok (.lcmp, 1) := by decide +kernel
theorem d_Ar_reasonAgainst_17 : decode b_Ar_reasonAgainst 17 = .ok (.ifCond .ne 5, 3) := by decide +kernel
theorem d_Ar_reasonAgainst_20 : decode b_Ar_reasonAgainst 20 = .ok (.iconst 4, 1) := by decide +kernel
theorem d_Ar_reasonAgainst_21 : decode b_Ar_reasonAgainst 21 = .ok (.ireturn, 1) := by decide +kernel
theorem d_Ar_reasonAgainst_22 : decode b_Ar_reasonAgainst 22 = .ok (.iload_n 0, 1) := by decide +kernel
theorem d_Ar_reasonAgainst_23 : decode b_Ar_reasonAgainst 23 = .ok (.bipush 109, 2) := by decide +kernel
theorem d_Ar_reasonAgainst_25 : decode b_Ar_reasonAgainst 25 = .ok (.if_icmp .ne 22, 3) := by decide +kernel
theorem d_Ar_reasonAgainst_28 : decode b_Ar_reasonAgainst 28 = .ok (.lload_n 1, 1) := by decide +kernel
theorem d_Ar_reasonAgainst_29 : decode b_Ar_reasonAgainst 29 = .ok (.lload 5, 2) := by decide +kernel
theorem d_Ar_reasonAgainst_31 : decode b_Ar_reasonAgainst 31 = .ok (.lcmp, 1) := by decide +kernel
theorem d_Ar_reasonAgainst_32 : decode b_Ar_reasonAgainst 32 = .ok (.ifCond .ne 15, 3) := by decide +kernel
theorem d_Ar_reasonAgainst_35 : decode b_Ar_reasonAgainst 35 = .ok (.lload_n 3, 1) := by decide +kernel
theorem d_Ar_reasonAgainst_36 : decode b_Ar_reasonAgainst 36 = .ok (.ldc2_w 19, 3) := by decide +kernel
theorem d_Ar_reasonAgainst_39 : decode b_Ar_reasonAgainst 39 = .ok (.lcmp, 1) := by decide +kernel
theorem d_Ar_reasonAgainst_40 : decode b_Ar_reasonAgainst 40 = .ok (.ifCond .ne 7, 3) := by decide +kernel
theorem d_Ar_reasonAgainst_43 : decode b_Ar_reasonAgainst 43 = .ok (.iconst 5, 1) := by decide +kernel
theorem d_Ar_reasonAgainst_44 : decode b_Ar_reasonAgainst 44 = .ok (.goto 4, 3) := by decide +kernel
theorem d_Ar_reasonAgainst_47 : decode b_Ar_reasonAgainst 47 = .ok (.iconst 0, 1) := by decide +kernel
theorem d_Ar_reasonAgainst_48 : decode b_Ar_reasonAgainst 48 = .ok (.ireturn, 1) := by decide +kernel
theorem d_Ar_filled_0 : decode b_Ar_filled 0 = .ok (.lload_n 0, 1) := by decide +kernel
theorem d_Ar_filled_1 : decode b_Ar_filled 1 = .ok (.lstore_n 2, 1) := by decide +kernel
theorem d_Ar_filled_2 : decode b_Ar_filled 2 = .ok (.iconst 1, 1) := by decide +kernel
theorem d_Ar_filled_3 : decode b_Ar_filled 3 = .ok (.istore 4, 2) := by decide +kernel
theorem d_Ar_filled_5 : decode b_Ar_filled 5 = .ok (.iload 4, 2) := by decide +kernel
theorem d_Ar_filled_7 : decode b_Ar_filled 7 = .ok (.bipush 64, 2) := by decide +kernel
theorem d_Ar_filled_9 : decode b_Ar_filled 9 = .ok (.if_icmp .ge 19, 3) := by decide +kernel
theorem d_Ar_filled_12 : decode b_Ar_filled 12 = .ok (.lload_n 2, 1) := by decide +kernel
theorem d_Ar_filled_13 : decode b_Ar_filled 13 = .ok (.lload_n 2, 1) := by decide +kernel
theorem d_Ar_filled_14 : decode b_Ar_filled 14 = .ok (.iload 4, 2) := by decide +kernel
theorem d_Ar_filled_16 : decode b_Ar_filled 16 = .ok (.lushr, 1) := by decide +kernel
theorem d_Ar_filled_17 : decode b_Ar_filled 17 = .ok (.lor, 1) := by decide +kernel
theorem d_Ar_filled_18 : decode b_Ar_filled 18 = .ok (.lstore_n 2, 1) := by decide +kernel
theorem d_Ar_filled_19 : decode b_Ar_filled 19 = .ok (.iload 4, 2) := by decide +kernel
theorem d_Ar_filled_21 : decode b_Ar_filled 21 = .ok (.iconst 2, 1) := by decide +kernel
theorem d_Ar_filled_22 : decode b_Ar_filled 22 = .ok (.imul, 1) := by decide +kernel
theorem d_Ar_filled_23 : decode b_Ar_filled 23 = .ok (.istore 4, 2) := by decide +kernel
theorem d_Ar_filled_25 : decode b_Ar_filled 25 = .ok (.goto (-20), 3) := by decide +kernel
theorem d_Ar_filled_28 : decode b_Ar_filled 28 = .ok (.lload_n 2, 1) := by decide +kernel
theorem d_Ar_filled_29 : decode b_Ar_filled 29 = .ok (.lreturn, 1) := by decide +kernel
theorem d_J_Integer_bitCount_0 : decode b_J_Integer_bitCount 0 = .ok (.iload_n 0, 1) := by decide +kernel
theorem d_J_Integer_bitCount_1 : decode b_J_Integer_bitCount 1 = .ok (.iload_n 0, 1) := by decide +kernel
theorem d_J_Integer_bitCount_2 : decode b_J_Integer_bitCount 2 = .ok (.iconst 1, 1) := by decide +kernel
theorem d_J_Integer_bitCount_3 : decode b_J_Integer_bitCount 3 = .ok (.iushr, 1) := by decide +kernel
theorem d_J_Integer_bitCount_4 : decode b_J_Integer_bitCount 4 = .ok (.ldc_w 265, 3) := by decide +kernel
theorem d_J_Integer_bitCount_7 : decode b_J_Integer_bitCount 7 = .ok (.iand, 1) := by decide +kernel
theorem d_J_Integer_bitCount_8 : decode b_J_Integer_bitCount 8 = .ok (.isub, 1) := by decide +kernel
theorem d_J_Integer_bitCount_9 : decode b_J_Integer_bitCount 9 = .ok (.istore_n 0, 1) := by decide +kernel
theorem d_J_Integer_bitCount_10 : decode b_J_Integer_bitCount 10 = .ok (.iload_n 0, 1) := by decide +kernel
theorem d_J_Integer_bitCount_11 : decode b_J_Integer_bitCount 11 = .ok (.ldc_w 266, 3) := by decide +kernel
theorem d_J_Integer_bitCount_14 : decode b_J_Integer_bitCount 14 = .ok (.iand, 1) := by decide +kernel
theorem d_J_Integer_bitCount_15 : decode b_J_Integer_bitCount 15 = .ok (.iload_n 0, 1) := by decide +kernel
theorem d_J_Integer_bitCount_16 : decode b_J_Integer_bitCount 16 = .ok (.iconst 2, 1) := by decide +kernel
theorem d_J_Integer_bitCount_17 : decode b_J_Integer_bitCount 17 = .ok (.iushr, 1) := by decide +kernel
theorem d_J_Integer_bitCount_18 : decode b_J_Integer_bitCount 18 = .ok (.ldc_w 266, 3) := by decide +kernel
theorem d_J_Integer_bitCount_21 : decode b_J_Integer_bitCount 21 = .ok (.iand, 1) := by decide +kernel
theorem d_J_Integer_bitCount_22 : decode b_J_Integer_bitCount 22 = .ok (.iadd, 1) := by decide +kernel
theorem d_J_Integer_bitCount_23 : decode b_J_Integer_bitCount 23 = .ok (.istore_n 0, 1) := by decide +kernel
theorem d_J_Integer_bitCount_24 : decode b_J_Integer_bitCount 24 = .ok (.iload_n 0, 1) := by decide +kernel
theorem d_J_Integer_bitCount_25 : decode b_J_Integer_bitCount 25 = .ok (.iload_n 0, 1) := by decide +kernel
theorem d_J_Integer_bitCount_26 : decode b_J_Integer_bitCount 26 = .ok (.iconst 4, 1) := by decide +kernel
theorem d_J_Integer_bitCount_27 : decode b_J_Integer_bitCount 27 = .ok (.iushr, 1) := by decide +kernel
theorem d_J_Integer_bitCount_28 : decode b_J_Integer_bitCount 28 = .ok (.iadd, 1) := by decide +kernel
theorem d_J_Integer_bitCount_29 : decode b_J_Integer_bitCount 29 = .ok (.ldc_w 267, 3) := by decide +kernel
theorem d_J_Integer_bitCount_32 : decode b_J_Integer_bitCount 32 = .ok (.iand, 1) := by decide +kernel
theorem d_J_Integer_bitCount_33 : decode b_J_Integer_bitCount 33 = .ok (.istore_n 0, 1) := by decide +kernel
theorem d_J_Integer_bitCount_34 : decode b_J_Integer_bitCount 34 = .ok (.iload_n 0, 1) := by decide +kernel
theorem d_J_Integer_bitCount_35 : decode b_J_Integer_bitCount 35 = .ok (.iload_n 0, 1) := by decide +kernel
theorem d_J_Integer_bitCount_36 : decode b_J_Integer_bitCount 36 = .ok (.bipush 8, 2) := by decide +kernel
theorem d_J_Integer_bitCount_38 : decode b_J_Integer_bitCount 38 = .ok (.iushr, 1) := by decide +kernel
theorem d_J_Integer_bitCount_39 : decode b_J_Integer_bitCount 39 = .ok (.iadd, 1) := by decide +kernel
theorem d_J_Integer_bitCount_40 : decode b_J_Integer_bitCount 40 = .ok (.istore_n 0, 1) := by decide +kernel
theorem d_J_Integer_bitCount_41 : decode b_J_Integer_bitCount 41 = .ok (.iload_n 0, 1) := by decide +kernel
theorem d_J_Integer_bitCount_42 : decode b_J_Integer_bitCount 42 = .ok (.iload_n 0, 1) := by decide +kernel
theorem d_J_Integer_bitCount_43 : decode b_J_Integer_bitCount 43 = .ok (.bipush 16, 2) := by decide +kernel
theorem d_J_Integer_bitCount_45 : decode b_J_Integer_bitCount 45 = .ok (.iushr, 1) := by decide +kernel
theorem d_J_Integer_bitCount_46 : decode b_J_Integer_bitCount 46 = .ok (.iadd, 1) := by decide +kernel
theorem d_J_Integer_bitCount_47 : decode b_J_Integer_bitCount 47 = .ok (.istore_n 0, 1) := by decide +kernel
theorem d_J_Integer_bitCount_48 : decode b_J_Integer_bitCount 48 = .ok (.iload_n 0, 1) := by decide +kernel
theorem d_J_Integer_bitCount_49 : decode b_J_Integer_bitCount 49 = .ok (.bipush 63, 2) := by decide +kernel
theorem d_J_Integer_bitCount_51 : decode b_J_Integer_bitCount 51 = .ok (.iand, 1) := by decide +kernel
theorem d_J_Integer_bitCount_52 : decode b_J_Integer_bitCount 52 = .ok (.ireturn, 1) := by decide +kernel
theorem d_J_Long_bitCount_0 : decode b_J_Long_bitCount 0 = .ok (.lload_n 0, 1) := by decide +kernel
theorem d_J_Long_bitCount_1 : decode b_J_Long_bitCount 1 = .ok (.lload_n 0, 1) := by decide +kernel
theorem d_J_Long_bitCount_2 : decode b_J_Long_bitCount 2 = .ok (.iconst 1, 1) := by decide +kernel
theorem d_J_Long_bitCount_3 : decode b_J_Long_bitCount 3 = .ok (.lushr, 1) := by decide +kernel
theorem d_J_Long_bitCount_4 : decode b_J_Long_bitCount 4 = .ok (.ldc2_w 314, 3) := by decide +kernel
theorem d_J_Long_bitCount_7 : decode b_J_Long_bitCount 7 = .ok (.land, 1) := by decide +kernel
theorem d_J_Long_bitCount_8 : decode b_J_Long_bitCount 8 = .ok (.lsub, 1) := by decide +kernel
theorem d_J_Long_bitCount_9 : decode b_J_Long_bitCount 9 = .ok (.lstore_n 0, 1) := by decide +kernel
theorem d_J_Long_bitCount_10 : decode b_J_Long_bitCount 10 = .ok (.lload_n 0, 1) := by decide +kernel
theorem d_J_Long_bitCount_11 : decode b_J_Long_bitCount 11 = .ok (.ldc2_w 316, 3) := by decide +kernel
theorem d_J_Long_bitCount_14 : decode b_J_Long_bitCount 14 = .ok (.land, 1) := by decide +kernel
theorem d_J_Long_bitCount_15 : decode b_J_Long_bitCount 15 = .ok (.lload_n 0, 1) := by decide +kernel
theorem d_J_Long_bitCount_16 : decode b_J_Long_bitCount 16 = .ok (.iconst 2, 1) := by decide +kernel
theorem d_J_Long_bitCount_17 : decode b_J_Long_bitCount 17 = .ok (.lushr, 1) := by decide +kernel
theorem d_J_Long_bitCount_18 : decode b_J_Long_bitCount 18 = .ok (.ldc2_w 316, 3) := by decide +kernel
theorem d_J_Long_bitCount_21 : decode b_J_Long_bitCount 21 = .ok (.land, 1) := by decide +kernel
theorem d_J_Long_bitCount_22 : decode b_J_Long_bitCount 22 = .ok (.ladd, 1) := by decide +kernel
theorem d_J_Long_bitCount_23 : decode b_J_Long_bitCount 23 = .ok (.lstore_n 0, 1) := by decide +kernel
theorem d_J_Long_bitCount_24 : decode b_J_Long_bitCount 24 = .ok (.lload_n 0, 1) := by decide +kernel
theorem d_J_Long_bitCount_25 : decode b_J_Long_bitCount 25 = .ok (.lload_n 0, 1) := by decide +kernel
theorem d_J_Long_bitCount_26 : decode b_J_Long_bitCount 26 = .ok (.iconst 4, 1) := by decide +kernel
theorem d_J_Long_bitCount_27 : decode b_J_Long_bitCount 27 = .ok (.lushr, 1) := by decide +kernel
theorem d_J_Long_bitCount_28 : decode b_J_Long_bitCount 28 = .ok (.ladd, 1) := by decide +kernel
theorem d_J_Long_bitCount_29 : decode b_J_Long_bitCount 29 = .ok (.ldc2_w 318, 3) := by decide +kernel
theorem d_J_Long_bitCount_32 : decode b_J_Long_bitCount 32 = .ok (.land, 1) := by decide +kernel
theorem d_J_Long_bitCount_33 : decode b_J_Long_bitCount 33 = .ok (.lstore_n 0, 1) := by decide +kernel
theorem d_J_Long_bitCount_34 : decode b_J_Long_bitCount 34 = .ok (.lload_n 0, 1) := by decide +kernel
theorem d_J_Long_bitCount_35 : decode b_J_Long_bitCount 35 = .ok (.lload_n 0, 1) := by decide +kernel
theorem d_J_Long_bitCount_36 : decode b_J_Long_bitCount 36 = .ok (.bipush 8, 2) := by decide +kernel
theorem d_J_Long_bitCount_38 : decode b_J_Long_bitCount 38 = .ok (.lushr, 1) := by decide +kernel
theorem d_J_Long_bitCount_39 : decode b_J_Long_bitCount 39 = .ok (.ladd, 1) := by decide +kernel
theorem d_J_Long_bitCount_40 : decode b_J_Long_bitCount 40 = .ok (.lstore_n 0, 1) := by decide +kernel
theorem d_J_Long_bitCount_41 : decode b_J_Long_bitCount 41 = .ok (.lload_n 0, 1) := by decide +kernel
theorem d_J_Long_bitCount_42 : decode b_J_Long_bitCount 42 = .ok (.lload_n 0, 1) := by decide +kernel
theorem d_J_Long_bitCount_43 : decode b_J_Long_bitCount 43 = .ok (.bipush 16, 2) := by decide +kernel
theorem d_J_Long_bitCount_45 : decode b_J_Long_bitCount 45 = .ok (.lushr, 1) := by decide +kernel
theorem d_J_Long_bitCount_46 : decode b_J_Long_bitCount 46 = .ok (.ladd, 1) := by decide +kernel
theorem d_J_Long_bitCount_47 : decode b_J_Long_bitCount 47 = .ok (.lstore_n 0, 1) := by decide +kernel
theorem d_J_Long_bitCount_48 : decode b_J_Long_bitCount 48 = .ok (.lload_n 0, 1) := by decide +kernel
theorem d_J_Long_bitCount_49 : decode b_J_Long_bitCount 49 = .ok (.lload_n 0, 1) := by decide +kernel
theorem d_J_Long_bitCount_50 : decode b_J_Long_bitCount 50 = .ok (.bipush 32, 2) := by decide +kernel
theorem d_J_Long_bitCount_52 : decode b_J_Long_bitCount 52 = .ok (.lushr, 1) := by decide +kernel
theorem d_J_Long_bitCount_53 : decode b_J_Long_bitCount 53 = .ok (.ladd, 1) := by decide +kernel
theorem d_J_Long_bitCount_54 : decode b_J_Long_bitCount 54 = .ok (.lstore_n 0, 1) := by decide +kernel
theorem d_J_Long_bitCount_55 : decode b_J_Long_bitCount 55 = .ok (.lload_n 0, 1) := by decide +kernel
theorem d_J_Long_bitCount_56 : decode b_J_Long_bitCount 56 = .ok (.l2i, 1) := by decide +kernel
theorem d_J_Long_bitCount_57 : decode b_J_Long_bitCount 57 = .ok (.bipush 127, 2) := by decide +kernel
theorem d_J_Long_bitCount_59 : decode b_J_Long_bitCount 59 = .ok (.iand, 1) := by decide +kernel
theorem d_J_Long_bitCount_60 : decode b_J_Long_bitCount 60 = .ok (.ireturn, 1) := by decide +kernel
theorem d_Ar_countInt_0 : decode b_Ar_countInt 0 = .ok (.iload_n 0, 1) := by decide +kernel
theorem d_Ar_countInt_1 : decode b_Ar_countInt 1 = .ok (.lookupswitch 50 #[(103, 27), (104, 39)], 27) := by decide +kernel
theorem d_Ar_countInt_28 : decode b_Ar_countInt 28 = .ok (.iload_n 1, 1) := by decide +kernel
theorem d_Ar_countInt_29 : decode b_Ar_countInt 29 = .ok (.i2l, 1) := by decide +kernel
theorem d_Ar_countInt_30 : decode b_Ar_countInt 30 = .ok (.invokestatic 21, 3) := by decide +kernel
theorem d_Ar_countInt_33 : decode b_Ar_countInt 33 = .ok (.l2i, 1) := by decide +kernel
theorem d_Ar_countInt_34 : decode b_Ar_countInt 34 = .ok (.iconst (-1), 1) := by decide +kernel
theorem d_Ar_countInt_35 : decode b_Ar_countInt 35 = .ok (.ixor, 1) := by decide +kernel
theorem d_Ar_countInt_36 : decode b_Ar_countInt 36 = .ok (.invokestatic 25, 3) := by decide +kernel
theorem d_Ar_countInt_39 : decode b_Ar_countInt 39 = .ok (.ireturn, 1) := by decide +kernel
theorem d_Ar_countInt_40 : decode b_Ar_countInt 40 = .ok (.iload_n 1, 1) := by decide +kernel
theorem d_Ar_countInt_41 : decode b_Ar_countInt 41 = .ok (.iconst (-1), 1) := by decide +kernel
theorem d_Ar_countInt_42 : decode b_Ar_countInt 42 = .ok (.ixor, 1) := by decide +kernel
theorem d_Ar_countInt_43 : decode b_Ar_countInt 43 = .ok (.iload_n 1, 1) := by decide +kernel
theorem d_Ar_countInt_44 : decode b_Ar_countInt 44 = .ok (.iconst 1, 1) := by decide +kernel
theorem d_Ar_countInt_45 : decode b_Ar_countInt 45 = .ok (.isub, 1) := by decide +kernel
theorem d_Ar_countInt_46 : decode b_Ar_countInt 46 = .ok (.iand, 1) := by decide +kernel
theorem d_Ar_countInt_47 : decode b_Ar_countInt 47 = .ok (.invokestatic 25, 3) := by decide +kernel
theorem d_Ar_countInt_50 : decode b_Ar_countInt 50 = .ok (.ireturn, 1) := by decide +kernel
theorem d_Ar_countInt_51 : decode b_Ar_countInt 51 = .ok (.iload_n 1, 1) := by decide +kernel
theorem d_Ar_countInt_52 : decode b_Ar_countInt 52 = .ok (.invokestatic 25, 3) := by decide +kernel
theorem d_Ar_countInt_55 : decode b_Ar_countInt 55 = .ok (.ireturn, 1) := by decide +kernel
theorem d_Ar_countLong_0 : decode b_Ar_countLong 0 = .ok (.iload_n 0, 1) := by decide +kernel
theorem d_Ar_countLong_1 : decode b_Ar_countLong 1 = .ok (.lookupswitch 52 #[(103, 27), (104, 39)], 27) := by decide +kernel
theorem d_Ar_countLong_28 : decode b_Ar_countLong 28 = .ok (.lload_n 1, 1) := by decide +kernel
theorem d_Ar_countLong_29 : decode b_Ar_countLong 29 = .ok (.invokestatic 21, 3) := by decide +kernel
theorem d_Ar_countLong_32 : decode b_Ar_countLong 32 = .ok (.ldc2_w 19, 3) := by decide +kernel
theorem d_Ar_countLong_35 : decode b_Ar_countLong 35 = .ok (.lxor, 1) := by decide +kernel
theorem d_Ar_countLong_36 : decode b_Ar_countLong 36 = .ok (.invokestatic 31, 3) := by decide +kernel
theorem d_Ar_countLong_39 : decode b_Ar_countLong 39 = .ok (.ireturn, 1) := by decide +kernel
theorem d_Ar_countLong_40 : decode b_Ar_countLong 40 = .ok (.lload_n 1, 1) := by decide +kernel
theorem d_Ar_countLong_41 : decode b_Ar_countLong 41 = .ok (.ldc2_w 19, 3) := by decide +kernel
theorem d_Ar_countLong_44 : decode b_Ar_countLong 44 = .ok (.lxor, 1) := by decide +kernel
theorem d_Ar_countLong_45 : decode b_Ar_countLong 45 = .ok (.lload_n 1, 1) := by decide +kernel
theorem d_Ar_countLong_46 : decode b_Ar_countLong 46 = .ok (.lconst 1, 1) := by decide +kernel
theorem d_Ar_countLong_47 : decode b_Ar_countLong 47 = .ok (.lsub, 1) := by decide +kernel
theorem d_Ar_countLong_48 : decode b_Ar_countLong 48 = .ok (.land, 1) := by decide +kernel
theorem d_Ar_countLong_49 : decode b_Ar_countLong 49 = .ok (.invokestatic 31, 3) := by decide +kernel
theorem d_Ar_countLong_52 : decode b_Ar_countLong 52 = .ok (.ireturn, 1) := by decide +kernel
theorem d_Ar_countLong_53 : decode b_Ar_countLong 53 = .ok (.lload_n 1, 1) := by decide +kernel
theorem d_Ar_countLong_54 : decode b_Ar_countLong 54 = .ok (.invokestatic 31, 3) := by decide +kernel
theorem d_Ar_countLong_57 : decode b_Ar_countLong 57 = .ok (.ireturn, 1) := by decide +kernel
theorem d_Ar_quotient_0 : decode b_Ar_quotient 0 = .ok (.lload_n 2, 1) := by decide +kernel
theorem d_Ar_quotient_1 : decode b_Ar_quotient 1 = .ok (.lconst 0, 1) := by decide +kernel
theorem d_Ar_quotient_2 : decode b_Ar_quotient 2 = .ok (.lcmp, 1) := by decide +kernel
theorem d_Ar_quotient_3 : decode b_Ar_quotient 3 = .ok (.ifCond .ne 5, 3) := by decide +kernel
theorem d_Ar_quotient_6 : decode b_Ar_quotient 6 = .ok (.lconst 0, 1) := by decide +kernel
theorem d_Ar_quotient_7 : decode b_Ar_quotient 7 = .ok (.lreturn, 1) := by decide +kernel
theorem d_Ar_quotient_8 : decode b_Ar_quotient 8 = .ok (.lload_n 2, 1) := by decide +kernel
theorem d_Ar_quotient_9 : decode b_Ar_quotient 9 = .ok (.lconst 0, 1) := by decide +kernel
theorem d_Ar_quotient_10 : decode b_Ar_quotient 10 = .ok (.lcmp, 1) := by decide +kernel
theorem d_Ar_quotient_11 : decode b_Ar_quotient 11 = .ok (.ifCond .ge 17, 3) := by decide +kernel
theorem d_Ar_quotient_14 : decode b_Ar_quotient 14 = .ok (.lload_n 0, 1) := by decide +kernel
theorem d_Ar_quotient_15 : decode b_Ar_quotient 15 = .ok (.lload_n 2, 1) := by decide +kernel
theorem d_Ar_quotient_16 : decode b_Ar_quotient 16 = .ok (.invokestatic 13, 3) := by decide +kernel
theorem d_Ar_quotient_19 : decode b_Ar_quotient 19 = .ok (.ifCond .eq 7, 3) := by decide +kernel
theorem d_Ar_quotient_22 : decode b_Ar_quotient 22 = .ok (.lconst 0, 1) := by decide +kernel
theorem d_Ar_quotient_23 : decode b_Ar_quotient 23 = .ok (.goto 4, 3) := by decide +kernel
theorem d_Ar_quotient_26 : decode b_Ar_quotient 26 = .ok (.lconst 1, 1) := by decide +kernel
theorem d_Ar_quotient_27 : decode b_Ar_quotient 27 = .ok (.lreturn, 1) := by decide +kernel
theorem d_Ar_quotient_28 : decode b_Ar_quotient 28 = .ok (.lload_n 0, 1) := by decide +kernel
theorem d_Ar_quotient_29 : decode b_Ar_quotient 29 = .ok (.iconst 1, 1) := by decide +kernel
theorem d_Ar_quotient_30 : decode b_Ar_quotient 30 = .ok (.lushr, 1) := by decide +kernel
theorem d_Ar_quotient_31 : decode b_Ar_quotient 31 = .ok (.lload_n 2, 1) := by decide +kernel
theorem d_Ar_quotient_32 : decode b_Ar_quotient 32 = .ok (.ldiv, 1) := by decide +kernel
theorem d_Ar_quotient_33 : decode b_Ar_quotient 33 = .ok (.iconst 1, 1) := by decide +kernel
theorem d_Ar_quotient_34 : decode b_Ar_quotient 34 = .ok (.lshl, 1) := by decide +kernel
theorem d_Ar_quotient_35 : decode b_Ar_quotient 35 = .ok (.lstore 4, 2) := by decide +kernel
theorem d_Ar_quotient_37 : decode b_Ar_quotient 37 = .ok (.lload_n 0, 1) := by decide +kernel
theorem d_Ar_quotient_38 : decode b_Ar_quotient 38 = .ok (.lload 4, 2) := by decide +kernel
theorem d_Ar_quotient_40 : decode b_Ar_quotient 40 = .ok (.lload_n 2, 1) := by decide +kernel
theorem d_Ar_quotient_41 : decode b_Ar_quotient 41 = .ok (.lmul, 1) := by decide +kernel
theorem d_Ar_quotient_42 : decode b_Ar_quotient 42 = .ok (.lsub, 1) := by decide +kernel
theorem d_Ar_quotient_43 : decode b_Ar_quotient 43 = .ok (.lload_n 2, 1) := by decide +kernel
theorem d_Ar_quotient_44 : decode b_Ar_quotient 44 = .ok (.invokestatic 13, 3) := by decide +kernel
theorem d_Ar_quotient_47 : decode b_Ar_quotient 47 = .ok (.ifCond .eq 8, 3) := by decide +kernel
theorem d_Ar_quotient_50 : decode b_Ar_quotient 50 = .ok (.lload 4, 2) := by decide +kernel
theorem d_Ar_quotient_52 : decode b_Ar_quotient 52 = .ok (.goto 7, 3) := by decide +kernel
theorem d_Ar_quotient_55 : decode b_Ar_quotient 55 = .ok (.lload 4, 2) := by decide +kernel
theorem d_Ar_quotient_57 : decode b_Ar_quotient 57 = .ok (.lconst 1, 1) := by decide +kernel
theorem d_Ar_quotient_58 : decode b_Ar_quotient 58 = .ok (.ladd, 1) := by decide +kernel
theorem d_Ar_quotient_59 : decode b_Ar_quotient 59 = .ok (.lreturn, 1) := by decide +kernel
theorem d_Ar_joinLongs_0 : decode b_Ar_joinLongs 0 = .ok (.iload_n 0, 1) := by decide +kernel
theorem d_Ar_joinLongs_1 : decode b_Ar_joinLongs 1 = .ok (.tableswitch 165 106 119 #[71, 75, 79, 83, 97, 103, 117, 127, 131, 135, 139, 144, 149, 154], 71) := by decide +kernel
theorem d_Ar_joinLongs_72 : decode b_Ar_joinLongs 72 = .ok (.lload_n 1, 1) := by decide +kernel
theorem d_Ar_joinLongs_73 : decode b_Ar_joinLongs 73 = .ok (.lload_n 3, 1) := by decide +kernel
theorem d_Ar_joinLongs_74 : decode b_Ar_joinLongs 74 = .ok (.ladd, 1) := by decide +kernel
theorem d_Ar_joinLongs_75 : decode b_Ar_joinLongs 75 = .ok (.lreturn, 1) := by decide +kernel
theorem d_Ar_joinLongs_76 : decode b_Ar_joinLongs 76 = .ok (.lload_n 1, 1) := by decide +kernel
theorem d_Ar_joinLongs_77 : decode b_Ar_joinLongs 77 = .ok (.lload_n 3, 1) := by decide +kernel
theorem d_Ar_joinLongs_78 : decode b_Ar_joinLongs 78 = .ok (.lsub, 1) := by decide +kernel
theorem d_Ar_joinLongs_79 : decode b_Ar_joinLongs 79 = .ok (.lreturn, 1) := by decide +kernel
theorem d_Ar_joinLongs_80 : decode b_Ar_joinLongs 80 = .ok (.lload_n 1, 1) := by decide +kernel
theorem d_Ar_joinLongs_81 : decode b_Ar_joinLongs 81 = .ok (.lload_n 3, 1) := by decide +kernel
theorem d_Ar_joinLongs_82 : decode b_Ar_joinLongs 82 = .ok (.lmul, 1) := by decide +kernel
theorem d_Ar_joinLongs_83 : decode b_Ar_joinLongs 83 = .ok (.lreturn, 1) := by decide +kernel
theorem d_Ar_joinLongs_84 : decode b_Ar_joinLongs 84 = .ok (.lload_n 3, 1) := by decide +kernel
theorem d_Ar_joinLongs_85 : decode b_Ar_joinLongs 85 = .ok (.lconst 0, 1) := by decide +kernel
theorem d_Ar_joinLongs_86 : decode b_Ar_joinLongs 86 = .ok (.lcmp, 1) := by decide +kernel
theorem d_Ar_joinLongs_87 : decode b_Ar_joinLongs 87 = .ok (.ifCond .ne 7, 3) := by decide +kernel
theorem d_Ar_joinLongs_90 : decode b_Ar_joinLongs 90 = .ok (.lconst 0, 1) := by decide +kernel
theorem d_Ar_joinLongs_91 : decode b_Ar_joinLongs 91 = .ok (.goto 6, 3) := by decide +kernel
theorem d_Ar_joinLongs_94 : decode b_Ar_joinLongs 94 = .ok (.lload_n 1, 1) := by decide +kernel
theorem d_Ar_joinLongs_95 : decode b_Ar_joinLongs 95 = .ok (.lload_n 3, 1) := by decide +kernel
theorem d_Ar_joinLongs_96 : decode b_Ar_joinLongs 96 = .ok (.ldiv, 1) := by decide +kernel
theorem d_Ar_joinLongs_97 : decode b_Ar_joinLongs 97 = .ok (.lreturn, 1) := by decide +kernel
theorem d_Ar_joinLongs_98 : decode b_Ar_joinLongs 98 = .ok (.lload_n 1, 1) := by decide +kernel
theorem d_Ar_joinLongs_99 : decode b_Ar_joinLongs 99 = .ok (.lload_n 3, 1) := by decide +kernel
theorem d_Ar_joinLongs_100 : decode b_Ar_joinLongs 100 = .ok (.invokestatic 42, 3) := by decide +kernel
theorem d_Ar_joinLongs_103 : decode b_Ar_joinLongs 103 = .ok (.lreturn, 1) := by decide +kernel
theorem d_Ar_joinLongs_104 : decode b_Ar_joinLongs 104 = .ok (.lload_n 3, 1) := by decide +kernel
theorem d_Ar_joinLongs_105 : decode b_Ar_joinLongs 105 = .ok (.lconst 0, 1) := by decide +kernel
theorem d_Ar_joinLongs_106 : decode b_Ar_joinLongs 106 = .ok (.lcmp, 1) := by decide +kernel
theorem d_Ar_joinLongs_107 : decode b_Ar_joinLongs 107 = .ok (.ifCond .ne 7, 3) := by decide +kernel
theorem d_Ar_joinLongs_110 : decode b_Ar_joinLongs 110 = .ok (.lconst 0, 1) := by decide +kernel
theorem d_Ar_joinLongs_111 : decode b_Ar_joinLongs 111 = .ok (.goto 6, 3) := by decide +kernel
theorem d_Ar_joinLongs_114 : decode b_Ar_joinLongs 114 = .ok (.lload_n 1, 1) := by decide +kernel
theorem d_Ar_joinLongs_115 : decode b_Ar_joinLongs 115 = .ok (.lload_n 3, 1) := by decide +kernel
theorem d_Ar_joinLongs_116 : decode b_Ar_joinLongs 116 = .ok (.lrem, 1) := by decide +kernel
theorem d_Ar_joinLongs_117 : decode b_Ar_joinLongs 117 = .ok (.lreturn, 1) := by decide +kernel
theorem d_Ar_joinLongs_118 : decode b_Ar_joinLongs 118 = .ok (.lload_n 1, 1) := by decide +kernel
theorem d_Ar_joinLongs_119 : decode b_Ar_joinLongs 119 = .ok (.lload_n 1, 1) := by decide +kernel
theorem d_Ar_joinLongs_120 : decode b_Ar_joinLongs 120 = .ok (.lload_n 3, 1) := by decide +kernel
theorem d_Ar_joinLongs_121 : decode b_Ar_joinLongs 121 = .ok (.invokestatic 42, 3) := by decide +kernel
theorem d_Ar_joinLongs_124 : decode b_Ar_joinLongs 124 = .ok (.lload_n 3, 1) := by decide +kernel
theorem d_Ar_joinLongs_125 : decode b_Ar_joinLongs 125 = .ok (.lmul, 1) := by decide +kernel
theorem d_Ar_joinLongs_126 : decode b_Ar_joinLongs 126 = .ok (.lsub, 1) := by decide +kernel
theorem d_Ar_joinLongs_127 : decode b_Ar_joinLongs 127 = .ok (.lreturn, 1) := by decide +kernel
theorem d_Ar_joinLongs_128 : decode b_Ar_joinLongs 128 = .ok (.lload_n 1, 1) := by decide +kernel
theorem d_Ar_joinLongs_129 : decode b_Ar_joinLongs 129 = .ok (.lload_n 3, 1) := by decide +kernel
theorem d_Ar_joinLongs_130 : decode b_Ar_joinLongs 130 = .ok (.land, 1) := by decide +kernel
theorem d_Ar_joinLongs_131 : decode b_Ar_joinLongs 131 = .ok (.lreturn, 1) := by decide +kernel
theorem d_Ar_joinLongs_132 : decode b_Ar_joinLongs 132 = .ok (.lload_n 1, 1) := by decide +kernel
theorem d_Ar_joinLongs_133 : decode b_Ar_joinLongs 133 = .ok (.lload_n 3, 1) := by decide +kernel
theorem d_Ar_joinLongs_134 : decode b_Ar_joinLongs 134 = .ok (.lor, 1) := by decide +kernel
theorem d_Ar_joinLongs_135 : decode b_Ar_joinLongs 135 = .ok (.lreturn, 1) := by decide +kernel
theorem d_Ar_joinLongs_136 : decode b_Ar_joinLongs 136 = .ok (.lload_n 1, 1) := by decide +kernel
theorem d_Ar_joinLongs_137 : decode b_Ar_joinLongs 137 = .ok (.lload_n 3, 1) := by decide +kernel
theorem d_Ar_joinLongs_138 : decode b_Ar_joinLongs 138 = .ok (.lxor, 1) := by decide +kernel
theorem d_Ar_joinLongs_139 : decode b_Ar_joinLongs 139 = .ok (.lreturn, 1) := by decide +kernel
theorem d_Ar_joinLongs_140 : decode b_Ar_joinLongs 140 = .ok (.lload_n 1, 1) := by decide +kernel
theorem d_Ar_joinLongs_141 : decode b_Ar_joinLongs 141 = .ok (.lload_n 3, 1) := by decide +kernel
theorem d_Ar_joinLongs_142 : decode b_Ar_joinLongs 142 = .ok (.l2i, 1) := by decide +kernel
theorem d_Ar_joinLongs_143 : decode b_Ar_joinLongs 143 = .ok (.lshl, 1) := by decide +kernel
theorem d_Ar_joinLongs_144 : decode b_Ar_joinLongs 144 = .ok (.lreturn, 1) := by decide +kernel
theorem d_Ar_joinLongs_145 : decode b_Ar_joinLongs 145 = .ok (.lload_n 1, 1) := by decide +kernel
theorem d_Ar_joinLongs_146 : decode b_Ar_joinLongs 146 = .ok (.lload_n 3, 1) := by decide +kernel
theorem d_Ar_joinLongs_147 : decode b_Ar_joinLongs 147 = .ok (.l2i, 1) := by decide +kernel
theorem d_Ar_joinLongs_148 : decode b_Ar_joinLongs 148 = .ok (.lshr, 1) := by decide +kernel
theorem d_Ar_joinLongs_149 : decode b_Ar_joinLongs 149 = .ok (.lreturn, 1) := by decide +kernel
theorem d_Ar_joinLongs_150 : decode b_Ar_joinLongs 150 = .ok (.lload_n 1, 1) := by decide +kernel
theorem d_Ar_joinLongs_151 : decode b_Ar_joinLongs 151 = .ok (.lload_n 3, 1) := by decide +kernel
theorem d_Ar_joinLongs_152 : decode b_Ar_joinLongs 152 = .ok (.l2i, 1) := by decide +kernel
theorem d_Ar_joinLongs_153 : decode b_Ar_joinLongs 153 = .ok (.lushr, 1) := by decide +kernel
theorem d_Ar_joinLongs_154 : decode b_Ar_joinLongs 154 = .ok (.lreturn, 1) := by decide +kernel
theorem d_Ar_joinLongs_155 : decode b_Ar_joinLongs 155 = .ok (.lload_n 1, 1) := by decide +kernel
theorem d_Ar_joinLongs_156 : decode b_Ar_joinLongs 156 = .ok (.lload_n 3, 1) := by decide +kernel
theorem d_Ar_joinLongs_157 : decode b_Ar_joinLongs 157 = .ok (.l2i, 1) := by decide +kernel
theorem d_Ar_joinLongs_158 : decode b_Ar_joinLongs 158 = .ok (.lshl, 1) := by decide +kernel
theorem d_Ar_joinLongs_159 : decode b_Ar_joinLongs 159 = .ok (.lload_n 1, 1) := by decide +kernel
theorem d_Ar_joinLongs_160 : decode b_Ar_joinLongs 160 = .ok (.lload_n 3, 1) := by decide +kernel
theorem d_Ar_joinLongs_161 : decode b_Ar_joinLongs 161 = .ok (.lneg, 1) := by decide +kernel
theorem d_Ar_joinLongs_162 : decode b_Ar_joinLongs 162 = .ok (.l2i, 1) := by decide +kernel
theorem d_Ar_joinLongs_163 : decode b_Ar_joinLongs 163 = .ok (.lushr, 1) := by decide +kernel
theorem d_Ar_joinLongs_164 : decode b_Ar_joinLongs 164 = .ok (.lor, 1) := by decide +kernel
theorem d_Ar_joinLongs_165 : decode b_Ar_joinLongs 165 = .ok (.lreturn, 1) := by decide +kernel
theorem d_Ar_joinLongs_166 : decode b_Ar_joinLongs 166 = .ok (.lload_n 1, 1) := by decide +kernel
theorem d_Ar_joinLongs_167 : decode b_Ar_joinLongs 167 = .ok (.lload_n 3, 1) := by decide +kernel
theorem d_Ar_joinLongs_168 : decode b_Ar_joinLongs 168 = .ok (.l2i, 1) := by decide +kernel
theorem d_Ar_joinLongs_169 : decode b_Ar_joinLongs 169 = .ok (.lushr, 1) := by decide +kernel
theorem d_Ar_joinLongs_170 : decode b_Ar_joinLongs 170 = .ok (.lload_n 1, 1) := by decide +kernel
theorem d_Ar_joinLongs_171 : decode b_Ar_joinLongs 171 = .ok (.lload_n 3, 1) := by decide +kernel
theorem d_Ar_joinLongs_172 : decode b_Ar_joinLongs 172 = .ok (.lneg, 1) := by decide +kernel
theorem d_Ar_joinLongs_173 : decode b_Ar_joinLongs 173 = .ok (.l2i, 1) := by decide +kernel
theorem d_Ar_joinLongs_174 : decode b_Ar_joinLongs 174 = .ok (.lshl, 1) := by decide +kernel
theorem d_Ar_joinLongs_175 : decode b_Ar_joinLongs 175 = .ok (.lor, 1) := by decide +kernel
theorem d_Ar_joinLongs_176 : decode b_Ar_joinLongs 176 = .ok (.lreturn, 1) := by decide +kernel
theorem d_Ar_joinInts_0 : decode b_Ar_joinInts 0 = .ok (.iload_n 0, 1) := by decide +kernel
theorem d_Ar_joinInts_1 : decode b_Ar_joinInts 1 = .ok (.tableswitch 107 110 120 #[59, 107, 59, 107, 107, 107, 77, 81, 85, 89, 98], 59) := by decide +kernel
theorem d_Ar_joinInts_60 : decode b_Ar_joinInts 60 = .ok (.iload_n 0, 1) := by decide +kernel
theorem d_Ar_joinInts_61 : decode b_Ar_joinInts 61 = .ok (.iload_n 1, 1) := by decide +kernel
theorem d_Ar_joinInts_62 : decode b_Ar_joinInts 62 = .ok (.i2l, 1) := by decide +kernel
theorem d_Ar_joinInts_63 : decode b_Ar_joinInts 63 = .ok (.ldc2_w 36, 3) := by decide +kernel
theorem d_Ar_joinInts_66 : decode b_Ar_joinInts 66 = .ok (.land, 1) := by decide +kernel
theorem d_Ar_joinInts_67 : decode b_Ar_joinInts 67 = .ok (.iload_n 2, 1) := by decide +kernel
theorem d_Ar_joinInts_68 : decode b_Ar_joinInts 68 = .ok (.i2l, 1) := by decide +kernel
theorem d_Ar_joinInts_69 : decode b_Ar_joinInts 69 = .ok (.ldc2_w 36, 3) := by decide +kernel
theorem d_Ar_joinInts_72 : decode b_Ar_joinInts 72 = .ok (.land, 1) := by decide +kernel
theorem d_Ar_joinInts_73 : decode b_Ar_joinInts 73 = .ok (.invokestatic 38, 3) := by decide +kernel
theorem d_Ar_joinInts_76 : decode b_Ar_joinInts 76 = .ok (.l2i, 1) := by decide +kernel
theorem d_Ar_joinInts_77 : decode b_Ar_joinInts 77 = .ok (.ireturn, 1) := by decide +kernel
theorem d_Ar_joinInts_78 : decode b_Ar_joinInts 78 = .ok (.iload_n 1, 1) := by decide +kernel
theorem d_Ar_joinInts_79 : decode b_Ar_joinInts 79 = .ok (.iload_n 2, 1) := by decide +kernel
theorem d_Ar_joinInts_80 : decode b_Ar_joinInts 80 = .ok (.ishl, 1) := by decide +kernel
theorem d_Ar_joinInts_81 : decode b_Ar_joinInts 81 = .ok (.ireturn, 1) := by decide +kernel
theorem d_Ar_joinInts_82 : decode b_Ar_joinInts 82 = .ok (.iload_n 1, 1) := by decide +kernel
theorem d_Ar_joinInts_83 : decode b_Ar_joinInts 83 = .ok (.iload_n 2, 1) := by decide +kernel
theorem d_Ar_joinInts_84 : decode b_Ar_joinInts 84 = .ok (.ishr, 1) := by decide +kernel
theorem d_Ar_joinInts_85 : decode b_Ar_joinInts 85 = .ok (.ireturn, 1) := by decide +kernel
theorem d_Ar_joinInts_86 : decode b_Ar_joinInts 86 = .ok (.iload_n 1, 1) := by decide +kernel
theorem d_Ar_joinInts_87 : decode b_Ar_joinInts 87 = .ok (.iload_n 2, 1) := by decide +kernel
theorem d_Ar_joinInts_88 : decode b_Ar_joinInts 88 = .ok (.iushr, 1) := by decide +kernel
theorem d_Ar_joinInts_89 : decode b_Ar_joinInts 89 = .ok (.ireturn, 1) := by decide +kernel
theorem d_Ar_joinInts_90 : decode b_Ar_joinInts 90 = .ok (.iload_n 1, 1) := by decide +kernel
theorem d_Ar_joinInts_91 : decode b_Ar_joinInts 91 = .ok (.iload_n 2, 1) := by decide +kernel
theorem d_Ar_joinInts_92 : decode b_Ar_joinInts 92 = .ok (.ishl, 1) := by decide +kernel
theorem d_Ar_joinInts_93 : decode b_Ar_joinInts 93 = .ok (.iload_n 1, 1) := by decide +kernel
theorem d_Ar_joinInts_94 : decode b_Ar_joinInts 94 = .ok (.iload_n 2, 1) := by decide +kernel
theorem d_Ar_joinInts_95 : decode b_Ar_joinInts 95 = .ok (.ineg, 1) := by decide +kernel
theorem d_Ar_joinInts_96 : decode b_Ar_joinInts 96 = .ok (.iushr, 1) := by decide +kernel
theorem d_Ar_joinInts_97 : decode b_Ar_joinInts 97 = .ok (.ior, 1) := by decide +kernel
theorem d_Ar_joinInts_98 : decode b_Ar_joinInts 98 = .ok (.ireturn, 1) := by decide +kernel
theorem d_Ar_joinInts_99 : decode b_Ar_joinInts 99 = .ok (.iload_n 1, 1) := by decide +kernel
theorem d_Ar_joinInts_100 : decode b_Ar_joinInts 100 = .ok (.iload_n 2, 1) := by decide +kernel
theorem d_Ar_joinInts_101 : decode b_Ar_joinInts 101 = .ok (.iushr, 1) := by decide +kernel
theorem d_Ar_joinInts_102 : decode b_Ar_joinInts 102 = .ok (.iload_n 1, 1) := by decide +kernel
theorem d_Ar_joinInts_103 : decode b_Ar_joinInts 103 = .ok (.iload_n 2, 1) := by decide +kernel
theorem d_Ar_joinInts_104 : decode b_Ar_joinInts 104 = .ok (.ineg, 1) := by decide +kernel
theorem d_Ar_joinInts_105 : decode b_Ar_joinInts 105 = .ok (.ishl, 1) := by decide +kernel
theorem d_Ar_joinInts_106 : decode b_Ar_joinInts 106 = .ok (.ior, 1) := by decide +kernel
theorem d_Ar_joinInts_107 : decode b_Ar_joinInts 107 = .ok (.ireturn, 1) := by decide +kernel
theorem d_Ar_joinInts_108 : decode b_Ar_joinInts 108 = .ok (.iload_n 0, 1) := by decide +kernel
theorem d_Ar_joinInts_109 : decode b_Ar_joinInts 109 = .ok (.iload_n 1, 1) := by decide +kernel
theorem d_Ar_joinInts_110 : decode b_Ar_joinInts 110 = .ok (.i2l, 1) := by decide +kernel
theorem d_Ar_joinInts_111 : decode b_Ar_joinInts 111 = .ok (.iload_n 2, 1) := by decide +kernel
theorem d_Ar_joinInts_112 : decode b_Ar_joinInts 112 = .ok (.i2l, 1) := by decide +kernel
theorem d_Ar_joinInts_113 : decode b_Ar_joinInts 113 = .ok (.invokestatic 38, 3) := by decide +kernel
theorem d_Ar_joinInts_116 : decode b_Ar_joinInts 116 = .ok (.l2i, 1) := by decide +kernel
theorem d_Ar_joinInts_117 : decode b_Ar_joinInts 117 = .ok (.ireturn, 1) := by decide +kernel
theorem m_1034 : Cond.constantLong R_Ar 11 (-9223372036854775808) ∈ lw_good := lw_in (List.mem_append_right _ (List.mem_of_getElem? (i := 1034) (by decide +kernel))) (by decide +kernel)
theorem m_24 : Cond.initialized R_Ar ∈ lw_good := lw_in (List.mem_append_right _ (List.mem_of_getElem? (i := 24) (by decide +kernel))) (by decide +kernel)
theorem m_1031 : Cond.methodLink R_Ar 13 y_Ar_isBelow ∈ lw_good := lw_in (List.mem_append_right _ (List.mem_of_getElem? (i := 1031) (by decide +kernel))) (by decide +kernel)
theorem m_1032 : Cond.static y_Ar_isBelow ∈ lw_good := lw_in (List.mem_append_right _ (List.mem_of_getElem? (i := 1032) (by decide +kernel))) (by decide +kernel)
theorem m_1033 : Cond.code y_Ar_isBelow b_Ar_isBelow 4 (some .boolean) ∈ lw_good := lw_in (List.mem_append_right _ (List.mem_of_getElem? (i := 1033) (by decide +kernel))) (by decide +kernel)
theorem m_1055 : Cond.constantLong R_Ar 19 (-1) ∈ lw_good := lw_in (List.mem_append_right _ (List.mem_of_getElem? (i := 1055) (by decide +kernel))) (by decide +kernel)
theorem m_1048 : Cond.constant "java/lang/Integer" 265 1431655765 ∈ lw_good := lw_in (List.mem_append_right _ (List.mem_of_getElem? (i := 1048) (by decide +kernel))) (by decide +kernel)
theorem m_1049 : Cond.constant "java/lang/Integer" 266 858993459 ∈ lw_good := lw_in (List.mem_append_right _ (List.mem_of_getElem? (i := 1049) (by decide +kernel))) (by decide +kernel)
theorem m_1050 : Cond.constant "java/lang/Integer" 267 252645135 ∈ lw_good := lw_in (List.mem_append_right _ (List.mem_of_getElem? (i := 1050) (by decide +kernel))) (by decide +kernel)
theorem m_1076 : Cond.constantLong "java/lang/Long" 314 6148914691236517205 ∈ lw_good := lw_in (List.mem_append_right _ (List.mem_of_getElem? (i := 1076) (by decide +kernel))) (by decide +kernel)
theorem m_1077 : Cond.constantLong "java/lang/Long" 316 3689348814741910323 ∈ lw_good := lw_in (List.mem_append_right _ (List.mem_of_getElem? (i := 1077) (by decide +kernel))) (by decide +kernel)
theorem m_1078 : Cond.constantLong "java/lang/Long" 318 1085102592571150095 ∈ lw_good := lw_in (List.mem_append_right _ (List.mem_of_getElem? (i := 1078) (by decide +kernel))) (by decide +kernel)
theorem m_1042 : Cond.methodLink R_Ar 21 y_Ar_filled ∈ lw_good := lw_in (List.mem_append_right _ (List.mem_of_getElem? (i := 1042) (by decide +kernel))) (by decide +kernel)
theorem m_1043 : Cond.static y_Ar_filled ∈ lw_good := lw_in (List.mem_append_right _ (List.mem_of_getElem? (i := 1043) (by decide +kernel))) (by decide +kernel)
theorem m_1044 : Cond.code y_Ar_filled b_Ar_filled 5 (some .long) ∈ lw_good := lw_in (List.mem_append_right _ (List.mem_of_getElem? (i := 1044) (by decide +kernel))) (by decide +kernel)
theorem m_25 : Cond.initialized "java/lang/Integer" ∈ lw_good := lw_in (List.mem_append_right _ (List.mem_of_getElem? (i := 25) (by decide +kernel))) (by decide +kernel)
theorem m_1045 : Cond.methodLink R_Ar 25 y_J_Integer_bitCount ∈ lw_good := lw_in (List.mem_append_right _ (List.mem_of_getElem? (i := 1045) (by decide +kernel))) (by decide +kernel)
theorem m_1046 : Cond.static y_J_Integer_bitCount ∈ lw_good := lw_in (List.mem_append_right _ (List.mem_of_getElem? (i := 1046) (by decide +kernel))) (by decide +kernel)
theorem m_1047 : Cond.code y_J_Integer_bitCount b_J_Integer_bitCount 1 (some .int) ∈ lw_good := lw_in (List.mem_append_right _ (List.mem_of_getElem? (i := 1047) (by decide +kernel))) (by decide +kernel)
theorem m_26 : Cond.initialized "java/lang/Long" ∈ lw_good := lw_in (List.mem_append_right _ (List.mem_of_getElem? (i := 26) (by decide +kernel))) (by decide +kernel)
theorem m_1073 : Cond.methodLink R_Ar 31 y_J_Long_bitCount ∈ lw_good := lw_in (List.mem_append_right _ (List.mem_of_getElem? (i := 1073) (by decide +kernel))) (by decide +kernel)
theorem m_1074 : Cond.static y_J_Long_bitCount ∈ lw_good := lw_in (List.mem_append_right _ (List.mem_of_getElem? (i := 1074) (by decide +kernel))) (by decide +kernel)
theorem m_1075 : Cond.code y_J_Long_bitCount b_J_Long_bitCount 2 (some .int) ∈ lw_good := lw_in (List.mem_append_right _ (List.mem_of_getElem? (i := 1075) (by decide +kernel))) (by decide +kernel)
theorem m_1063 : Cond.methodLink R_Ar 42 y_Ar_quotient ∈ lw_good := lw_in (List.mem_append_right _ (List.mem_of_getElem? (i := 1063) (by decide +kernel))) (by decide +kernel)
theorem m_1064 : Cond.static y_Ar_quotient ∈ lw_good := lw_in (List.mem_append_right _ (List.mem_of_getElem? (i := 1064) (by decide +kernel))) (by decide +kernel)
theorem m_1065 : Cond.code y_Ar_quotient b_Ar_quotient 6 (some .long) ∈ lw_good := lw_in (List.mem_append_right _ (List.mem_of_getElem? (i := 1065) (by decide +kernel))) (by decide +kernel)
theorem m_1060 : Cond.methodLink R_Ar 38 y_Ar_joinLongs ∈ lw_good := lw_in (List.mem_append_right _ (List.mem_of_getElem? (i := 1060) (by decide +kernel))) (by decide +kernel)
theorem m_1061 : Cond.static y_Ar_joinLongs ∈ lw_good := lw_in (List.mem_append_right _ (List.mem_of_getElem? (i := 1061) (by decide +kernel))) (by decide +kernel)
theorem m_1062 : Cond.code y_Ar_joinLongs b_Ar_joinLongs 5 (some .long) ∈ lw_good := lw_in (List.mem_append_right _ (List.mem_of_getElem? (i := 1062) (by decide +kernel))) (by decide +kernel)
theorem m_1059 : Cond.constantLong R_Ar 36 4294967295 ∈ lw_good := lw_in (List.mem_append_right _ (List.mem_of_getElem? (i := 1059) (by decide +kernel))) (by decide +kernel)
set_option maxHeartbeats 8000000 in
set_option maxRecDepth 100000 in
theorem k_Ar_isBelow (l : Launch) (htr : l.stackTraces = false) (G : va_G) (cB cI cJ cZ cG : ClassId) (v_a : Int64) (v_b : Int64) (R9 : Out Empty (Bool)) (hf : f_Ar_isBelow v_a v_b = R9) (hnb : R9 ≠ .bad) (sz : Nat) : MetX l y_Ar_isBelow (wx y_Ar_isBelow b_Ar_isBelow 4 (some .boolean)) { frames := 0, cells := 0, slots := 0, locals := 0 } (XP G classes (xtys cB cI cJ cZ cG) xE [.long v_a, .long v_b] [] sz) (XQ G classes (va_A [] sz) (fun o w1 => ozp R9 (fun x9 => (True) ∧ o = .returned (some (.int (bI x9))) ∧ w1 = []) (fun _ => False))) 0 0 (va_A [] sz) := by
  refine ex_ofW (cc := b_Ar_isBelow) (maxL := 4) (ret := (some .boolean)) (by decide) rfl ?_
  intro p e s m args below meth c s₁ B hml hno hv
  obtain ⟨rfl, hsz, hP, hK, hD0, hE⟩ := hv
  have hx := B.exec
  have hb := B.bytes
  have hr := B.returns
  have hts : ∀ w ∈ lw_good, w.before _ s = true := fun w h => atoms_spec (ws := wx y_Ar_isBelow b_Ar_isBelow 4 (some .boolean)) B.pre w (List.mem_cons_of_mem _ h)
  have hown : s.vm.findClass R_Ar = some m.cls := findClass_of_methodNamed B.named
  have hlocks := B.notSynchronized
  subst hsz
  have hNS := xx_nostat hP
  have hD := hD0.self (sz := s.heap.size)
  generalize hAe : va_A [] s.heap.size = A at hD hE hNS ⊢
  have hA : ∀ q : Nat, s.heap.size ≤ q → A q := fun q h => by rw [← hAe]; exact Or.inr h
  have hS : va_S A s.heap s.heap [] := va_S.rf
  have hl := lv_entry ([.long v_a, .long v_b]) (n := 4) (Nat.le_of_ble_eq_true rfl)
  rw [lg_entry_eq]
  generalize (lg_sl ([.long v_a, .long v_b]) ++ List.replicate (4 - (lg_sl ([.long v_a, .long v_b])).length) Slot.unset).toArray = ls at hl ⊢
  have hl : lv_has ls 4 [(0, .long v_a), (2, .long v_b)] := hl
  unfold f_Ar_isBelow at hf
  refine lv_lload_n hx hb d_Ar_isBelow_0 rfl (lv_at hl 0 rfl) ?_
  refine lv_ldc2 (v := lMin) hx hb hown (hts _ m_1034) d_Ar_isBelow_1 ?_
  refine lv_lxor hx hb d_Ar_isBelow_4 ?_
  refine lv_lload_n hx hb d_Ar_isBelow_5 rfl (lv_at hl 1 rfl) ?_
  refine lv_ldc2 (v := lMin) hx hb hown (hts _ m_1034) d_Ar_isBelow_6 ?_
  refine lv_lxor hx hb d_Ar_isBelow_9 ?_
  refine W.lcmp hx hb d_Ar_isBelow_10 ?_
  refine jpE hf (fun K_2 hK_2 hf9 => ?_)
  replace hf := hf9
  clear hf9
  have hJK_2 : ∀ (y_1 : Bool), True → K_2 y_1 = R9 → ∀ (H : Heap) (locs : List Loc), va_P G classes [] H → va_D A [] → va_S A s.heap H locs → ∀ (ls : Array Slot), lv_has ls 4 [(0, .long v_a), (2, .long v_b)] → W p l e (headSpec (wx y_Ar_isBelow b_Ar_isBelow 4 (some .boolean)) { frames := 0, cells := 0, slots := 0, locals := 0 }).room s m ([.long v_a, .long v_b] : List Value).toArray below meth c H locs 0 0 (MX below (XQ G classes A (fun o w1 => ozp R9 (fun x9 => (True) ∧ o = .returned (some (.int (bI x9))) ∧ w1 = []) (fun _ => False))) ([.long v_a, .long v_b] : List Value).toArray s 0 0 A) (F0 m 19 ls [.int (bI y_1)]) := by
    intro y_1 hy_1 hf H_1 locs_1 hP_1 hD_1 hS_1 ls hl
    clear hS hD hP
    replace hf := (congrFun hK_2 y_1).symm.trans hf
    clear hK_2
    exact ex_W (fun _ h => ex_mq h) (W.zret (v := bI y_1) hx hb hr (bI_nar _) (fun t ht hW => ⟨⟨_, ozr hf ⟨trivial, rfl, rfl⟩, by rw [ht]; exact hP_1, hD_1⟩, hS_1.F ht⟩) hS_1.2.2 d_Ar_isBelow_19)
  clear hK_2
  refine lv_if_ge (tgt := 18) hx hb d_Ar_isBelow_11 (by decide) (fun c_3 => ?_) (fun c_3 => ?_)
  · have c_3 := (lc_ge).mp c_3
    replace hf := ifp c_3 hf
    refine lv_iconst (v := iI 0) hx hb d_Ar_isBelow_18 (by decide) ?_
    refine W.eq (g2 := F0 m 19 ls [.int (bI false)]) (by rfl) ?_
    exact hJK_2 false trivial hf _ _ hP hD hS _ (lv_sub hl [0, 1] rfl)
  · have c_3 := (fun q9 => c_3 ((lc_ge).mpr q9))
    replace hf := ifn c_3 hf
    refine lv_iconst (v := iI 1) hx hb d_Ar_isBelow_14 (by decide) ?_
    refine lv_goto (tgt := 19) hx hb d_Ar_isBelow_15 (by decide) ?_
    refine W.eq (g2 := F0 m 19 ls [.int (bI true)]) (by rfl) ?_
    exact hJK_2 true trivial hf _ _ hP hD hS _ (lv_sub hl [0, 1] rfl)
set_option maxHeartbeats 8000000 in
set_option maxRecDepth 100000 in
theorem k_Ar_compares (l : Launch) (htr : l.stackTraces = false) (G : va_G) (cB cI cJ cZ cG : ClassId) (v_op : Int) (v_a : Int64) (v_b : Int64) (hv_op : R32 v_op) (R9 : Out Empty (Bool)) (hf : f_Ar_compares v_op v_a v_b = R9) (hnb : R9 ≠ .bad) (sz : Nat) : MetX l y_Ar_compares (wx y_Ar_compares b_Ar_compares 5 (some .boolean)) { frames := 1, cells := 0, slots := 0, locals := 23 } (XP G classes (xtys cB cI cJ cZ cG) xE [.int (iI v_op), .long v_a, .long v_b] [] sz) (XQ G classes (va_A [] sz) (fun o w1 => ozp R9 (fun x9 => (True) ∧ o = .returned (some (.int (bI x9))) ∧ w1 = []) (fun _ => False))) 0 0 (va_A [] sz) := by
  refine ex_ofW (cc := b_Ar_compares) (maxL := 5) (ret := (some .boolean)) (by decide) rfl ?_
  intro p e s m args below meth c s₁ B hml hno hv
  obtain ⟨rfl, hsz, hP, hK, hD0, hE⟩ := hv
  have hx := B.exec
  have hb := B.bytes
  have hr := B.returns
  have hts : ∀ w ∈ lw_good, w.before _ s = true := fun w h => atoms_spec (ws := wx y_Ar_compares b_Ar_compares 5 (some .boolean)) B.pre w (List.mem_cons_of_mem _ h)
  have hown : s.vm.findClass R_Ar = some m.cls := findClass_of_methodNamed B.named
  have hlocks := B.notSynchronized
  subst hsz
  have hNS := xx_nostat hP
  have hD := hD0.self (sz := s.heap.size)
  generalize hAe : va_A [] s.heap.size = A at hD hE hNS ⊢
  have hA : ∀ q : Nat, s.heap.size ≤ q → A q := fun q h => by rw [← hAe]; exact Or.inr h
  have hS : va_S A s.heap s.heap [] := va_S.rf
  have hl := lv_entry ([.int (iI v_op), .long v_a, .long v_b]) (n := 5) (Nat.le_of_ble_eq_true rfl)
  rw [lg_entry_eq]
  generalize (lg_sl ([.int (iI v_op), .long v_a, .long v_b]) ++ List.replicate (5 - (lg_sl ([.int (iI v_op), .long v_a, .long v_b])).length) Slot.unset).toArray = ls at hl ⊢
  have hl : lv_has ls 5 [(0, .int (iI v_op)), (1, .long v_a), (3, .long v_b)] := hl
  unfold f_Ar_compares at hf
  refine lv_iload_n hx hb d_Ar_compares_0 rfl (lv_at hl 0 rfl) ?_
  refine jpE hf (fun K_2 hK_2 hf9 => ?_)
  replace hf := hf9
  clear hf9
  have hJK_2 : ∀ (y_1 : Unit), True → K_2 y_1 = R9 → ∀ (H : Heap) (locs : List Loc), va_P G classes [] H → va_D A [] → va_S A s.heap H locs → ∀ (ls : Array Slot), lv_has ls 5 [(0, .int (iI v_op)), (1, .long v_a), (3, .long v_b)] → W p l e (headSpec (wx y_Ar_compares b_Ar_compares 5 (some .boolean)) { frames := 1, cells := 0, slots := 0, locals := 23 }).room s m ([.int (iI v_op), .long v_a, .long v_b] : List Value).toArray below meth c H locs 0 0 (MX below (XQ G classes A (fun o w1 => ozp R9 (fun x9 => (True) ∧ o = .returned (some (.int (bI x9))) ∧ w1 = []) (fun _ => False))) ([.int (iI v_op), .long v_a, .long v_b] : List Value).toArray s 0 0 A) (F0 m 56 ls []) := by
    intro y_1 hy_1 hf H_13 locs_13 hP_13 hD_13 hS_13 ls hl
    clear hS hD hP
    replace hf := (congrFun hK_2 y_1).symm.trans hf
    clear hK_2
    refine lv_lload_n hx hb d_Ar_compares_56 rfl (lv_at hl 1 rfl) ?_
    refine lv_lload_n hx hb d_Ar_compares_57 rfl (lv_at hl 2 rfl) ?_
    refine W.lcmp hx hb d_Ar_compares_58 ?_
    refine jpE hf (fun K_4 hK_4 hf9 => ?_)
    replace hf := hf9
    clear hf9
    have hJK_4 : ∀ (y_3 : Bool), True → K_4 y_3 = R9 → ∀ (H_13 : Heap) (locs_13 : List Loc), va_P G classes [] H_13 → va_D A [] → va_S A s.heap H_13 locs_13 → ∀ (ls : Array Slot), lv_has ls 5 [(0, .int (iI v_op)), (1, .long v_a), (3, .long v_b)] → W p l e (headSpec (wx y_Ar_compares b_Ar_compares 5 (some .boolean)) { frames := 1, cells := 0, slots := 0, locals := 23 }).room s m ([.int (iI v_op), .long v_a, .long v_b] : List Value).toArray below meth c H_13 locs_13 0 0 (MX below (XQ G classes A (fun o w1 => ozp R9 (fun x9 => (True) ∧ o = .returned (some (.int (bI x9))) ∧ w1 = []) (fun _ => False))) ([.int (iI v_op), .long v_a, .long v_b] : List Value).toArray s 0 0 A) (F0 m 67 ls [.int (bI y_3)]) := by
      intro y_3 hy_3 hf H_14 locs_14 hP_14 hD_14 hS_14 ls hl
      clear hS_13 hD_13 hP_13
      replace hf := (congrFun hK_4 y_3).symm.trans hf
      clear hK_4
      exact ex_W (fun _ h => ex_mq h) (W.zret (v := bI y_3) hx hb hr (bI_nar _) (fun t ht hW => ⟨⟨_, ozr hf ⟨trivial, rfl, rfl⟩, by rw [ht]; exact hP_14, hD_14⟩, hS_14.F ht⟩) hS_14.2.2 d_Ar_compares_67)
    clear hK_4
    refine lv_if_ne (tgt := 66) hx hb d_Ar_compares_59 (by decide) (fun c_5 => ?_) (fun c_5 => ?_)
    · have c_5 := (fun q9 => c_5 ((lc_eq).mpr q9))
      replace hf := ifn c_5 hf
      refine lv_iconst (v := iI 0) hx hb d_Ar_compares_66 (by decide) ?_
      refine W.eq (g2 := F0 m 67 ls [.int (bI false)]) (by rfl) ?_
      exact hJK_4 false trivial hf _ _ hP_13 hD_13 hS_13 _ (lv_sub hl [0, 1, 2] rfl)
    · have c_5 := (lc_eq).mp c_5
      replace hf := ifp c_5 hf
      refine lv_iconst (v := iI 1) hx hb d_Ar_compares_62 (by decide) ?_
      refine lv_goto (tgt := 67) hx hb d_Ar_compares_63 (by decide) ?_
      refine W.eq (g2 := F0 m 67 ls [.int (bI true)]) (by rfl) ?_
      exact hJK_4 true trivial hf _ _ hP_13 hD_13 hS_13 _ (lv_sub hl [0, 1, 2] rfl)
  clear hK_2
  rcases Decidable.em (v_op = 69) with q_6 | q_6
  · replace hf := ifp q_6 hf
    refine lv_tableIn (off := 55) (tgt := 56) hx hb d_Ar_compares_1 (by rw [(iI_t hv_op).trans q_6]; decide) (by rw [(iI_t hv_op).trans q_6]; decide) (by rw [(iI_t hv_op).trans q_6]; rfl) (by decide) ?_
    exact hJK_2 () trivial hf _ _ hP hD hS _ (lv_sub hl [0, 1, 2] rfl)
  replace hf := ifn q_6 hf
  rcases Decidable.em (v_op = 70) with q_7 | q_7
  · replace hf := ifp q_7 hf
    refine lv_tableIn (off := 55) (tgt := 56) hx hb d_Ar_compares_1 (by rw [(iI_t hv_op).trans q_7]; decide) (by rw [(iI_t hv_op).trans q_7]; decide) (by rw [(iI_t hv_op).trans q_7]; rfl) (by decide) ?_
    exact hJK_2 () trivial hf _ _ hP hD hS _ (lv_sub hl [0, 1, 2] rfl)
  replace hf := ifn q_7 hf
  rcases Decidable.em (v_op = 71) with q_8 | q_8
  · replace hf := ifp q_8 hf
    refine lv_tableIn (off := 67) (tgt := 68) hx hb d_Ar_compares_1 (by rw [(iI_t hv_op).trans q_8]; decide) (by rw [(iI_t hv_op).trans q_8]; decide) (by rw [(iI_t hv_op).trans q_8]; rfl) (by decide) ?_
    refine lv_lload_n hx hb d_Ar_compares_68 rfl (lv_at hl 1 rfl) ?_
    refine lv_lload_n hx hb d_Ar_compares_69 rfl (lv_at hl 2 rfl) ?_
    refine W.lcmp hx hb d_Ar_compares_70 ?_
    refine jpE hf (fun K_10 hK_10 hf9 => ?_)
    replace hf := hf9
    clear hf9
    have hJK_10 : ∀ (y_9 : Bool), True → K_10 y_9 = R9 → ∀ (H : Heap) (locs : List Loc), va_P G classes [] H → va_D A [] → va_S A s.heap H locs → ∀ (ls : Array Slot), lv_has ls 5 [(0, .int (iI v_op)), (1, .long v_a), (3, .long v_b)] → W p l e (headSpec (wx y_Ar_compares b_Ar_compares 5 (some .boolean)) { frames := 1, cells := 0, slots := 0, locals := 23 }).room s m ([.int (iI v_op), .long v_a, .long v_b] : List Value).toArray below meth c H locs 0 0 (MX below (XQ G classes A (fun o w1 => ozp R9 (fun x9 => (True) ∧ o = .returned (some (.int (bI x9))) ∧ w1 = []) (fun _ => False))) ([.int (iI v_op), .long v_a, .long v_b] : List Value).toArray s 0 0 A) (F0 m 79 ls [.int (bI y_9)]) := by
      intro y_9 hy_9 hf H_15 locs_15 hP_15 hD_15 hS_15 ls hl
      clear hS hD hP
      replace hf := (congrFun hK_10 y_9).symm.trans hf
      clear hK_10
      exact ex_W (fun _ h => ex_mq h) (W.zret (v := bI y_9) hx hb hr (bI_nar _) (fun t ht hW => ⟨⟨_, ozr hf ⟨trivial, rfl, rfl⟩, by rw [ht]; exact hP_15, hD_15⟩, hS_15.F ht⟩) hS_15.2.2 d_Ar_compares_79)
    clear hK_10
    refine lv_if_eq (tgt := 78) hx hb d_Ar_compares_71 (by decide) (fun c_11 => ?_) (fun c_11 => ?_)
    · have c_11 := (lc_eq).mp c_11
      replace hf := ifp c_11 hf
      refine lv_iconst (v := iI 0) hx hb d_Ar_compares_78 (by decide) ?_
      refine W.eq (g2 := F0 m 79 ls [.int (bI false)]) (by rfl) ?_
      exact hJK_10 false trivial hf _ _ hP hD hS _ (lv_sub hl [0, 1, 2] rfl)
    · have c_11 := (fun q9 => c_11 ((lc_eq).mpr q9))
      replace hf := ifn c_11 hf
      refine lv_iconst (v := iI 1) hx hb d_Ar_compares_74 (by decide) ?_
      refine lv_goto (tgt := 79) hx hb d_Ar_compares_75 (by decide) ?_
      refine W.eq (g2 := F0 m 79 ls [.int (bI true)]) (by rfl) ?_
      exact hJK_10 true trivial hf _ _ hP hD hS _ (lv_sub hl [0, 1, 2] rfl)
  replace hf := ifn q_8 hf
  rcases Decidable.em (v_op = 72) with q_12 | q_12
  · replace hf := ifp q_12 hf
    refine lv_tableIn (off := 79) (tgt := 80) hx hb d_Ar_compares_1 (by rw [(iI_t hv_op).trans q_12]; decide) (by rw [(iI_t hv_op).trans q_12]; decide) (by rw [(iI_t hv_op).trans q_12]; rfl) (by decide) ?_
    refine lv_lload_n hx hb d_Ar_compares_80 rfl (lv_at hl 1 rfl) ?_
    refine lv_lload_n hx hb d_Ar_compares_81 rfl (lv_at hl 2 rfl) ?_
    refine W.lcmp hx hb d_Ar_compares_82 ?_
    refine jpE hf (fun K_14 hK_14 hf9 => ?_)
    replace hf := hf9
    clear hf9
    have hJK_14 : ∀ (y_13 : Bool), True → K_14 y_13 = R9 → ∀ (H : Heap) (locs : List Loc), va_P G classes [] H → va_D A [] → va_S A s.heap H locs → ∀ (ls : Array Slot), lv_has ls 5 [(0, .int (iI v_op)), (1, .long v_a), (3, .long v_b)] → W p l e (headSpec (wx y_Ar_compares b_Ar_compares 5 (some .boolean)) { frames := 1, cells := 0, slots := 0, locals := 23 }).room s m ([.int (iI v_op), .long v_a, .long v_b] : List Value).toArray below meth c H locs 0 0 (MX below (XQ G classes A (fun o w1 => ozp R9 (fun x9 => (True) ∧ o = .returned (some (.int (bI x9))) ∧ w1 = []) (fun _ => False))) ([.int (iI v_op), .long v_a, .long v_b] : List Value).toArray s 0 0 A) (F0 m 91 ls [.int (bI y_13)]) := by
      intro y_13 hy_13 hf H_16 locs_16 hP_16 hD_16 hS_16 ls hl
      clear hS hD hP
      replace hf := (congrFun hK_14 y_13).symm.trans hf
      clear hK_14
      exact ex_W (fun _ h => ex_mq h) (W.zret (v := bI y_13) hx hb hr (bI_nar _) (fun t ht hW => ⟨⟨_, ozr hf ⟨trivial, rfl, rfl⟩, by rw [ht]; exact hP_16, hD_16⟩, hS_16.F ht⟩) hS_16.2.2 d_Ar_compares_91)
    clear hK_14
    refine lv_if_ge (tgt := 90) hx hb d_Ar_compares_83 (by decide) (fun c_15 => ?_) (fun c_15 => ?_)
    · have c_15 := (lc_ge).mp c_15
      replace hf := ifp c_15 hf
      refine lv_iconst (v := iI 0) hx hb d_Ar_compares_90 (by decide) ?_
      refine W.eq (g2 := F0 m 91 ls [.int (bI false)]) (by rfl) ?_
      exact hJK_14 false trivial hf _ _ hP hD hS _ (lv_sub hl [0, 1, 2] rfl)
    · have c_15 := (fun q9 => c_15 ((lc_ge).mpr q9))
      replace hf := ifn c_15 hf
      refine lv_iconst (v := iI 1) hx hb d_Ar_compares_86 (by decide) ?_
      refine lv_goto (tgt := 91) hx hb d_Ar_compares_87 (by decide) ?_
      refine W.eq (g2 := F0 m 91 ls [.int (bI true)]) (by rfl) ?_
      exact hJK_14 true trivial hf _ _ hP hD hS _ (lv_sub hl [0, 1, 2] rfl)
  replace hf := ifn q_12 hf
  rcases Decidable.em (v_op = 73) with q_16 | q_16
  · replace hf := ifp q_16 hf
    refine lv_tableIn (off := 91) (tgt := 92) hx hb d_Ar_compares_1 (by rw [(iI_t hv_op).trans q_16]; decide) (by rw [(iI_t hv_op).trans q_16]; decide) (by rw [(iI_t hv_op).trans q_16]; rfl) (by decide) ?_
    refine lv_lload_n hx hb d_Ar_compares_92 rfl (lv_at hl 1 rfl) ?_
    refine lv_lload_n hx hb d_Ar_compares_93 rfl (lv_at hl 2 rfl) ?_
    replace hf := obE hnb hf
    obtain ⟨x_17, e_18, hf⟩ := hf
    refine xx_callS (wc := []) (wr := []) (As := [.long v_a, .long v_b]) (rest := []) ⟨hx, hb, hml, hown, hts⟩ xE_st hK hE hA (k_Ar_isBelow l htr G cB cI cJ cZ cG v_a v_b (.ret x_17) e_18 ret_nb _) (xw_S 2 hts m_1031 m_1032 m_24 m_1033 (by decide +kernel) ⟨(Nat.le_of_ble_eq_true rfl), (Nat.le_of_ble_eq_true rfl)⟩) hP hD hS [] [] rfl rfl (by decide +kernel) (by decide +kernel) (by decide +kernel) rfl hl.1 rfl (Nat.le_of_ble_eq_true rfl) d_Ar_compares_94 ⟨(Nat.le_of_ble_eq_true rfl), (Nat.le_of_ble_eq_true rfl)⟩ (fun v9 w9 H_17 locs_17 hp hP_17 hD_17 hS_17 => ?_) (fun x9 w9 H9 l9 hp _ _ _ => absurd hp (fun q9 => by obtain ⟨-, ho, -⟩ := q9; cases ho))
    clear hS hD hP
    obtain ⟨hx_17, ho, rfl⟩ := hp
    cases ho
    replace hP_17 : va_P G classes [] H_17 := hP_17
    replace hD_17 : va_D A [] := hD_17
    exact ex_W (fun _ h => ex_mq h) (W.zret (v := bI x_17) hx hb hr (bI_nar _) (fun t ht hW => ⟨⟨_, ozr hf ⟨trivial, rfl, rfl⟩, by rw [ht]; exact hP_17, hD_17⟩, hS_17.F ht⟩) hS_17.2.2 d_Ar_compares_97)
  replace hf := ifn q_16 hf
  rcases Decidable.em (v_op = 74) with q_19 | q_19
  · replace hf := ifp q_19 hf
    refine lv_tableIn (off := 97) (tgt := 98) hx hb d_Ar_compares_1 (by rw [(iI_t hv_op).trans q_19]; decide) (by rw [(iI_t hv_op).trans q_19]; decide) (by rw [(iI_t hv_op).trans q_19]; rfl) (by decide) ?_
    refine lv_lload_n hx hb d_Ar_compares_98 rfl (lv_at hl 1 rfl) ?_
    refine lv_lload_n hx hb d_Ar_compares_99 rfl (lv_at hl 2 rfl) ?_
    refine W.lcmp hx hb d_Ar_compares_100 ?_
    refine jpE hf (fun K_21 hK_21 hf9 => ?_)
    replace hf := hf9
    clear hf9
    have hJK_21 : ∀ (y_20 : Bool), True → K_21 y_20 = R9 → ∀ (H : Heap) (locs : List Loc), va_P G classes [] H → va_D A [] → va_S A s.heap H locs → ∀ (ls : Array Slot), lv_has ls 5 [(0, .int (iI v_op)), (1, .long v_a), (3, .long v_b)] → W p l e (headSpec (wx y_Ar_compares b_Ar_compares 5 (some .boolean)) { frames := 1, cells := 0, slots := 0, locals := 23 }).room s m ([.int (iI v_op), .long v_a, .long v_b] : List Value).toArray below meth c H locs 0 0 (MX below (XQ G classes A (fun o w1 => ozp R9 (fun x9 => (True) ∧ o = .returned (some (.int (bI x9))) ∧ w1 = []) (fun _ => False))) ([.int (iI v_op), .long v_a, .long v_b] : List Value).toArray s 0 0 A) (F0 m 109 ls [.int (bI y_20)]) := by
      intro y_20 hy_20 hf H_18 locs_18 hP_18 hD_18 hS_18 ls hl
      clear hS hD hP
      replace hf := (congrFun hK_21 y_20).symm.trans hf
      clear hK_21
      exact ex_W (fun _ h => ex_mq h) (W.zret (v := bI y_20) hx hb hr (bI_nar _) (fun t ht hW => ⟨⟨_, ozr hf ⟨trivial, rfl, rfl⟩, by rw [ht]; exact hP_18, hD_18⟩, hS_18.F ht⟩) hS_18.2.2 d_Ar_compares_109)
    clear hK_21
    refine lv_if_le (tgt := 108) hx hb d_Ar_compares_101 (by decide) (fun c_22 => ?_) (fun c_22 => ?_)
    · have c_22 := (lc_le).mp c_22
      replace hf := ifp c_22 hf
      refine lv_iconst (v := iI 0) hx hb d_Ar_compares_108 (by decide) ?_
      refine W.eq (g2 := F0 m 109 ls [.int (bI false)]) (by rfl) ?_
      exact hJK_21 false trivial hf _ _ hP hD hS _ (lv_sub hl [0, 1, 2] rfl)
    · have c_22 := (fun q9 => c_22 ((lc_le).mpr q9))
      replace hf := ifn c_22 hf
      refine lv_iconst (v := iI 1) hx hb d_Ar_compares_104 (by decide) ?_
      refine lv_goto (tgt := 109) hx hb d_Ar_compares_105 (by decide) ?_
      refine W.eq (g2 := F0 m 109 ls [.int (bI true)]) (by rfl) ?_
      exact hJK_21 true trivial hf _ _ hP hD hS _ (lv_sub hl [0, 1, 2] rfl)
  replace hf := ifn q_19 hf
  rcases Decidable.em (v_op = 75) with q_23 | q_23
  · replace hf := ifp q_23 hf
    refine lv_tableIn (off := 109) (tgt := 110) hx hb d_Ar_compares_1 (by rw [(iI_t hv_op).trans q_23]; decide) (by rw [(iI_t hv_op).trans q_23]; decide) (by rw [(iI_t hv_op).trans q_23]; rfl) (by decide) ?_
    refine lv_lload_n hx hb d_Ar_compares_110 rfl (lv_at hl 2 rfl) ?_
    refine lv_lload_n hx hb d_Ar_compares_111 rfl (lv_at hl 1 rfl) ?_
    replace hf := obE hnb hf
    obtain ⟨x_24, e_25, hf⟩ := hf
    refine xx_callS (wc := []) (wr := []) (As := [.long v_b, .long v_a]) (rest := []) ⟨hx, hb, hml, hown, hts⟩ xE_st hK hE hA (k_Ar_isBelow l htr G cB cI cJ cZ cG v_b v_a (.ret x_24) e_25 ret_nb _) (xw_S 2 hts m_1031 m_1032 m_24 m_1033 (by decide +kernel) ⟨(Nat.le_of_ble_eq_true rfl), (Nat.le_of_ble_eq_true rfl)⟩) hP hD hS [] [] rfl rfl (by decide +kernel) (by decide +kernel) (by decide +kernel) rfl hl.1 rfl (Nat.le_of_ble_eq_true rfl) d_Ar_compares_112 ⟨(Nat.le_of_ble_eq_true rfl), (Nat.le_of_ble_eq_true rfl)⟩ (fun v9 w9 H_19 locs_19 hp hP_19 hD_19 hS_19 => ?_) (fun x9 w9 H9 l9 hp _ _ _ => absurd hp (fun q9 => by obtain ⟨-, ho, -⟩ := q9; cases ho))
    clear hS hD hP
    obtain ⟨hx_24, ho, rfl⟩ := hp
    cases ho
    replace hP_19 : va_P G classes [] H_19 := hP_19
    replace hD_19 : va_D A [] := hD_19
    exact ex_W (fun _ h => ex_mq h) (W.zret (v := bI x_24) hx hb hr (bI_nar _) (fun t ht hW => ⟨⟨_, ozr hf ⟨trivial, rfl, rfl⟩, by rw [ht]; exact hP_19, hD_19⟩, hS_19.F ht⟩) hS_19.2.2 d_Ar_compares_115)
  replace hf := ifn q_23 hf
  rcases Decidable.em (v_op = 76) with q_26 | q_26
  · replace hf := ifp q_26 hf
    refine lv_tableIn (off := 115) (tgt := 116) hx hb d_Ar_compares_1 (by rw [(iI_t hv_op).trans q_26]; decide) (by rw [(iI_t hv_op).trans q_26]; decide) (by rw [(iI_t hv_op).trans q_26]; rfl) (by decide) ?_
    refine lv_lload_n hx hb d_Ar_compares_116 rfl (lv_at hl 1 rfl) ?_
    refine lv_lload_n hx hb d_Ar_compares_117 rfl (lv_at hl 2 rfl) ?_
    refine W.lcmp hx hb d_Ar_compares_118 ?_
    refine jpE hf (fun K_28 hK_28 hf9 => ?_)
    replace hf := hf9
    clear hf9
    have hJK_28 : ∀ (y_27 : Bool), True → K_28 y_27 = R9 → ∀ (H : Heap) (locs : List Loc), va_P G classes [] H → va_D A [] → va_S A s.heap H locs → ∀ (ls : Array Slot), lv_has ls 5 [(0, .int (iI v_op)), (1, .long v_a), (3, .long v_b)] → W p l e (headSpec (wx y_Ar_compares b_Ar_compares 5 (some .boolean)) { frames := 1, cells := 0, slots := 0, locals := 23 }).room s m ([.int (iI v_op), .long v_a, .long v_b] : List Value).toArray below meth c H locs 0 0 (MX below (XQ G classes A (fun o w1 => ozp R9 (fun x9 => (True) ∧ o = .returned (some (.int (bI x9))) ∧ w1 = []) (fun _ => False))) ([.int (iI v_op), .long v_a, .long v_b] : List Value).toArray s 0 0 A) (F0 m 127 ls [.int (bI y_27)]) := by
      intro y_27 hy_27 hf H_20 locs_20 hP_20 hD_20 hS_20 ls hl
      clear hS hD hP
      replace hf := (congrFun hK_28 y_27).symm.trans hf
      clear hK_28
      exact ex_W (fun _ h => ex_mq h) (W.zret (v := bI y_27) hx hb hr (bI_nar _) (fun t ht hW => ⟨⟨_, ozr hf ⟨trivial, rfl, rfl⟩, by rw [ht]; exact hP_20, hD_20⟩, hS_20.F ht⟩) hS_20.2.2 d_Ar_compares_127)
    clear hK_28
    refine lv_if_gt (tgt := 126) hx hb d_Ar_compares_119 (by decide) (fun c_29 => ?_) (fun c_29 => ?_)
    · have c_29 := (lc_gt).mp c_29
      replace hf := ifp c_29 hf
      refine lv_iconst (v := iI 0) hx hb d_Ar_compares_126 (by decide) ?_
      refine W.eq (g2 := F0 m 127 ls [.int (bI false)]) (by rfl) ?_
      exact hJK_28 false trivial hf _ _ hP hD hS _ (lv_sub hl [0, 1, 2] rfl)
    · have c_29 := (fun q9 => c_29 ((lc_gt).mpr q9))
      replace hf := ifn c_29 hf
      refine lv_iconst (v := iI 1) hx hb d_Ar_compares_122 (by decide) ?_
      refine lv_goto (tgt := 127) hx hb d_Ar_compares_123 (by decide) ?_
      refine W.eq (g2 := F0 m 127 ls [.int (bI true)]) (by rfl) ?_
      exact hJK_28 true trivial hf _ _ hP hD hS _ (lv_sub hl [0, 1, 2] rfl)
  replace hf := ifn q_26 hf
  rcases Decidable.em (v_op = 77) with q_30 | q_30
  · replace hf := ifp q_30 hf
    refine lv_tableIn (off := 127) (tgt := 128) hx hb d_Ar_compares_1 (by rw [(iI_t hv_op).trans q_30]; decide) (by rw [(iI_t hv_op).trans q_30]; decide) (by rw [(iI_t hv_op).trans q_30]; rfl) (by decide) ?_
    refine lv_lload_n hx hb d_Ar_compares_128 rfl (lv_at hl 2 rfl) ?_
    refine lv_lload_n hx hb d_Ar_compares_129 rfl (lv_at hl 1 rfl) ?_
    replace hf := obE hnb hf
    obtain ⟨x_31, e_32, hf⟩ := hf
    refine xx_callS (wc := []) (wr := []) (As := [.long v_b, .long v_a]) (rest := []) ⟨hx, hb, hml, hown, hts⟩ xE_st hK hE hA (k_Ar_isBelow l htr G cB cI cJ cZ cG v_b v_a (.ret x_31) e_32 ret_nb _) (xw_S 2 hts m_1031 m_1032 m_24 m_1033 (by decide +kernel) ⟨(Nat.le_of_ble_eq_true rfl), (Nat.le_of_ble_eq_true rfl)⟩) hP hD hS [] [] rfl rfl (by decide +kernel) (by decide +kernel) (by decide +kernel) rfl hl.1 rfl (Nat.le_of_ble_eq_true rfl) d_Ar_compares_130 ⟨(Nat.le_of_ble_eq_true rfl), (Nat.le_of_ble_eq_true rfl)⟩ (fun v9 w9 H_21 locs_21 hp hP_21 hD_21 hS_21 => ?_) (fun x9 w9 H9 l9 hp _ _ _ => absurd hp (fun q9 => by obtain ⟨-, ho, -⟩ := q9; cases ho))
    clear hS hD hP
    obtain ⟨hx_31, ho, rfl⟩ := hp
    cases ho
    replace hP_21 : va_P G classes [] H_21 := hP_21
    replace hD_21 : va_D A [] := hD_21
    refine jpE hf (fun K_34 hK_34 hf9 => ?_)
    replace hf := hf9
    clear hf9
    have hJK_34 : ∀ (y_33 : Bool), True → K_34 y_33 = R9 → ∀ (H_21 : Heap) (locs_21 : List Loc), va_P G classes [] H_21 → va_D A [] → va_S A s.heap H_21 locs_21 → ∀ (ls : Array Slot), lv_has ls 5 [(0, .int (iI v_op)), (1, .long v_a), (3, .long v_b)] → W p l e (headSpec (wx y_Ar_compares b_Ar_compares 5 (some .boolean)) { frames := 1, cells := 0, slots := 0, locals := 23 }).room s m ([.int (iI v_op), .long v_a, .long v_b] : List Value).toArray below meth c H_21 locs_21 0 0 (MX below (XQ G classes A (fun o w1 => ozp R9 (fun x9 => (True) ∧ o = .returned (some (.int (bI x9))) ∧ w1 = []) (fun _ => False))) ([.int (iI v_op), .long v_a, .long v_b] : List Value).toArray s 0 0 A) (F0 m 141 ls [.int (bI y_33)]) := by
      intro y_33 hy_33 hf H_22 locs_22 hP_22 hD_22 hS_22 ls hl
      clear hS_21 hD_21 hP_21
      replace hf := (congrFun hK_34 y_33).symm.trans hf
      clear hK_34
      exact ex_W (fun _ h => ex_mq h) (W.zret (v := bI y_33) hx hb hr (bI_nar _) (fun t ht hW => ⟨⟨_, ozr hf ⟨trivial, rfl, rfl⟩, by rw [ht]; exact hP_22, hD_22⟩, hS_22.F ht⟩) hS_22.2.2 d_Ar_compares_141)
    clear hK_34
    refine lv_if_ne (tgt := 140) hx hb d_Ar_compares_133 (by decide) (fun c_35 => ?_) (fun c_35 => ?_)
    · have c_35 := (zb_t c_35)
      replace hf := ifp c_35 hf
      refine lv_iconst (v := iI 0) hx hb d_Ar_compares_140 (by decide) ?_
      refine W.eq (g2 := F0 m 141 ls [.int (bI false)]) (by rfl) ?_
      exact hJK_34 false trivial hf _ _ hP_21 hD_21 hS_21 _ (lv_sub hl [0, 1, 2] rfl)
    · have c_35 := (zb_f c_35)
      replace hf := ifn c_35 hf
      refine lv_iconst (v := iI 1) hx hb d_Ar_compares_136 (by decide) ?_
      refine lv_goto (tgt := 141) hx hb d_Ar_compares_137 (by decide) ?_
      refine W.eq (g2 := F0 m 141 ls [.int (bI true)]) (by rfl) ?_
      exact hJK_34 true trivial hf _ _ hP_21 hD_21 hS_21 _ (lv_sub hl [0, 1, 2] rfl)
  replace hf := ifn q_30 hf
  rcases Decidable.em (v_op = 78) with q_36 | q_36
  · replace hf := ifp q_36 hf
    refine lv_tableIn (off := 141) (tgt := 142) hx hb d_Ar_compares_1 (by rw [(iI_t hv_op).trans q_36]; decide) (by rw [(iI_t hv_op).trans q_36]; decide) (by rw [(iI_t hv_op).trans q_36]; rfl) (by decide) ?_
    refine lv_lload_n hx hb d_Ar_compares_142 rfl (lv_at hl 1 rfl) ?_
    refine lv_lload_n hx hb d_Ar_compares_143 rfl (lv_at hl 2 rfl) ?_
    refine W.lcmp hx hb d_Ar_compares_144 ?_
    refine jpE hf (fun K_38 hK_38 hf9 => ?_)
    replace hf := hf9
    clear hf9
    have hJK_38 : ∀ (y_37 : Bool), True → K_38 y_37 = R9 → ∀ (H : Heap) (locs : List Loc), va_P G classes [] H → va_D A [] → va_S A s.heap H locs → ∀ (ls : Array Slot), lv_has ls 5 [(0, .int (iI v_op)), (1, .long v_a), (3, .long v_b)] → W p l e (headSpec (wx y_Ar_compares b_Ar_compares 5 (some .boolean)) { frames := 1, cells := 0, slots := 0, locals := 23 }).room s m ([.int (iI v_op), .long v_a, .long v_b] : List Value).toArray below meth c H locs 0 0 (MX below (XQ G classes A (fun o w1 => ozp R9 (fun x9 => (True) ∧ o = .returned (some (.int (bI x9))) ∧ w1 = []) (fun _ => False))) ([.int (iI v_op), .long v_a, .long v_b] : List Value).toArray s 0 0 A) (F0 m 153 ls [.int (bI y_37)]) := by
      intro y_37 hy_37 hf H_23 locs_23 hP_23 hD_23 hS_23 ls hl
      clear hS hD hP
      replace hf := (congrFun hK_38 y_37).symm.trans hf
      clear hK_38
      exact ex_W (fun _ h => ex_mq h) (W.zret (v := bI y_37) hx hb hr (bI_nar _) (fun t ht hW => ⟨⟨_, ozr hf ⟨trivial, rfl, rfl⟩, by rw [ht]; exact hP_23, hD_23⟩, hS_23.F ht⟩) hS_23.2.2 d_Ar_compares_153)
    clear hK_38
    refine lv_if_lt (tgt := 152) hx hb d_Ar_compares_145 (by decide) (fun c_39 => ?_) (fun c_39 => ?_)
    · have c_39 := (lc_lt).mp c_39
      replace hf := ifp c_39 hf
      refine lv_iconst (v := iI 0) hx hb d_Ar_compares_152 (by decide) ?_
      refine W.eq (g2 := F0 m 153 ls [.int (bI false)]) (by rfl) ?_
      exact hJK_38 false trivial hf _ _ hP hD hS _ (lv_sub hl [0, 1, 2] rfl)
    · have c_39 := (fun q9 => c_39 ((lc_lt).mpr q9))
      replace hf := ifn c_39 hf
      refine lv_iconst (v := iI 1) hx hb d_Ar_compares_148 (by decide) ?_
      refine lv_goto (tgt := 153) hx hb d_Ar_compares_149 (by decide) ?_
      refine W.eq (g2 := F0 m 153 ls [.int (bI true)]) (by rfl) ?_
      exact hJK_38 true trivial hf _ _ hP hD hS _ (lv_sub hl [0, 1, 2] rfl)
  replace hf := ifn q_36 hf
  rcases Decidable.em (v_op < 69 ∨ 78 < v_op) with q_40 | q_40
  · refine lv_tableOut (tgt := 154) hx hb d_Ar_compares_1 (by rw [iI_t hv_op]; exact q_40) (by decide) ?_
    refine lv_lload_n hx hb d_Ar_compares_154 rfl (lv_at hl 1 rfl) ?_
    refine lv_lload_n hx hb d_Ar_compares_155 rfl (lv_at hl 2 rfl) ?_
    replace hf := obE hnb hf
    obtain ⟨x_41, e_42, hf⟩ := hf
    refine xx_callS (wc := []) (wr := []) (As := [.long v_a, .long v_b]) (rest := []) ⟨hx, hb, hml, hown, hts⟩ xE_st hK hE hA (k_Ar_isBelow l htr G cB cI cJ cZ cG v_a v_b (.ret x_41) e_42 ret_nb _) (xw_S 2 hts m_1031 m_1032 m_24 m_1033 (by decide +kernel) ⟨(Nat.le_of_ble_eq_true rfl), (Nat.le_of_ble_eq_true rfl)⟩) hP hD hS [] [] rfl rfl (by decide +kernel) (by decide +kernel) (by decide +kernel) rfl hl.1 rfl (Nat.le_of_ble_eq_true rfl) d_Ar_compares_156 ⟨(Nat.le_of_ble_eq_true rfl), (Nat.le_of_ble_eq_true rfl)⟩ (fun v9 w9 H_24 locs_24 hp hP_24 hD_24 hS_24 => ?_) (fun x9 w9 H9 l9 hp _ _ _ => absurd hp (fun q9 => by obtain ⟨-, ho, -⟩ := q9; cases ho))
    clear hS hD hP
    obtain ⟨hx_41, ho, rfl⟩ := hp
    cases ho
    replace hP_24 : va_P G classes [] H_24 := hP_24
    replace hD_24 : va_D A [] := hD_24
    refine jpE hf (fun K_44 hK_44 hf9 => ?_)
    replace hf := hf9
    clear hf9
    have hJK_44 : ∀ (y_43 : Bool), True → K_44 y_43 = R9 → ∀ (H_24 : Heap) (locs_24 : List Loc), va_P G classes [] H_24 → va_D A [] → va_S A s.heap H_24 locs_24 → ∀ (ls : Array Slot), lv_has ls 5 [(0, .int (iI v_op)), (1, .long v_a), (3, .long v_b)] → W p l e (headSpec (wx y_Ar_compares b_Ar_compares 5 (some .boolean)) { frames := 1, cells := 0, slots := 0, locals := 23 }).room s m ([.int (iI v_op), .long v_a, .long v_b] : List Value).toArray below meth c H_24 locs_24 0 0 (MX below (XQ G classes A (fun o w1 => ozp R9 (fun x9 => (True) ∧ o = .returned (some (.int (bI x9))) ∧ w1 = []) (fun _ => False))) ([.int (iI v_op), .long v_a, .long v_b] : List Value).toArray s 0 0 A) (F0 m 167 ls [.int (bI y_43)]) := by
      intro y_43 hy_43 hf H_25 locs_25 hP_25 hD_25 hS_25 ls hl
      clear hS_24 hD_24 hP_24
      replace hf := (congrFun hK_44 y_43).symm.trans hf
      clear hK_44
      exact ex_W (fun _ h => ex_mq h) (W.zret (v := bI y_43) hx hb hr (bI_nar _) (fun t ht hW => ⟨⟨_, ozr hf ⟨trivial, rfl, rfl⟩, by rw [ht]; exact hP_25, hD_25⟩, hS_25.F ht⟩) hS_25.2.2 d_Ar_compares_167)
    clear hK_44
    refine lv_if_ne (tgt := 166) hx hb d_Ar_compares_159 (by decide) (fun c_45 => ?_) (fun c_45 => ?_)
    · have c_45 := (zb_t c_45)
      replace hf := ifp c_45 hf
      refine lv_iconst (v := iI 0) hx hb d_Ar_compares_166 (by decide) ?_
      refine W.eq (g2 := F0 m 167 ls [.int (bI false)]) (by rfl) ?_
      exact hJK_44 false trivial hf _ _ hP_24 hD_24 hS_24 _ (lv_sub hl [0, 1, 2] rfl)
    · have c_45 := (zb_f c_45)
      replace hf := ifn c_45 hf
      refine lv_iconst (v := iI 1) hx hb d_Ar_compares_162 (by decide) ?_
      refine lv_goto (tgt := 167) hx hb d_Ar_compares_163 (by decide) ?_
      refine W.eq (g2 := F0 m 167 ls [.int (bI true)]) (by rfl) ?_
      exact hJK_44 true trivial hf _ _ hP_24 hD_24 hS_24 _ (lv_sub hl [0, 1, 2] rfl)
  exact absurd q_40 (by omega)
set_option maxHeartbeats 8000000 in
set_option maxRecDepth 100000 in
theorem k_Ar_reasonAgainst (l : Launch) (htr : l.stackTraces = false) (G : va_G) (cB cI cJ cZ cG : ClassId) (v_op : Int) (v_a : Int64) (v_b : Int64) (v_least : Int64) (hv_op : R32 v_op) (R9 : Out Empty (Int)) (hf : f_Ar_reasonAgainst v_op v_a v_b v_least = R9) (hnb : R9 ≠ .bad) (sz : Nat) : MetX l y_Ar_reasonAgainst (wx y_Ar_reasonAgainst b_Ar_reasonAgainst 7 (some .int)) { frames := 0, cells := 0, slots := 0, locals := 0 } (XP G classes (xtys cB cI cJ cZ cG) xE [.int (iI v_op), .long v_a, .long v_b, .long v_least] [] sz) (XQ G classes (va_A [] sz) (fun o w1 => ozp R9 (fun x9 => (R32 x9) ∧ o = .returned (some (.int (iI x9))) ∧ w1 = []) (fun _ => False))) 0 0 (va_A [] sz) := by
  refine ex_ofW (cc := b_Ar_reasonAgainst) (maxL := 7) (ret := (some .int)) (by decide) rfl ?_
  intro p e s m args below meth c s₁ B hml hno hv
  obtain ⟨rfl, hsz, hP, hK, hD0, hE⟩ := hv
  have hx := B.exec
  have hb := B.bytes
  have hr := B.returns
  have hts : ∀ w ∈ lw_good, w.before _ s = true := fun w h => atoms_spec (ws := wx y_Ar_reasonAgainst b_Ar_reasonAgainst 7 (some .int)) B.pre w (List.mem_cons_of_mem _ h)
  have hown : s.vm.findClass R_Ar = some m.cls := findClass_of_methodNamed B.named
  have hlocks := B.notSynchronized
  subst hsz
  have hNS := xx_nostat hP
  have hD := hD0.self (sz := s.heap.size)
  generalize hAe : va_A [] s.heap.size = A at hD hE hNS ⊢
  have hA : ∀ q : Nat, s.heap.size ≤ q → A q := fun q h => by rw [← hAe]; exact Or.inr h
  have hS : va_S A s.heap s.heap [] := va_S.rf
  have hl := lv_entry ([.int (iI v_op), .long v_a, .long v_b, .long v_least]) (n := 7) (Nat.le_of_ble_eq_true rfl)
  rw [lg_entry_eq]
  generalize (lg_sl ([.int (iI v_op), .long v_a, .long v_b, .long v_least]) ++ List.replicate (7 - (lg_sl ([.int (iI v_op), .long v_a, .long v_b, .long v_least])).length) Slot.unset).toArray = ls at hl ⊢
  have hl : lv_has ls 7 [(0, .int (iI v_op)), (1, .long v_a), (3, .long v_b), (5, .long v_least)] := hl
  unfold f_Ar_reasonAgainst at hf
  refine lv_iload_n hx hb d_Ar_reasonAgainst_0 rfl (lv_at hl 0 rfl) ?_
  refine lv_bipush (v := iI 109) hx hb d_Ar_reasonAgainst_1 (by decide) ?_
  refine jpE hf (fun K_2 hK_2 hf9 => ?_)
  replace hf := hf9
  clear hf9
  have hJK_2 : ∀ (y_1 : Unit), True → K_2 y_1 = R9 → ∀ (H : Heap) (locs : List Loc), va_P G classes [] H → va_D A [] → va_S A s.heap H locs → ∀ (ls : Array Slot), lv_has ls 7 [(0, .int (iI v_op)), (1, .long v_a), (3, .long v_b), (5, .long v_least)] → W p l e (headSpec (wx y_Ar_reasonAgainst b_Ar_reasonAgainst 7 (some .int)) { frames := 0, cells := 0, slots := 0, locals := 0 }).room s m ([.int (iI v_op), .long v_a, .long v_b, .long v_least] : List Value).toArray below meth c H locs 0 0 (MX below (XQ G classes A (fun o w1 => ozp R9 (fun x9 => (R32 x9) ∧ o = .returned (some (.int (iI x9))) ∧ w1 = []) (fun _ => False))) ([.int (iI v_op), .long v_a, .long v_b, .long v_least] : List Value).toArray s 0 0 A) (F0 m 12 ls []) := by
    intro y_1 hy_1 hf H_3 locs_3 hP_3 hD_3 hS_3 ls hl
    clear hS hD hP
    replace hf := (congrFun hK_2 y_1).symm.trans hf
    clear hK_2
    refine lv_iconst (v := iI 0) hx hb d_Ar_reasonAgainst_12 (by decide) ?_
    exact ex_W (fun _ h => ex_mq h) (W.iret (v := iI 0) hx hb hr (fun t ht hW => ⟨⟨_, ozr hf ⟨(show R32 (0) by decide), rfl, rfl⟩, by rw [ht]; exact hP_3, hD_3⟩, hS_3.F ht⟩) hS_3.2.2 d_Ar_reasonAgainst_13)
  clear hK_2
  refine lv_icmp_lt (tgt := 12) hx hb d_Ar_reasonAgainst_3 (by decide) (fun c_3 => ?_) (fun c_3 => ?_)
  · have c_3 := ((zv_lt (iI_t hv_op) (iI_t (show R32 (109) by decide)))).mp c_3
    replace hf := ifp c_3 hf
    exact hJK_2 () trivial hf _ _ hP hD hS _ (lv_sub hl [0, 1, 2, 3] rfl)
  · have c_3 := (fun q9 => c_3 (((zv_lt (iI_t hv_op) (iI_t (show R32 (109) by decide)))).mpr q9))
    replace hf := ifn c_3 hf
    refine lv_iload_n hx hb d_Ar_reasonAgainst_6 rfl (lv_at hl 0 rfl) ?_
    refine lv_bipush (v := iI 112) hx hb d_Ar_reasonAgainst_7 (by decide) ?_
    refine lv_icmp_le (tgt := 14) hx hb d_Ar_reasonAgainst_9 (by decide) (fun c_4 => ?_) (fun c_4 => ?_)
    · have c_4 := ((zv_le (iI_t hv_op) (iI_t (show R32 (112) by decide)))).mp c_4
      replace hf := ifp c_4 hf
      refine lv_lload_n hx hb d_Ar_reasonAgainst_14 rfl (lv_at hl 2 rfl) ?_
      refine lv_lconst (v := 0) hx hb d_Ar_reasonAgainst_15 (by decide) ?_
      refine W.lcmp hx hb d_Ar_reasonAgainst_16 ?_
      refine lv_if_ne (tgt := 22) hx hb d_Ar_reasonAgainst_17 (by decide) (fun c_5 => ?_) (fun c_5 => ?_)
      · have c_5 := (fun q9 => c_5 ((lc_eq).mpr q9))
        replace hf := ifn c_5 hf
        refine lv_iload_n hx hb d_Ar_reasonAgainst_22 rfl (lv_at hl 0 rfl) ?_
        refine lv_bipush (v := iI 109) hx hb d_Ar_reasonAgainst_23 (by decide) ?_
        refine jpE hf (fun K_7 hK_7 hf9 => ?_)
        replace hf := hf9
        clear hf9
        have hJK_7 : ∀ (y_6 : Int), R32 y_6 → K_7 y_6 = R9 → ∀ (H : Heap) (locs : List Loc), va_P G classes [] H → va_D A [] → va_S A s.heap H locs → ∀ (ls : Array Slot), lv_has ls 7 [(0, .int (iI v_op)), (1, .long v_a), (3, .long v_b), (5, .long v_least)] → W p l e (headSpec (wx y_Ar_reasonAgainst b_Ar_reasonAgainst 7 (some .int)) { frames := 0, cells := 0, slots := 0, locals := 0 }).room s m ([.int (iI v_op), .long v_a, .long v_b, .long v_least] : List Value).toArray below meth c H locs 0 0 (MX below (XQ G classes A (fun o w1 => ozp R9 (fun x9 => (R32 x9) ∧ o = .returned (some (.int (iI x9))) ∧ w1 = []) (fun _ => False))) ([.int (iI v_op), .long v_a, .long v_b, .long v_least] : List Value).toArray s 0 0 A) (F0 m 48 ls [.int (iI y_6)]) := by
          intro y_6 hy_6 hf H_4 locs_4 hP_4 hD_4 hS_4 ls hl
          clear hS hD hP
          replace hf := (congrFun hK_7 y_6).symm.trans hf
          clear hK_7
          exact ex_W (fun _ h => ex_mq h) (W.iret (v := iI y_6) hx hb hr (fun t ht hW => ⟨⟨_, ozr hf ⟨hy_6, rfl, rfl⟩, by rw [ht]; exact hP_4, hD_4⟩, hS_4.F ht⟩) hS_4.2.2 d_Ar_reasonAgainst_48)
        clear hK_7
        refine jpE hf (fun K_9 hK_9 hf9 => ?_)
        replace hf := hf9
        clear hf9
        have hJK_9 : ∀ (y_8 : Unit), True → K_9 y_8 = R9 → ∀ (H : Heap) (locs : List Loc), va_P G classes [] H → va_D A [] → va_S A s.heap H locs → ∀ (ls : Array Slot), lv_has ls 7 [(0, .int (iI v_op)), (1, .long v_a), (3, .long v_b), (5, .long v_least)] → W p l e (headSpec (wx y_Ar_reasonAgainst b_Ar_reasonAgainst 7 (some .int)) { frames := 0, cells := 0, slots := 0, locals := 0 }).room s m ([.int (iI v_op), .long v_a, .long v_b, .long v_least] : List Value).toArray below meth c H locs 0 0 (MX below (XQ G classes A (fun o w1 => ozp R9 (fun x9 => (R32 x9) ∧ o = .returned (some (.int (iI x9))) ∧ w1 = []) (fun _ => False))) ([.int (iI v_op), .long v_a, .long v_b, .long v_least] : List Value).toArray s 0 0 A) (F0 m 47 ls []) := by
          intro y_8 hy_8 hf H_5 locs_5 hP_5 hD_5 hS_5 ls hl
          clear hS hD hP
          replace hf := (congrFun hK_9 y_8).symm.trans hf
          clear hK_9
          refine lv_iconst (v := iI 0) hx hb d_Ar_reasonAgainst_47 (by decide) ?_
          exact hJK_7 0 (show R32 (0) by decide) hf _ _ hP_5 hD_5 hS_5 _ (lv_sub hl [0, 1, 2, 3] rfl)
        clear hK_9
        refine lv_icmp_ne (tgt := 47) hx hb d_Ar_reasonAgainst_25 (by decide) (fun c_10 => ?_) (fun c_10 => ?_)
        · have c_10 := (fun q9 => c_10 (((zv_eq (iI_t hv_op) (iI_t (show R32 (109) by decide)))).mpr q9))
          replace hf := ifn c_10 hf
          exact hJK_9 () trivial hf _ _ hP hD hS _ (lv_sub hl [0, 1, 2, 3] rfl)
        · have c_10 := ((zv_eq (iI_t hv_op) (iI_t (show R32 (109) by decide)))).mp c_10
          replace hf := ifp c_10 hf
          refine lv_lload_n hx hb d_Ar_reasonAgainst_28 rfl (lv_at hl 1 rfl) ?_
          refine lv_lload hx hb d_Ar_reasonAgainst_29 (lv_at hl 3 rfl) ?_
          refine W.lcmp hx hb d_Ar_reasonAgainst_31 ?_
          refine lv_if_ne (tgt := 47) hx hb d_Ar_reasonAgainst_32 (by decide) (fun c_11 => ?_) (fun c_11 => ?_)
          · have c_11 := (fun q9 => c_11 ((lc_eq).mpr q9))
            replace hf := ifn c_11 hf
            exact hJK_9 () trivial hf _ _ hP hD hS _ (lv_sub hl [0, 1, 2, 3] rfl)
          · have c_11 := (lc_eq).mp c_11
            replace hf := ifp c_11 hf
            refine lv_lload_n hx hb d_Ar_reasonAgainst_35 rfl (lv_at hl 2 rfl) ?_
            refine lv_ldc2 (v := (-1)) hx hb hown (hts _ m_1055) d_Ar_reasonAgainst_36 ?_
            refine W.lcmp hx hb d_Ar_reasonAgainst_39 ?_
            refine lv_if_ne (tgt := 47) hx hb d_Ar_reasonAgainst_40 (by decide) (fun c_12 => ?_) (fun c_12 => ?_)
            · have c_12 := (fun q9 => c_12 ((lc_eq).mpr q9))
              replace hf := ifn c_12 hf
              exact hJK_9 () trivial hf _ _ hP hD hS _ (lv_sub hl [0, 1, 2, 3] rfl)
            · have c_12 := (lc_eq).mp c_12
              replace hf := ifp c_12 hf
              refine lv_iconst (v := iI 5) hx hb d_Ar_reasonAgainst_43 (by decide) ?_
              refine lv_goto (tgt := 48) hx hb d_Ar_reasonAgainst_44 (by decide) ?_
              exact hJK_7 5 (show R32 (5) by decide) hf _ _ hP hD hS _ (lv_sub hl [0, 1, 2, 3] rfl)
      · have c_5 := (lc_eq).mp c_5
        replace hf := ifp c_5 hf
        refine lv_iconst (v := iI 4) hx hb d_Ar_reasonAgainst_20 (by decide) ?_
        exact ex_W (fun _ h => ex_mq h) (W.iret (v := iI 4) hx hb hr (fun t ht hW => ⟨⟨_, ozr hf ⟨(show R32 (4) by decide), rfl, rfl⟩, by rw [ht]; exact hP, hD⟩, hS.F ht⟩) hS.2.2 d_Ar_reasonAgainst_21)
    · have c_4 := (fun q9 => c_4 (((zv_le (iI_t hv_op) (iI_t (show R32 (112) by decide)))).mpr q9))
      replace hf := ifn c_4 hf
      exact hJK_2 () trivial hf _ _ hP hD hS _ (lv_sub hl [0, 1, 2, 3] rfl)
set_option maxHeartbeats 8000000 in
set_option maxRecDepth 100000 in
theorem k_Ar_filled (l : Launch) (htr : l.stackTraces = false) (G : va_G) (cB cI cJ cZ cG : ClassId) (v_a : Int64) (fu : Nat) (R9 : Out Empty (Int64)) (hf : f_Ar_filled fu v_a = R9) (hnb : R9 ≠ .bad) (sz : Nat) : MetX l y_Ar_filled (wx y_Ar_filled b_Ar_filled 5 (some .long)) { frames := 0, cells := 0, slots := 0, locals := 0 } (XP G classes (xtys cB cI cJ cZ cG) xE [.long v_a] [] sz) (XQ G classes (va_A [] sz) (fun o w1 => ozp R9 (fun x9 => (True) ∧ o = .returned (some (.long x9)) ∧ w1 = []) (fun _ => False))) 0 0 (va_A [] sz) := by
  refine ex_ofW (cc := b_Ar_filled) (maxL := 5) (ret := (some .long)) (by decide) rfl ?_
  intro p e s m args below meth c s₁ B hml hno hv
  obtain ⟨rfl, hsz, hP, hK, hD0, hE⟩ := hv
  have hx := B.exec
  have hb := B.bytes
  have hr := B.returns
  have hts : ∀ w ∈ lw_good, w.before _ s = true := fun w h => atoms_spec (ws := wx y_Ar_filled b_Ar_filled 5 (some .long)) B.pre w (List.mem_cons_of_mem _ h)
  have hown : s.vm.findClass R_Ar = some m.cls := findClass_of_methodNamed B.named
  have hlocks := B.notSynchronized
  subst hsz
  have hNS := xx_nostat hP
  have hD := hD0.self (sz := s.heap.size)
  generalize hAe : va_A [] s.heap.size = A at hD hE hNS ⊢
  have hA : ∀ q : Nat, s.heap.size ≤ q → A q := fun q h => by rw [← hAe]; exact Or.inr h
  have hS : va_S A s.heap s.heap [] := va_S.rf
  have hl := lv_entry ([.long v_a]) (n := 5) (Nat.le_of_ble_eq_true rfl)
  rw [lg_entry_eq]
  generalize (lg_sl ([.long v_a]) ++ List.replicate (5 - (lg_sl ([.long v_a])).length) Slot.unset).toArray = ls at hl ⊢
  have hl : lv_has ls 5 [(0, .long v_a)] := hl
  unfold f_Ar_filled at hf
  refine lv_lload_n hx hb d_Ar_filled_0 rfl (lv_at hl 0 rfl) ?_
  refine lv_lstore_n (lv' := [(2, .long v_a), (0, .long v_a)]) hx hb d_Ar_filled_1 rfl hl (by decide) rfl (fun ls hl => ?_)
  refine lv_iconst (v := iI 1) hx hb d_Ar_filled_2 (by decide) ?_
  refine lv_istore (lv' := [(4, .int (iI 1)), (2, .long v_a), (0, .long v_a)]) hx hb d_Ar_filled_3 hl (by decide) rfl (fun ls hl => ?_)
  refine obG hf (fun K_3 hK_3 hf => ?_)
  have hJK_3 : ∀ (y_5 : Int64 × Int), R32 y_5.2 → K_3 y_5 = R9 → ∀ (H : Heap) (locs : List Loc), va_P G classes [] H → va_D A [] → va_S A s.heap H locs → ∀ (ls : Array Slot), lv_has ls 5 [(0, .long v_a), (2, .long y_5.1), (4, .int (iI y_5.2))] → W p l e (headSpec (wx y_Ar_filled b_Ar_filled 5 (some .long)) { frames := 0, cells := 0, slots := 0, locals := 0 }).room s m ([.long v_a] : List Value).toArray below meth c H locs 0 0 (MX below (XQ G classes A (fun o w1 => ozp R9 (fun x9 => (True) ∧ o = .returned (some (.long x9)) ∧ w1 = []) (fun _ => False))) ([.long v_a] : List Value).toArray s 0 0 A) (F0 m 28 ls []) := by
    intro y_5 hy_5 hf H_1 locs_1 hP_1 hD_1 hS_1 ls hl
    clear hS hD hP
    replace hf := (congrFun hK_3 y_5).symm.trans hf
    clear hK_3
    refine lv_lload_n hx hb d_Ar_filled_28 rfl (lv_at hl 1 rfl) ?_
    exact ex_W (fun _ h => ex_mq h) (W.lret (v := y_5.1) hx hb hr (fun t ht hW => ⟨⟨_, ozr hf ⟨trivial, rfl, rfl⟩, by rw [ht]; exact hP_1, hD_1⟩, hS_1.F ht⟩) hS_1.2.2 d_Ar_filled_29)
  clear hK_3
  have loop_5 : ∀ (n_1 : Nat) (w_bits_6 : Int64) (w_shift_7 : Int), R32 w_shift_7 → ∀ (R_8 : Out Empty (Int64 × Int)), L5_Ar_filled fu n_1 w_bits_6 w_shift_7 = R_8 → obind R_8 K_3 = R9 → ∀ (H : Heap) (locs : List Loc), va_P G classes [] H → va_D A [] → va_S A s.heap H locs → ∀ (ls : Array Slot), lv_has ls 5 [(0, .long v_a), (2, .long w_bits_6), (4, .int (iI w_shift_7))] → W p l e (headSpec (wx y_Ar_filled b_Ar_filled 5 (some .long)) { frames := 0, cells := 0, slots := 0, locals := 0 }).room s m ([.long v_a] : List Value).toArray below meth c H locs 0 0 (MX below (XQ G classes A (fun o w1 => ozp R9 (fun x9 => (True) ∧ o = .returned (some (.long x9)) ∧ w1 = []) (fun _ => False))) ([.long v_a] : List Value).toArray s 0 0 A) (F0 m 5 ls []) := by
    intro n_1
    induction n_1 with
    | zero => intro w_bits_6 w_shift_7  hw_shift_7 R_8 hf hk5; subst hf; exact absurd hk5.symm hnb
    | succ n_1 ih_5 =>
      intro w_bits_6 w_shift_7  hw_shift_7 R_8 hf hk5 H_2 locs_2 hP_2 hD_2 hS_2 ls hl
      clear hS hD hP
      have hnb : R_8 ≠ .bad := ob_nb hnb hk5
      rw [L5_Ar_filled.eq_2] at hf
      refine lv_iload hx hb d_Ar_filled_5 (lv_at hl 2 rfl) ?_
      refine lv_bipush (v := iI 64) hx hb d_Ar_filled_7 (by decide) ?_
      refine lv_icmp_ge (tgt := 28) hx hb d_Ar_filled_9 (by decide) (fun c_9 => ?_) (fun c_9 => ?_)
      · have c_9 := ((zv_le (iI_t (show R32 (64) by decide)) (iI_t hw_shift_7))).mp c_9
        replace hf := ifp c_9 hf
        exact hJK_3 (w_bits_6, w_shift_7) hw_shift_7 (ob_r hf hk5) _ _ hP_2 hD_2 hS_2 _ (lv_sub hl [0, 1, 2] rfl)
      · have c_9 := (fun q9 => c_9 (((zv_le (iI_t (show R32 (64) by decide)) (iI_t hw_shift_7))).mpr q9))
        replace hf := ifn c_9 hf
        refine lv_lload_n hx hb d_Ar_filled_12 rfl (lv_at hl 1 rfl) ?_
        refine lv_lload_n hx hb d_Ar_filled_13 rfl (lv_at hl 1 rfl) ?_
        refine lv_iload hx hb d_Ar_filled_14 (lv_at hl 2 rfl) ?_
        refine lv_lushr hx hb d_Ar_filled_16 rfl ?_
        refine lv_lor hx hb d_Ar_filled_17 ?_
        refine lv_lstore_n (lv' := [(2, .long (w_bits_6 ||| ((w_bits_6.toUInt64 >>> ((iI w_shift_7).toInt64.toUInt64 &&& Int64.toUInt64 63)).toInt64))), (0, .long v_a), (4, .int (iI w_shift_7))]) hx hb d_Ar_filled_18 rfl hl (by decide) rfl (fun ls hl => ?_)
        refine lv_iload hx hb d_Ar_filled_19 (lv_at hl 2 rfl) ?_
        refine lv_iconst (v := iI 2) hx hb d_Ar_filled_21 (by decide) ?_
        refine lv_imul hx hb d_Ar_filled_22 ?_
        refine lv_topi (fun x9 e9 => ?_)
        obtain rfl : x9 = iI (w_shift_7 * 2) := e9.trans (iI_mul _ _)
        replace hf := grd hnb hf
        obtain ⟨g_10, hf⟩ := hf
        refine lv_istore (lv' := [(4, .int (iI (w_shift_7 * 2))), (2, .long (w_bits_6 ||| ((w_bits_6.toUInt64 >>> ((iI w_shift_7).toInt64.toUInt64 &&& Int64.toUInt64 63)).toInt64))), (0, .long v_a)]) hx hb d_Ar_filled_23 hl (by decide) rfl (fun ls hl => ?_)
        refine lv_goto (tgt := 5) hx hb d_Ar_filled_25 (by decide) ?_
        exact ih_5 (w_bits_6 ||| ((w_bits_6.toUInt64 >>> ((iI w_shift_7).toInt64.toUInt64 &&& Int64.toUInt64 63)).toInt64)) (w_shift_7 * 2) g_10 _ hf hk5 _ _ hP_2 hD_2 hS_2 _ (lv_sub hl [2, 1, 0] rfl)
  exact loop_5 fu v_a 1 (show R32 (1) by decide) _ rfl hf _ _ hP hD hS _ (lv_sub hl [2, 1, 0] rfl)
set_option maxHeartbeats 8000000 in
set_option maxRecDepth 100000 in
theorem k_J_Integer_bitCount (l : Launch) (htr : l.stackTraces = false) (G : va_G) (cB cI cJ cZ cG : ClassId) (v_q0 : Int32) (R9 : Out Empty (Int32)) (hf : f_J_Integer_bitCount v_q0 = R9) (hnb : R9 ≠ .bad) (sz : Nat) : MetX l y_J_Integer_bitCount (wx y_J_Integer_bitCount b_J_Integer_bitCount 1 (some .int)) { frames := 0, cells := 0, slots := 0, locals := 0 } (XP G classes (xtys cB cI cJ cZ cG) xE [.int v_q0] [] sz) (XQ G classes (va_A [] sz) (fun o w1 => ozp R9 (fun x9 => (True) ∧ o = .returned (some (.int x9)) ∧ w1 = []) (fun _ => False))) 0 0 (va_A [] sz) := by
  refine ex_ofW (cc := b_J_Integer_bitCount) (maxL := 1) (ret := (some .int)) (by decide) rfl ?_
  intro p e s m args below meth c s₁ B hml hno hv
  obtain ⟨rfl, hsz, hP, hK, hD0, hE⟩ := hv
  have hx := B.exec
  have hb := B.bytes
  have hr := B.returns
  have hts : ∀ w ∈ lw_good, w.before _ s = true := fun w h => atoms_spec (ws := wx y_J_Integer_bitCount b_J_Integer_bitCount 1 (some .int)) B.pre w (List.mem_cons_of_mem _ h)
  have hown : s.vm.findClass "java/lang/Integer" = some m.cls := findClass_of_methodNamed B.named
  have hlocks := B.notSynchronized
  subst hsz
  have hNS := xx_nostat hP
  have hD := hD0.self (sz := s.heap.size)
  generalize hAe : va_A [] s.heap.size = A at hD hE hNS ⊢
  have hA : ∀ q : Nat, s.heap.size ≤ q → A q := fun q h => by rw [← hAe]; exact Or.inr h
  have hS : va_S A s.heap s.heap [] := va_S.rf
  have hl := lv_entry ([.int v_q0]) (n := 1) (Nat.le_of_ble_eq_true rfl)
  rw [lg_entry_eq]
  generalize (lg_sl ([.int v_q0]) ++ List.replicate (1 - (lg_sl ([.int v_q0])).length) Slot.unset).toArray = ls at hl ⊢
  have hl : lv_has ls 1 [(0, .int v_q0)] := hl
  unfold f_J_Integer_bitCount at hf
  refine lv_iload_n hx hb d_J_Integer_bitCount_0 rfl (lv_at hl 0 rfl) ?_
  refine lv_iload_n hx hb d_J_Integer_bitCount_1 rfl (lv_at hl 0 rfl) ?_
  refine lv_iconst (v := iI 1) hx hb d_J_Integer_bitCount_2 (by decide) ?_
  refine lv_iushr hx hb d_J_Integer_bitCount_3 rfl ?_
  refine lv_ldcw (v := 1431655765) hx hb hown (hts _ m_1048) d_J_Integer_bitCount_4 ?_
  refine lv_topi (fun x9 e9 => ?_)
  obtain rfl : x9 = iI 1431655765 := e9.trans (by decide)
  refine lv_iand hx hb d_J_Integer_bitCount_7 ?_
  refine lv_isub hx hb d_J_Integer_bitCount_8 ?_
  refine lv_istore_n (lv' := [(0, .int (v_q0 - (((v_q0.toUInt32 >>> ((iI 1).toUInt32 &&& Int32.toUInt32 31)).toInt32) &&& (iI 1431655765))))]) hx hb d_J_Integer_bitCount_9 rfl hl (by decide) rfl (fun ls hl => ?_)
  refine lv_iload_n hx hb d_J_Integer_bitCount_10 rfl (lv_at hl 0 rfl) ?_
  refine lv_ldcw (v := 858993459) hx hb hown (hts _ m_1049) d_J_Integer_bitCount_11 ?_
  refine lv_topi (fun x9 e9 => ?_)
  obtain rfl : x9 = iI 858993459 := e9.trans (by decide)
  refine lv_iand hx hb d_J_Integer_bitCount_14 ?_
  refine lv_iload_n hx hb d_J_Integer_bitCount_15 rfl (lv_at hl 0 rfl) ?_
  refine lv_iconst (v := iI 2) hx hb d_J_Integer_bitCount_16 (by decide) ?_
  refine lv_iushr hx hb d_J_Integer_bitCount_17 rfl ?_
  refine lv_ldcw (v := 858993459) hx hb hown (hts _ m_1049) d_J_Integer_bitCount_18 ?_
  refine lv_topi (fun x9 e9 => ?_)
  obtain rfl : x9 = iI 858993459 := e9.trans (by decide)
  refine lv_iand hx hb d_J_Integer_bitCount_21 ?_
  refine lv_iadd hx hb d_J_Integer_bitCount_22 ?_
  refine lv_istore_n (lv' := [(0, .int (((v_q0 - (((v_q0.toUInt32 >>> ((iI 1).toUInt32 &&& Int32.toUInt32 31)).toInt32) &&& (iI 1431655765))) &&& (iI 858993459)) + ((((v_q0 - (((v_q0.toUInt32 >>> ((iI 1).toUInt32 &&& Int32.toUInt32 31)).toInt32) &&& (iI 1431655765))).toUInt32 >>> ((iI 2).toUInt32 &&& Int32.toUInt32 31)).toInt32) &&& (iI 858993459))))]) hx hb d_J_Integer_bitCount_23 rfl hl (by decide) rfl (fun ls hl => ?_)
  refine lv_iload_n hx hb d_J_Integer_bitCount_24 rfl (lv_at hl 0 rfl) ?_
  refine lv_iload_n hx hb d_J_Integer_bitCount_25 rfl (lv_at hl 0 rfl) ?_
  refine lv_iconst (v := iI 4) hx hb d_J_Integer_bitCount_26 (by decide) ?_
  refine lv_iushr hx hb d_J_Integer_bitCount_27 rfl ?_
  refine lv_iadd hx hb d_J_Integer_bitCount_28 ?_
  refine lv_ldcw (v := 252645135) hx hb hown (hts _ m_1050) d_J_Integer_bitCount_29 ?_
  refine lv_topi (fun x9 e9 => ?_)
  obtain rfl : x9 = iI 252645135 := e9.trans (by decide)
  refine lv_iand hx hb d_J_Integer_bitCount_32 ?_
  refine lv_istore_n (lv' := [(0, .int (((((v_q0 - (((v_q0.toUInt32 >>> ((iI 1).toUInt32 &&& Int32.toUInt32 31)).toInt32) &&& (iI 1431655765))) &&& (iI 858993459)) + ((((v_q0 - (((v_q0.toUInt32 >>> ((iI 1).toUInt32 &&& Int32.toUInt32 31)).toInt32) &&& (iI 1431655765))).toUInt32 >>> ((iI 2).toUInt32 &&& Int32.toUInt32 31)).toInt32) &&& (iI 858993459))) + (((((v_q0 - (((v_q0.toUInt32 >>> ((iI 1).toUInt32 &&& Int32.toUInt32 31)).toInt32) &&& (iI 1431655765))) &&& (iI 858993459)) + ((((v_q0 - (((v_q0.toUInt32 >>> ((iI 1).toUInt32 &&& Int32.toUInt32 31)).toInt32) &&& (iI 1431655765))).toUInt32 >>> ((iI 2).toUInt32 &&& Int32.toUInt32 31)).toInt32) &&& (iI 858993459))).toUInt32 >>> ((iI 4).toUInt32 &&& Int32.toUInt32 31)).toInt32)) &&& (iI 252645135)))]) hx hb d_J_Integer_bitCount_33 rfl hl (by decide) rfl (fun ls hl => ?_)
  refine lv_iload_n hx hb d_J_Integer_bitCount_34 rfl (lv_at hl 0 rfl) ?_
  refine lv_iload_n hx hb d_J_Integer_bitCount_35 rfl (lv_at hl 0 rfl) ?_
  refine lv_bipush (v := iI 8) hx hb d_J_Integer_bitCount_36 (by decide) ?_
  refine lv_iushr hx hb d_J_Integer_bitCount_38 rfl ?_
  refine lv_iadd hx hb d_J_Integer_bitCount_39 ?_
  refine lv_istore_n (lv' := [(0, .int ((((((v_q0 - (((v_q0.toUInt32 >>> ((iI 1).toUInt32 &&& Int32.toUInt32 31)).toInt32) &&& (iI 1431655765))) &&& (iI 858993459)) + ((((v_q0 - (((v_q0.toUInt32 >>> ((iI 1).toUInt32 &&& Int32.toUInt32 31)).toInt32) &&& (iI 1431655765))).toUInt32 >>> ((iI 2).toUInt32 &&& Int32.toUInt32 31)).toInt32) &&& (iI 858993459))) + (((((v_q0 - (((v_q0.toUInt32 >>> ((iI 1).toUInt32 &&& Int32.toUInt32 31)).toInt32) &&& (iI 1431655765))) &&& (iI 858993459)) + ((((v_q0 - (((v_q0.toUInt32 >>> ((iI 1).toUInt32 &&& Int32.toUInt32 31)).toInt32) &&& (iI 1431655765))).toUInt32 >>> ((iI 2).toUInt32 &&& Int32.toUInt32 31)).toInt32) &&& (iI 858993459))).toUInt32 >>> ((iI 4).toUInt32 &&& Int32.toUInt32 31)).toInt32)) &&& (iI 252645135)) + (((((((v_q0 - (((v_q0.toUInt32 >>> ((iI 1).toUInt32 &&& Int32.toUInt32 31)).toInt32) &&& (iI 1431655765))) &&& (iI 858993459)) + ((((v_q0 - (((v_q0.toUInt32 >>> ((iI 1).toUInt32 &&& Int32.toUInt32 31)).toInt32) &&& (iI 1431655765))).toUInt32 >>> ((iI 2).toUInt32 &&& Int32.toUInt32 31)).toInt32) &&& (iI 858993459))) + (((((v_q0 - (((v_q0.toUInt32 >>> ((iI 1).toUInt32 &&& Int32.toUInt32 31)).toInt32) &&& (iI 1431655765))) &&& (iI 858993459)) + ((((v_q0 - (((v_q0.toUInt32 >>> ((iI 1).toUInt32 &&& Int32.toUInt32 31)).toInt32) &&& (iI 1431655765))).toUInt32 >>> ((iI 2).toUInt32 &&& Int32.toUInt32 31)).toInt32) &&& (iI 858993459))).toUInt32 >>> ((iI 4).toUInt32 &&& Int32.toUInt32 31)).toInt32)) &&& (iI 252645135)).toUInt32 >>> ((iI 8).toUInt32 &&& Int32.toUInt32 31)).toInt32)))]) hx hb d_J_Integer_bitCount_40 rfl hl (by decide) rfl (fun ls hl => ?_)
  refine lv_iload_n hx hb d_J_Integer_bitCount_41 rfl (lv_at hl 0 rfl) ?_
  refine lv_iload_n hx hb d_J_Integer_bitCount_42 rfl (lv_at hl 0 rfl) ?_
  refine lv_bipush (v := iI 16) hx hb d_J_Integer_bitCount_43 (by decide) ?_
  refine lv_iushr hx hb d_J_Integer_bitCount_45 rfl ?_
  refine lv_iadd hx hb d_J_Integer_bitCount_46 ?_
  refine lv_istore_n (lv' := [(0, .int (((((((v_q0 - (((v_q0.toUInt32 >>> ((iI 1).toUInt32 &&& Int32.toUInt32 31)).toInt32) &&& (iI 1431655765))) &&& (iI 858993459)) + ((((v_q0 - (((v_q0.toUInt32 >>> ((iI 1).toUInt32 &&& Int32.toUInt32 31)).toInt32) &&& (iI 1431655765))).toUInt32 >>> ((iI 2).toUInt32 &&& Int32.toUInt32 31)).toInt32) &&& (iI 858993459))) + (((((v_q0 - (((v_q0.toUInt32 >>> ((iI 1).toUInt32 &&& Int32.toUInt32 31)).toInt32) &&& (iI 1431655765))) &&& (iI 858993459)) + ((((v_q0 - (((v_q0.toUInt32 >>> ((iI 1).toUInt32 &&& Int32.toUInt32 31)).toInt32) &&& (iI 1431655765))).toUInt32 >>> ((iI 2).toUInt32 &&& Int32.toUInt32 31)).toInt32) &&& (iI 858993459))).toUInt32 >>> ((iI 4).toUInt32 &&& Int32.toUInt32 31)).toInt32)) &&& (iI 252645135)) + (((((((v_q0 - (((v_q0.toUInt32 >>> ((iI 1).toUInt32 &&& Int32.toUInt32 31)).toInt32) &&& (iI 1431655765))) &&& (iI 858993459)) + ((((v_q0 - (((v_q0.toUInt32 >>> ((iI 1).toUInt32 &&& Int32.toUInt32 31)).toInt32) &&& (iI 1431655765))).toUInt32 >>> ((iI 2).toUInt32 &&& Int32.toUInt32 31)).toInt32) &&& (iI 858993459))) + (((((v_q0 - (((v_q0.toUInt32 >>> ((iI 1).toUInt32 &&& Int32.toUInt32 31)).toInt32) &&& (iI 1431655765))) &&& (iI 858993459)) + ((((v_q0 - (((v_q0.toUInt32 >>> ((iI 1).toUInt32 &&& Int32.toUInt32 31)).toInt32) &&& (iI 1431655765))).toUInt32 >>> ((iI 2).toUInt32 &&& Int32.toUInt32 31)).toInt32) &&& (iI 858993459))).toUInt32 >>> ((iI 4).toUInt32 &&& Int32.toUInt32 31)).toInt32)) &&& (iI 252645135)).toUInt32 >>> ((iI 8).toUInt32 &&& Int32.toUInt32 31)).toInt32)) + ((((((((v_q0 - (((v_q0.toUInt32 >>> ((iI 1).toUInt32 &&& Int32.toUInt32 31)).toInt32) &&& (iI 1431655765))) &&& (iI 858993459)) + ((((v_q0 - (((v_q0.toUInt32 >>> ((iI 1).toUInt32 &&& Int32.toUInt32 31)).toInt32) &&& (iI 1431655765))).toUInt32 >>> ((iI 2).toUInt32 &&& Int32.toUInt32 31)).toInt32) &&& (iI 858993459))) + (((((v_q0 - (((v_q0.toUInt32 >>> ((iI 1).toUInt32 &&& Int32.toUInt32 31)).toInt32) &&& (iI 1431655765))) &&& (iI 858993459)) + ((((v_q0 - (((v_q0.toUInt32 >>> ((iI 1).toUInt32 &&& Int32.toUInt32 31)).toInt32) &&& (iI 1431655765))).toUInt32 >>> ((iI 2).toUInt32 &&& Int32.toUInt32 31)).toInt32) &&& (iI 858993459))).toUInt32 >>> ((iI 4).toUInt32 &&& Int32.toUInt32 31)).toInt32)) &&& (iI 252645135)) + (((((((v_q0 - (((v_q0.toUInt32 >>> ((iI 1).toUInt32 &&& Int32.toUInt32 31)).toInt32) &&& (iI 1431655765))) &&& (iI 858993459)) + ((((v_q0 - (((v_q0.toUInt32 >>> ((iI 1).toUInt32 &&& Int32.toUInt32 31)).toInt32) &&& (iI 1431655765))).toUInt32 >>> ((iI 2).toUInt32 &&& Int32.toUInt32 31)).toInt32) &&& (iI 858993459))) + (((((v_q0 - (((v_q0.toUInt32 >>> ((iI 1).toUInt32 &&& Int32.toUInt32 31)).toInt32) &&& (iI 1431655765))) &&& (iI 858993459)) + ((((v_q0 - (((v_q0.toUInt32 >>> ((iI 1).toUInt32 &&& Int32.toUInt32 31)).toInt32) &&& (iI 1431655765))).toUInt32 >>> ((iI 2).toUInt32 &&& Int32.toUInt32 31)).toInt32) &&& (iI 858993459))).toUInt32 >>> ((iI 4).toUInt32 &&& Int32.toUInt32 31)).toInt32)) &&& (iI 252645135)).toUInt32 >>> ((iI 8).toUInt32 &&& Int32.toUInt32 31)).toInt32)).toUInt32 >>> ((iI 16).toUInt32 &&& Int32.toUInt32 31)).toInt32)))]) hx hb d_J_Integer_bitCount_47 rfl hl (by decide) rfl (fun ls hl => ?_)
  refine lv_iload_n hx hb d_J_Integer_bitCount_48 rfl (lv_at hl 0 rfl) ?_
  refine lv_bipush (v := iI 63) hx hb d_J_Integer_bitCount_49 (by decide) ?_
  refine lv_iand hx hb d_J_Integer_bitCount_51 ?_
  exact ex_W (fun _ h => ex_mq h) (W.iret (v := (((((((v_q0 - (((v_q0.toUInt32 >>> ((iI 1).toUInt32 &&& Int32.toUInt32 31)).toInt32) &&& (iI 1431655765))) &&& (iI 858993459)) + ((((v_q0 - (((v_q0.toUInt32 >>> ((iI 1).toUInt32 &&& Int32.toUInt32 31)).toInt32) &&& (iI 1431655765))).toUInt32 >>> ((iI 2).toUInt32 &&& Int32.toUInt32 31)).toInt32) &&& (iI 858993459))) + (((((v_q0 - (((v_q0.toUInt32 >>> ((iI 1).toUInt32 &&& Int32.toUInt32 31)).toInt32) &&& (iI 1431655765))) &&& (iI 858993459)) + ((((v_q0 - (((v_q0.toUInt32 >>> ((iI 1).toUInt32 &&& Int32.toUInt32 31)).toInt32) &&& (iI 1431655765))).toUInt32 >>> ((iI 2).toUInt32 &&& Int32.toUInt32 31)).toInt32) &&& (iI 858993459))).toUInt32 >>> ((iI 4).toUInt32 &&& Int32.toUInt32 31)).toInt32)) &&& (iI 252645135)) + (((((((v_q0 - (((v_q0.toUInt32 >>> ((iI 1).toUInt32 &&& Int32.toUInt32 31)).toInt32) &&& (iI 1431655765))) &&& (iI 858993459)) + ((((v_q0 - (((v_q0.toUInt32 >>> ((iI 1).toUInt32 &&& Int32.toUInt32 31)).toInt32) &&& (iI 1431655765))).toUInt32 >>> ((iI 2).toUInt32 &&& Int32.toUInt32 31)).toInt32) &&& (iI 858993459))) + (((((v_q0 - (((v_q0.toUInt32 >>> ((iI 1).toUInt32 &&& Int32.toUInt32 31)).toInt32) &&& (iI 1431655765))) &&& (iI 858993459)) + ((((v_q0 - (((v_q0.toUInt32 >>> ((iI 1).toUInt32 &&& Int32.toUInt32 31)).toInt32) &&& (iI 1431655765))).toUInt32 >>> ((iI 2).toUInt32 &&& Int32.toUInt32 31)).toInt32) &&& (iI 858993459))).toUInt32 >>> ((iI 4).toUInt32 &&& Int32.toUInt32 31)).toInt32)) &&& (iI 252645135)).toUInt32 >>> ((iI 8).toUInt32 &&& Int32.toUInt32 31)).toInt32)) + ((((((((v_q0 - (((v_q0.toUInt32 >>> ((iI 1).toUInt32 &&& Int32.toUInt32 31)).toInt32) &&& (iI 1431655765))) &&& (iI 858993459)) + ((((v_q0 - (((v_q0.toUInt32 >>> ((iI 1).toUInt32 &&& Int32.toUInt32 31)).toInt32) &&& (iI 1431655765))).toUInt32 >>> ((iI 2).toUInt32 &&& Int32.toUInt32 31)).toInt32) &&& (iI 858993459))) + (((((v_q0 - (((v_q0.toUInt32 >>> ((iI 1).toUInt32 &&& Int32.toUInt32 31)).toInt32) &&& (iI 1431655765))) &&& (iI 858993459)) + ((((v_q0 - (((v_q0.toUInt32 >>> ((iI 1).toUInt32 &&& Int32.toUInt32 31)).toInt32) &&& (iI 1431655765))).toUInt32 >>> ((iI 2).toUInt32 &&& Int32.toUInt32 31)).toInt32) &&& (iI 858993459))).toUInt32 >>> ((iI 4).toUInt32 &&& Int32.toUInt32 31)).toInt32)) &&& (iI 252645135)) + (((((((v_q0 - (((v_q0.toUInt32 >>> ((iI 1).toUInt32 &&& Int32.toUInt32 31)).toInt32) &&& (iI 1431655765))) &&& (iI 858993459)) + ((((v_q0 - (((v_q0.toUInt32 >>> ((iI 1).toUInt32 &&& Int32.toUInt32 31)).toInt32) &&& (iI 1431655765))).toUInt32 >>> ((iI 2).toUInt32 &&& Int32.toUInt32 31)).toInt32) &&& (iI 858993459))) + (((((v_q0 - (((v_q0.toUInt32 >>> ((iI 1).toUInt32 &&& Int32.toUInt32 31)).toInt32) &&& (iI 1431655765))) &&& (iI 858993459)) + ((((v_q0 - (((v_q0.toUInt32 >>> ((iI 1).toUInt32 &&& Int32.toUInt32 31)).toInt32) &&& (iI 1431655765))).toUInt32 >>> ((iI 2).toUInt32 &&& Int32.toUInt32 31)).toInt32) &&& (iI 858993459))).toUInt32 >>> ((iI 4).toUInt32 &&& Int32.toUInt32 31)).toInt32)) &&& (iI 252645135)).toUInt32 >>> ((iI 8).toUInt32 &&& Int32.toUInt32 31)).toInt32)).toUInt32 >>> ((iI 16).toUInt32 &&& Int32.toUInt32 31)).toInt32)) &&& (iI 63)) hx hb hr (fun t ht hW => ⟨⟨_, ozr hf ⟨trivial, rfl, rfl⟩, by rw [ht]; exact hP, hD⟩, hS.F ht⟩) hS.2.2 d_J_Integer_bitCount_52)
set_option maxHeartbeats 8000000 in
set_option maxRecDepth 100000 in
theorem k_J_Long_bitCount (l : Launch) (htr : l.stackTraces = false) (G : va_G) (cB cI cJ cZ cG : ClassId) (v_q0 : Int64) (R9 : Out Empty (Int32)) (hf : f_J_Long_bitCount v_q0 = R9) (hnb : R9 ≠ .bad) (sz : Nat) : MetX l y_J_Long_bitCount (wx y_J_Long_bitCount b_J_Long_bitCount 2 (some .int)) { frames := 0, cells := 0, slots := 0, locals := 0 } (XP G classes (xtys cB cI cJ cZ cG) xE [.long v_q0] [] sz) (XQ G classes (va_A [] sz) (fun o w1 => ozp R9 (fun x9 => (True) ∧ o = .returned (some (.int x9)) ∧ w1 = []) (fun _ => False))) 0 0 (va_A [] sz) := by
  refine ex_ofW (cc := b_J_Long_bitCount) (maxL := 2) (ret := (some .int)) (by decide) rfl ?_
  intro p e s m args below meth c s₁ B hml hno hv
  obtain ⟨rfl, hsz, hP, hK, hD0, hE⟩ := hv
  have hx := B.exec
  have hb := B.bytes
  have hr := B.returns
  have hts : ∀ w ∈ lw_good, w.before _ s = true := fun w h => atoms_spec (ws := wx y_J_Long_bitCount b_J_Long_bitCount 2 (some .int)) B.pre w (List.mem_cons_of_mem _ h)
  have hown : s.vm.findClass "java/lang/Long" = some m.cls := findClass_of_methodNamed B.named
  have hlocks := B.notSynchronized
  subst hsz
  have hNS := xx_nostat hP
  have hD := hD0.self (sz := s.heap.size)
  generalize hAe : va_A [] s.heap.size = A at hD hE hNS ⊢
  have hA : ∀ q : Nat, s.heap.size ≤ q → A q := fun q h => by rw [← hAe]; exact Or.inr h
  have hS : va_S A s.heap s.heap [] := va_S.rf
  have hl := lv_entry ([.long v_q0]) (n := 2) (Nat.le_of_ble_eq_true rfl)
  rw [lg_entry_eq]
  generalize (lg_sl ([.long v_q0]) ++ List.replicate (2 - (lg_sl ([.long v_q0])).length) Slot.unset).toArray = ls at hl ⊢
  have hl : lv_has ls 2 [(0, .long v_q0)] := hl
  unfold f_J_Long_bitCount at hf
  refine lv_lload_n hx hb d_J_Long_bitCount_0 rfl (lv_at hl 0 rfl) ?_
  refine lv_lload_n hx hb d_J_Long_bitCount_1 rfl (lv_at hl 0 rfl) ?_
  refine lv_iconst (v := iI 1) hx hb d_J_Long_bitCount_2 (by decide) ?_
  refine lv_lushr hx hb d_J_Long_bitCount_3 rfl ?_
  refine lv_ldc2 (v := 6148914691236517205) hx hb hown (hts _ m_1076) d_J_Long_bitCount_4 ?_
  refine lv_land hx hb d_J_Long_bitCount_7 ?_
  refine lv_lsub hx hb d_J_Long_bitCount_8 ?_
  refine lv_lstore_n (lv' := [(0, .long (v_q0 - (((v_q0.toUInt64 >>> ((iI 1).toInt64.toUInt64 &&& Int64.toUInt64 63)).toInt64) &&& 6148914691236517205)))]) hx hb d_J_Long_bitCount_9 rfl hl (by decide) rfl (fun ls hl => ?_)
  refine lv_lload_n hx hb d_J_Long_bitCount_10 rfl (lv_at hl 0 rfl) ?_
  refine lv_ldc2 (v := 3689348814741910323) hx hb hown (hts _ m_1077) d_J_Long_bitCount_11 ?_
  refine lv_land hx hb d_J_Long_bitCount_14 ?_
  refine lv_lload_n hx hb d_J_Long_bitCount_15 rfl (lv_at hl 0 rfl) ?_
  refine lv_iconst (v := iI 2) hx hb d_J_Long_bitCount_16 (by decide) ?_
  refine lv_lushr hx hb d_J_Long_bitCount_17 rfl ?_
  refine lv_ldc2 (v := 3689348814741910323) hx hb hown (hts _ m_1077) d_J_Long_bitCount_18 ?_
  refine lv_land hx hb d_J_Long_bitCount_21 ?_
  refine lv_ladd hx hb d_J_Long_bitCount_22 ?_
  refine lv_lstore_n (lv' := [(0, .long (((v_q0 - (((v_q0.toUInt64 >>> ((iI 1).toInt64.toUInt64 &&& Int64.toUInt64 63)).toInt64) &&& 6148914691236517205)) &&& 3689348814741910323) + ((((v_q0 - (((v_q0.toUInt64 >>> ((iI 1).toInt64.toUInt64 &&& Int64.toUInt64 63)).toInt64) &&& 6148914691236517205)).toUInt64 >>> ((iI 2).toInt64.toUInt64 &&& Int64.toUInt64 63)).toInt64) &&& 3689348814741910323)))]) hx hb d_J_Long_bitCount_23 rfl hl (by decide) rfl (fun ls hl => ?_)
  refine lv_lload_n hx hb d_J_Long_bitCount_24 rfl (lv_at hl 0 rfl) ?_
  refine lv_lload_n hx hb d_J_Long_bitCount_25 rfl (lv_at hl 0 rfl) ?_
  refine lv_iconst (v := iI 4) hx hb d_J_Long_bitCount_26 (by decide) ?_
  refine lv_lushr hx hb d_J_Long_bitCount_27 rfl ?_
  refine lv_ladd hx hb d_J_Long_bitCount_28 ?_
  refine lv_ldc2 (v := 1085102592571150095) hx hb hown (hts _ m_1078) d_J_Long_bitCount_29 ?_
  refine lv_land hx hb d_J_Long_bitCount_32 ?_
  refine lv_lstore_n (lv' := [(0, .long (((((v_q0 - (((v_q0.toUInt64 >>> ((iI 1).toInt64.toUInt64 &&& Int64.toUInt64 63)).toInt64) &&& 6148914691236517205)) &&& 3689348814741910323) + ((((v_q0 - (((v_q0.toUInt64 >>> ((iI 1).toInt64.toUInt64 &&& Int64.toUInt64 63)).toInt64) &&& 6148914691236517205)).toUInt64 >>> ((iI 2).toInt64.toUInt64 &&& Int64.toUInt64 63)).toInt64) &&& 3689348814741910323)) + (((((v_q0 - (((v_q0.toUInt64 >>> ((iI 1).toInt64.toUInt64 &&& Int64.toUInt64 63)).toInt64) &&& 6148914691236517205)) &&& 3689348814741910323) + ((((v_q0 - (((v_q0.toUInt64 >>> ((iI 1).toInt64.toUInt64 &&& Int64.toUInt64 63)).toInt64) &&& 6148914691236517205)).toUInt64 >>> ((iI 2).toInt64.toUInt64 &&& Int64.toUInt64 63)).toInt64) &&& 3689348814741910323)).toUInt64 >>> ((iI 4).toInt64.toUInt64 &&& Int64.toUInt64 63)).toInt64)) &&& 1085102592571150095))]) hx hb d_J_Long_bitCount_33 rfl hl (by decide) rfl (fun ls hl => ?_)
  refine lv_lload_n hx hb d_J_Long_bitCount_34 rfl (lv_at hl 0 rfl) ?_
  refine lv_lload_n hx hb d_J_Long_bitCount_35 rfl (lv_at hl 0 rfl) ?_
  refine lv_bipush (v := iI 8) hx hb d_J_Long_bitCount_36 (by decide) ?_
  refine lv_lushr hx hb d_J_Long_bitCount_38 rfl ?_
  refine lv_ladd hx hb d_J_Long_bitCount_39 ?_
  refine lv_lstore_n (lv' := [(0, .long ((((((v_q0 - (((v_q0.toUInt64 >>> ((iI 1).toInt64.toUInt64 &&& Int64.toUInt64 63)).toInt64) &&& 6148914691236517205)) &&& 3689348814741910323) + ((((v_q0 - (((v_q0.toUInt64 >>> ((iI 1).toInt64.toUInt64 &&& Int64.toUInt64 63)).toInt64) &&& 6148914691236517205)).toUInt64 >>> ((iI 2).toInt64.toUInt64 &&& Int64.toUInt64 63)).toInt64) &&& 3689348814741910323)) + (((((v_q0 - (((v_q0.toUInt64 >>> ((iI 1).toInt64.toUInt64 &&& Int64.toUInt64 63)).toInt64) &&& 6148914691236517205)) &&& 3689348814741910323) + ((((v_q0 - (((v_q0.toUInt64 >>> ((iI 1).toInt64.toUInt64 &&& Int64.toUInt64 63)).toInt64) &&& 6148914691236517205)).toUInt64 >>> ((iI 2).toInt64.toUInt64 &&& Int64.toUInt64 63)).toInt64) &&& 3689348814741910323)).toUInt64 >>> ((iI 4).toInt64.toUInt64 &&& Int64.toUInt64 63)).toInt64)) &&& 1085102592571150095) + (((((((v_q0 - (((v_q0.toUInt64 >>> ((iI 1).toInt64.toUInt64 &&& Int64.toUInt64 63)).toInt64) &&& 6148914691236517205)) &&& 3689348814741910323) + ((((v_q0 - (((v_q0.toUInt64 >>> ((iI 1).toInt64.toUInt64 &&& Int64.toUInt64 63)).toInt64) &&& 6148914691236517205)).toUInt64 >>> ((iI 2).toInt64.toUInt64 &&& Int64.toUInt64 63)).toInt64) &&& 3689348814741910323)) + (((((v_q0 - (((v_q0.toUInt64 >>> ((iI 1).toInt64.toUInt64 &&& Int64.toUInt64 63)).toInt64) &&& 6148914691236517205)) &&& 3689348814741910323) + ((((v_q0 - (((v_q0.toUInt64 >>> ((iI 1).toInt64.toUInt64 &&& Int64.toUInt64 63)).toInt64) &&& 6148914691236517205)).toUInt64 >>> ((iI 2).toInt64.toUInt64 &&& Int64.toUInt64 63)).toInt64) &&& 3689348814741910323)).toUInt64 >>> ((iI 4).toInt64.toUInt64 &&& Int64.toUInt64 63)).toInt64)) &&& 1085102592571150095).toUInt64 >>> ((iI 8).toInt64.toUInt64 &&& Int64.toUInt64 63)).toInt64)))]) hx hb d_J_Long_bitCount_40 rfl hl (by decide) rfl (fun ls hl => ?_)
  refine lv_lload_n hx hb d_J_Long_bitCount_41 rfl (lv_at hl 0 rfl) ?_
  refine lv_lload_n hx hb d_J_Long_bitCount_42 rfl (lv_at hl 0 rfl) ?_
  refine lv_bipush (v := iI 16) hx hb d_J_Long_bitCount_43 (by decide) ?_
  refine lv_lushr hx hb d_J_Long_bitCount_45 rfl ?_
  refine lv_ladd hx hb d_J_Long_bitCount_46 ?_
  refine lv_lstore_n (lv' := [(0, .long (((((((v_q0 - (((v_q0.toUInt64 >>> ((iI 1).toInt64.toUInt64 &&& Int64.toUInt64 63)).toInt64) &&& 6148914691236517205)) &&& 3689348814741910323) + ((((v_q0 - (((v_q0.toUInt64 >>> ((iI 1).toInt64.toUInt64 &&& Int64.toUInt64 63)).toInt64) &&& 6148914691236517205)).toUInt64 >>> ((iI 2).toInt64.toUInt64 &&& Int64.toUInt64 63)).toInt64) &&& 3689348814741910323)) + (((((v_q0 - (((v_q0.toUInt64 >>> ((iI 1).toInt64.toUInt64 &&& Int64.toUInt64 63)).toInt64) &&& 6148914691236517205)) &&& 3689348814741910323) + ((((v_q0 - (((v_q0.toUInt64 >>> ((iI 1).toInt64.toUInt64 &&& Int64.toUInt64 63)).toInt64) &&& 6148914691236517205)).toUInt64 >>> ((iI 2).toInt64.toUInt64 &&& Int64.toUInt64 63)).toInt64) &&& 3689348814741910323)).toUInt64 >>> ((iI 4).toInt64.toUInt64 &&& Int64.toUInt64 63)).toInt64)) &&& 1085102592571150095) + (((((((v_q0 - (((v_q0.toUInt64 >>> ((iI 1).toInt64.toUInt64 &&& Int64.toUInt64 63)).toInt64) &&& 6148914691236517205)) &&& 3689348814741910323) + ((((v_q0 - (((v_q0.toUInt64 >>> ((iI 1).toInt64.toUInt64 &&& Int64.toUInt64 63)).toInt64) &&& 6148914691236517205)).toUInt64 >>> ((iI 2).toInt64.toUInt64 &&& Int64.toUInt64 63)).toInt64) &&& 3689348814741910323)) + (((((v_q0 - (((v_q0.toUInt64 >>> ((iI 1).toInt64.toUInt64 &&& Int64.toUInt64 63)).toInt64) &&& 6148914691236517205)) &&& 3689348814741910323) + ((((v_q0 - (((v_q0.toUInt64 >>> ((iI 1).toInt64.toUInt64 &&& Int64.toUInt64 63)).toInt64) &&& 6148914691236517205)).toUInt64 >>> ((iI 2).toInt64.toUInt64 &&& Int64.toUInt64 63)).toInt64) &&& 3689348814741910323)).toUInt64 >>> ((iI 4).toInt64.toUInt64 &&& Int64.toUInt64 63)).toInt64)) &&& 1085102592571150095).toUInt64 >>> ((iI 8).toInt64.toUInt64 &&& Int64.toUInt64 63)).toInt64)) + ((((((((v_q0 - (((v_q0.toUInt64 >>> ((iI 1).toInt64.toUInt64 &&& Int64.toUInt64 63)).toInt64) &&& 6148914691236517205)) &&& 3689348814741910323) + ((((v_q0 - (((v_q0.toUInt64 >>> ((iI 1).toInt64.toUInt64 &&& Int64.toUInt64 63)).toInt64) &&& 6148914691236517205)).toUInt64 >>> ((iI 2).toInt64.toUInt64 &&& Int64.toUInt64 63)).toInt64) &&& 3689348814741910323)) + (((((v_q0 - (((v_q0.toUInt64 >>> ((iI 1).toInt64.toUInt64 &&& Int64.toUInt64 63)).toInt64) &&& 6148914691236517205)) &&& 3689348814741910323) + ((((v_q0 - (((v_q0.toUInt64 >>> ((iI 1).toInt64.toUInt64 &&& Int64.toUInt64 63)).toInt64) &&& 6148914691236517205)).toUInt64 >>> ((iI 2).toInt64.toUInt64 &&& Int64.toUInt64 63)).toInt64) &&& 3689348814741910323)).toUInt64 >>> ((iI 4).toInt64.toUInt64 &&& Int64.toUInt64 63)).toInt64)) &&& 1085102592571150095) + (((((((v_q0 - (((v_q0.toUInt64 >>> ((iI 1).toInt64.toUInt64 &&& Int64.toUInt64 63)).toInt64) &&& 6148914691236517205)) &&& 3689348814741910323) + ((((v_q0 - (((v_q0.toUInt64 >>> ((iI 1).toInt64.toUInt64 &&& Int64.toUInt64 63)).toInt64) &&& 6148914691236517205)).toUInt64 >>> ((iI 2).toInt64.toUInt64 &&& Int64.toUInt64 63)).toInt64) &&& 3689348814741910323)) + (((((v_q0 - (((v_q0.toUInt64 >>> ((iI 1).toInt64.toUInt64 &&& Int64.toUInt64 63)).toInt64) &&& 6148914691236517205)) &&& 3689348814741910323) + ((((v_q0 - (((v_q0.toUInt64 >>> ((iI 1).toInt64.toUInt64 &&& Int64.toUInt64 63)).toInt64) &&& 6148914691236517205)).toUInt64 >>> ((iI 2).toInt64.toUInt64 &&& Int64.toUInt64 63)).toInt64) &&& 3689348814741910323)).toUInt64 >>> ((iI 4).toInt64.toUInt64 &&& Int64.toUInt64 63)).toInt64)) &&& 1085102592571150095).toUInt64 >>> ((iI 8).toInt64.toUInt64 &&& Int64.toUInt64 63)).toInt64)).toUInt64 >>> ((iI 16).toInt64.toUInt64 &&& Int64.toUInt64 63)).toInt64)))]) hx hb d_J_Long_bitCount_47 rfl hl (by decide) rfl (fun ls hl => ?_)
  refine lv_lload_n hx hb d_J_Long_bitCount_48 rfl (lv_at hl 0 rfl) ?_
  refine lv_lload_n hx hb d_J_Long_bitCount_49 rfl (lv_at hl 0 rfl) ?_
  refine lv_bipush (v := iI 32) hx hb d_J_Long_bitCount_50 (by decide) ?_
  refine lv_lushr hx hb d_J_Long_bitCount_52 rfl ?_
  refine lv_ladd hx hb d_J_Long_bitCount_53 ?_
  refine lv_lstore_n (lv' := [(0, .long ((((((((v_q0 - (((v_q0.toUInt64 >>> ((iI 1).toInt64.toUInt64 &&& Int64.toUInt64 63)).toInt64) &&& 6148914691236517205)) &&& 3689348814741910323) + ((((v_q0 - (((v_q0.toUInt64 >>> ((iI 1).toInt64.toUInt64 &&& Int64.toUInt64 63)).toInt64) &&& 6148914691236517205)).toUInt64 >>> ((iI 2).toInt64.toUInt64 &&& Int64.toUInt64 63)).toInt64) &&& 3689348814741910323)) + (((((v_q0 - (((v_q0.toUInt64 >>> ((iI 1).toInt64.toUInt64 &&& Int64.toUInt64 63)).toInt64) &&& 6148914691236517205)) &&& 3689348814741910323) + ((((v_q0 - (((v_q0.toUInt64 >>> ((iI 1).toInt64.toUInt64 &&& Int64.toUInt64 63)).toInt64) &&& 6148914691236517205)).toUInt64 >>> ((iI 2).toInt64.toUInt64 &&& Int64.toUInt64 63)).toInt64) &&& 3689348814741910323)).toUInt64 >>> ((iI 4).toInt64.toUInt64 &&& Int64.toUInt64 63)).toInt64)) &&& 1085102592571150095) + (((((((v_q0 - (((v_q0.toUInt64 >>> ((iI 1).toInt64.toUInt64 &&& Int64.toUInt64 63)).toInt64) &&& 6148914691236517205)) &&& 3689348814741910323) + ((((v_q0 - (((v_q0.toUInt64 >>> ((iI 1).toInt64.toUInt64 &&& Int64.toUInt64 63)).toInt64) &&& 6148914691236517205)).toUInt64 >>> ((iI 2).toInt64.toUInt64 &&& Int64.toUInt64 63)).toInt64) &&& 3689348814741910323)) + (((((v_q0 - (((v_q0.toUInt64 >>> ((iI 1).toInt64.toUInt64 &&& Int64.toUInt64 63)).toInt64) &&& 6148914691236517205)) &&& 3689348814741910323) + ((((v_q0 - (((v_q0.toUInt64 >>> ((iI 1).toInt64.toUInt64 &&& Int64.toUInt64 63)).toInt64) &&& 6148914691236517205)).toUInt64 >>> ((iI 2).toInt64.toUInt64 &&& Int64.toUInt64 63)).toInt64) &&& 3689348814741910323)).toUInt64 >>> ((iI 4).toInt64.toUInt64 &&& Int64.toUInt64 63)).toInt64)) &&& 1085102592571150095).toUInt64 >>> ((iI 8).toInt64.toUInt64 &&& Int64.toUInt64 63)).toInt64)) + ((((((((v_q0 - (((v_q0.toUInt64 >>> ((iI 1).toInt64.toUInt64 &&& Int64.toUInt64 63)).toInt64) &&& 6148914691236517205)) &&& 3689348814741910323) + ((((v_q0 - (((v_q0.toUInt64 >>> ((iI 1).toInt64.toUInt64 &&& Int64.toUInt64 63)).toInt64) &&& 6148914691236517205)).toUInt64 >>> ((iI 2).toInt64.toUInt64 &&& Int64.toUInt64 63)).toInt64) &&& 3689348814741910323)) + (((((v_q0 - (((v_q0.toUInt64 >>> ((iI 1).toInt64.toUInt64 &&& Int64.toUInt64 63)).toInt64) &&& 6148914691236517205)) &&& 3689348814741910323) + ((((v_q0 - (((v_q0.toUInt64 >>> ((iI 1).toInt64.toUInt64 &&& Int64.toUInt64 63)).toInt64) &&& 6148914691236517205)).toUInt64 >>> ((iI 2).toInt64.toUInt64 &&& Int64.toUInt64 63)).toInt64) &&& 3689348814741910323)).toUInt64 >>> ((iI 4).toInt64.toUInt64 &&& Int64.toUInt64 63)).toInt64)) &&& 1085102592571150095) + (((((((v_q0 - (((v_q0.toUInt64 >>> ((iI 1).toInt64.toUInt64 &&& Int64.toUInt64 63)).toInt64) &&& 6148914691236517205)) &&& 3689348814741910323) + ((((v_q0 - (((v_q0.toUInt64 >>> ((iI 1).toInt64.toUInt64 &&& Int64.toUInt64 63)).toInt64) &&& 6148914691236517205)).toUInt64 >>> ((iI 2).toInt64.toUInt64 &&& Int64.toUInt64 63)).toInt64) &&& 3689348814741910323)) + (((((v_q0 - (((v_q0.toUInt64 >>> ((iI 1).toInt64.toUInt64 &&& Int64.toUInt64 63)).toInt64) &&& 6148914691236517205)) &&& 3689348814741910323) + ((((v_q0 - (((v_q0.toUInt64 >>> ((iI 1).toInt64.toUInt64 &&& Int64.toUInt64 63)).toInt64) &&& 6148914691236517205)).toUInt64 >>> ((iI 2).toInt64.toUInt64 &&& Int64.toUInt64 63)).toInt64) &&& 3689348814741910323)).toUInt64 >>> ((iI 4).toInt64.toUInt64 &&& Int64.toUInt64 63)).toInt64)) &&& 1085102592571150095).toUInt64 >>> ((iI 8).toInt64.toUInt64 &&& Int64.toUInt64 63)).toInt64)).toUInt64 >>> ((iI 16).toInt64.toUInt64 &&& Int64.toUInt64 63)).toInt64)) + (((((((((v_q0 - (((v_q0.toUInt64 >>> ((iI 1).toInt64.toUInt64 &&& Int64.toUInt64 63)).toInt64) &&& 6148914691236517205)) &&& 3689348814741910323) + ((((v_q0 - (((v_q0.toUInt64 >>> ((iI 1).toInt64.toUInt64 &&& Int64.toUInt64 63)).toInt64) &&& 6148914691236517205)).toUInt64 >>> ((iI 2).toInt64.toUInt64 &&& Int64.toUInt64 63)).toInt64) &&& 3689348814741910323)) + (((((v_q0 - (((v_q0.toUInt64 >>> ((iI 1).toInt64.toUInt64 &&& Int64.toUInt64 63)).toInt64) &&& 6148914691236517205)) &&& 3689348814741910323) + ((((v_q0 - (((v_q0.toUInt64 >>> ((iI 1).toInt64.toUInt64 &&& Int64.toUInt64 63)).toInt64) &&& 6148914691236517205)).toUInt64 >>> ((iI 2).toInt64.toUInt64 &&& Int64.toUInt64 63)).toInt64) &&& 3689348814741910323)).toUInt64 >>> ((iI 4).toInt64.toUInt64 &&& Int64.toUInt64 63)).toInt64)) &&& 1085102592571150095) + (((((((v_q0 - (((v_q0.toUInt64 >>> ((iI 1).toInt64.toUInt64 &&& Int64.toUInt64 63)).toInt64) &&& 6148914691236517205)) &&& 3689348814741910323) + ((((v_q0 - (((v_q0.toUInt64 >>> ((iI 1).toInt64.toUInt64 &&& Int64.toUInt64 63)).toInt64) &&& 6148914691236517205)).toUInt64 >>> ((iI 2).toInt64.toUInt64 &&& Int64.toUInt64 63)).toInt64) &&& 3689348814741910323)) + (((((v_q0 - (((v_q0.toUInt64 >>> ((iI 1).toInt64.toUInt64 &&& Int64.toUInt64 63)).toInt64) &&& 6148914691236517205)) &&& 3689348814741910323) + ((((v_q0 - (((v_q0.toUInt64 >>> ((iI 1).toInt64.toUInt64 &&& Int64.toUInt64 63)).toInt64) &&& 6148914691236517205)).toUInt64 >>> ((iI 2).toInt64.toUInt64 &&& Int64.toUInt64 63)).toInt64) &&& 3689348814741910323)).toUInt64 >>> ((iI 4).toInt64.toUInt64 &&& Int64.toUInt64 63)).toInt64)) &&& 1085102592571150095).toUInt64 >>> ((iI 8).toInt64.toUInt64 &&& Int64.toUInt64 63)).toInt64)) + ((((((((v_q0 - (((v_q0.toUInt64 >>> ((iI 1).toInt64.toUInt64 &&& Int64.toUInt64 63)).toInt64) &&& 6148914691236517205)) &&& 3689348814741910323) + ((((v_q0 - (((v_q0.toUInt64 >>> ((iI 1).toInt64.toUInt64 &&& Int64.toUInt64 63)).toInt64) &&& 6148914691236517205)).toUInt64 >>> ((iI 2).toInt64.toUInt64 &&& Int64.toUInt64 63)).toInt64) &&& 3689348814741910323)) + (((((v_q0 - (((v_q0.toUInt64 >>> ((iI 1).toInt64.toUInt64 &&& Int64.toUInt64 63)).toInt64) &&& 6148914691236517205)) &&& 3689348814741910323) + ((((v_q0 - (((v_q0.toUInt64 >>> ((iI 1).toInt64.toUInt64 &&& Int64.toUInt64 63)).toInt64) &&& 6148914691236517205)).toUInt64 >>> ((iI 2).toInt64.toUInt64 &&& Int64.toUInt64 63)).toInt64) &&& 3689348814741910323)).toUInt64 >>> ((iI 4).toInt64.toUInt64 &&& Int64.toUInt64 63)).toInt64)) &&& 1085102592571150095) + (((((((v_q0 - (((v_q0.toUInt64 >>> ((iI 1).toInt64.toUInt64 &&& Int64.toUInt64 63)).toInt64) &&& 6148914691236517205)) &&& 3689348814741910323) + ((((v_q0 - (((v_q0.toUInt64 >>> ((iI 1).toInt64.toUInt64 &&& Int64.toUInt64 63)).toInt64) &&& 6148914691236517205)).toUInt64 >>> ((iI 2).toInt64.toUInt64 &&& Int64.toUInt64 63)).toInt64) &&& 3689348814741910323)) + (((((v_q0 - (((v_q0.toUInt64 >>> ((iI 1).toInt64.toUInt64 &&& Int64.toUInt64 63)).toInt64) &&& 6148914691236517205)) &&& 3689348814741910323) + ((((v_q0 - (((v_q0.toUInt64 >>> ((iI 1).toInt64.toUInt64 &&& Int64.toUInt64 63)).toInt64) &&& 6148914691236517205)).toUInt64 >>> ((iI 2).toInt64.toUInt64 &&& Int64.toUInt64 63)).toInt64) &&& 3689348814741910323)).toUInt64 >>> ((iI 4).toInt64.toUInt64 &&& Int64.toUInt64 63)).toInt64)) &&& 1085102592571150095).toUInt64 >>> ((iI 8).toInt64.toUInt64 &&& Int64.toUInt64 63)).toInt64)).toUInt64 >>> ((iI 16).toInt64.toUInt64 &&& Int64.toUInt64 63)).toInt64)).toUInt64 >>> ((iI 32).toInt64.toUInt64 &&& Int64.toUInt64 63)).toInt64)))]) hx hb d_J_Long_bitCount_54 rfl hl (by decide) rfl (fun ls hl => ?_)
  refine lv_lload_n hx hb d_J_Long_bitCount_55 rfl (lv_at hl 0 rfl) ?_
  refine lv_l2i hx hb d_J_Long_bitCount_56 rfl ?_
  refine lv_bipush (v := iI 127) hx hb d_J_Long_bitCount_57 (by decide) ?_
  refine lv_iand hx hb d_J_Long_bitCount_59 ?_
  exact ex_W (fun _ h => ex_mq h) (W.iret (v := (((((((((v_q0 - (((v_q0.toUInt64 >>> ((iI 1).toInt64.toUInt64 &&& Int64.toUInt64 63)).toInt64) &&& 6148914691236517205)) &&& 3689348814741910323) + ((((v_q0 - (((v_q0.toUInt64 >>> ((iI 1).toInt64.toUInt64 &&& Int64.toUInt64 63)).toInt64) &&& 6148914691236517205)).toUInt64 >>> ((iI 2).toInt64.toUInt64 &&& Int64.toUInt64 63)).toInt64) &&& 3689348814741910323)) + (((((v_q0 - (((v_q0.toUInt64 >>> ((iI 1).toInt64.toUInt64 &&& Int64.toUInt64 63)).toInt64) &&& 6148914691236517205)) &&& 3689348814741910323) + ((((v_q0 - (((v_q0.toUInt64 >>> ((iI 1).toInt64.toUInt64 &&& Int64.toUInt64 63)).toInt64) &&& 6148914691236517205)).toUInt64 >>> ((iI 2).toInt64.toUInt64 &&& Int64.toUInt64 63)).toInt64) &&& 3689348814741910323)).toUInt64 >>> ((iI 4).toInt64.toUInt64 &&& Int64.toUInt64 63)).toInt64)) &&& 1085102592571150095) + (((((((v_q0 - (((v_q0.toUInt64 >>> ((iI 1).toInt64.toUInt64 &&& Int64.toUInt64 63)).toInt64) &&& 6148914691236517205)) &&& 3689348814741910323) + ((((v_q0 - (((v_q0.toUInt64 >>> ((iI 1).toInt64.toUInt64 &&& Int64.toUInt64 63)).toInt64) &&& 6148914691236517205)).toUInt64 >>> ((iI 2).toInt64.toUInt64 &&& Int64.toUInt64 63)).toInt64) &&& 3689348814741910323)) + (((((v_q0 - (((v_q0.toUInt64 >>> ((iI 1).toInt64.toUInt64 &&& Int64.toUInt64 63)).toInt64) &&& 6148914691236517205)) &&& 3689348814741910323) + ((((v_q0 - (((v_q0.toUInt64 >>> ((iI 1).toInt64.toUInt64 &&& Int64.toUInt64 63)).toInt64) &&& 6148914691236517205)).toUInt64 >>> ((iI 2).toInt64.toUInt64 &&& Int64.toUInt64 63)).toInt64) &&& 3689348814741910323)).toUInt64 >>> ((iI 4).toInt64.toUInt64 &&& Int64.toUInt64 63)).toInt64)) &&& 1085102592571150095).toUInt64 >>> ((iI 8).toInt64.toUInt64 &&& Int64.toUInt64 63)).toInt64)) + ((((((((v_q0 - (((v_q0.toUInt64 >>> ((iI 1).toInt64.toUInt64 &&& Int64.toUInt64 63)).toInt64) &&& 6148914691236517205)) &&& 3689348814741910323) + ((((v_q0 - (((v_q0.toUInt64 >>> ((iI 1).toInt64.toUInt64 &&& Int64.toUInt64 63)).toInt64) &&& 6148914691236517205)).toUInt64 >>> ((iI 2).toInt64.toUInt64 &&& Int64.toUInt64 63)).toInt64) &&& 3689348814741910323)) + (((((v_q0 - (((v_q0.toUInt64 >>> ((iI 1).toInt64.toUInt64 &&& Int64.toUInt64 63)).toInt64) &&& 6148914691236517205)) &&& 3689348814741910323) + ((((v_q0 - (((v_q0.toUInt64 >>> ((iI 1).toInt64.toUInt64 &&& Int64.toUInt64 63)).toInt64) &&& 6148914691236517205)).toUInt64 >>> ((iI 2).toInt64.toUInt64 &&& Int64.toUInt64 63)).toInt64) &&& 3689348814741910323)).toUInt64 >>> ((iI 4).toInt64.toUInt64 &&& Int64.toUInt64 63)).toInt64)) &&& 1085102592571150095) + (((((((v_q0 - (((v_q0.toUInt64 >>> ((iI 1).toInt64.toUInt64 &&& Int64.toUInt64 63)).toInt64) &&& 6148914691236517205)) &&& 3689348814741910323) + ((((v_q0 - (((v_q0.toUInt64 >>> ((iI 1).toInt64.toUInt64 &&& Int64.toUInt64 63)).toInt64) &&& 6148914691236517205)).toUInt64 >>> ((iI 2).toInt64.toUInt64 &&& Int64.toUInt64 63)).toInt64) &&& 3689348814741910323)) + (((((v_q0 - (((v_q0.toUInt64 >>> ((iI 1).toInt64.toUInt64 &&& Int64.toUInt64 63)).toInt64) &&& 6148914691236517205)) &&& 3689348814741910323) + ((((v_q0 - (((v_q0.toUInt64 >>> ((iI 1).toInt64.toUInt64 &&& Int64.toUInt64 63)).toInt64) &&& 6148914691236517205)).toUInt64 >>> ((iI 2).toInt64.toUInt64 &&& Int64.toUInt64 63)).toInt64) &&& 3689348814741910323)).toUInt64 >>> ((iI 4).toInt64.toUInt64 &&& Int64.toUInt64 63)).toInt64)) &&& 1085102592571150095).toUInt64 >>> ((iI 8).toInt64.toUInt64 &&& Int64.toUInt64 63)).toInt64)).toUInt64 >>> ((iI 16).toInt64.toUInt64 &&& Int64.toUInt64 63)).toInt64)) + (((((((((v_q0 - (((v_q0.toUInt64 >>> ((iI 1).toInt64.toUInt64 &&& Int64.toUInt64 63)).toInt64) &&& 6148914691236517205)) &&& 3689348814741910323) + ((((v_q0 - (((v_q0.toUInt64 >>> ((iI 1).toInt64.toUInt64 &&& Int64.toUInt64 63)).toInt64) &&& 6148914691236517205)).toUInt64 >>> ((iI 2).toInt64.toUInt64 &&& Int64.toUInt64 63)).toInt64) &&& 3689348814741910323)) + (((((v_q0 - (((v_q0.toUInt64 >>> ((iI 1).toInt64.toUInt64 &&& Int64.toUInt64 63)).toInt64) &&& 6148914691236517205)) &&& 3689348814741910323) + ((((v_q0 - (((v_q0.toUInt64 >>> ((iI 1).toInt64.toUInt64 &&& Int64.toUInt64 63)).toInt64) &&& 6148914691236517205)).toUInt64 >>> ((iI 2).toInt64.toUInt64 &&& Int64.toUInt64 63)).toInt64) &&& 3689348814741910323)).toUInt64 >>> ((iI 4).toInt64.toUInt64 &&& Int64.toUInt64 63)).toInt64)) &&& 1085102592571150095) + (((((((v_q0 - (((v_q0.toUInt64 >>> ((iI 1).toInt64.toUInt64 &&& Int64.toUInt64 63)).toInt64) &&& 6148914691236517205)) &&& 3689348814741910323) + ((((v_q0 - (((v_q0.toUInt64 >>> ((iI 1).toInt64.toUInt64 &&& Int64.toUInt64 63)).toInt64) &&& 6148914691236517205)).toUInt64 >>> ((iI 2).toInt64.toUInt64 &&& Int64.toUInt64 63)).toInt64) &&& 3689348814741910323)) + (((((v_q0 - (((v_q0.toUInt64 >>> ((iI 1).toInt64.toUInt64 &&& Int64.toUInt64 63)).toInt64) &&& 6148914691236517205)) &&& 3689348814741910323) + ((((v_q0 - (((v_q0.toUInt64 >>> ((iI 1).toInt64.toUInt64 &&& Int64.toUInt64 63)).toInt64) &&& 6148914691236517205)).toUInt64 >>> ((iI 2).toInt64.toUInt64 &&& Int64.toUInt64 63)).toInt64) &&& 3689348814741910323)).toUInt64 >>> ((iI 4).toInt64.toUInt64 &&& Int64.toUInt64 63)).toInt64)) &&& 1085102592571150095).toUInt64 >>> ((iI 8).toInt64.toUInt64 &&& Int64.toUInt64 63)).toInt64)) + ((((((((v_q0 - (((v_q0.toUInt64 >>> ((iI 1).toInt64.toUInt64 &&& Int64.toUInt64 63)).toInt64) &&& 6148914691236517205)) &&& 3689348814741910323) + ((((v_q0 - (((v_q0.toUInt64 >>> ((iI 1).toInt64.toUInt64 &&& Int64.toUInt64 63)).toInt64) &&& 6148914691236517205)).toUInt64 >>> ((iI 2).toInt64.toUInt64 &&& Int64.toUInt64 63)).toInt64) &&& 3689348814741910323)) + (((((v_q0 - (((v_q0.toUInt64 >>> ((iI 1).toInt64.toUInt64 &&& Int64.toUInt64 63)).toInt64) &&& 6148914691236517205)) &&& 3689348814741910323) + ((((v_q0 - (((v_q0.toUInt64 >>> ((iI 1).toInt64.toUInt64 &&& Int64.toUInt64 63)).toInt64) &&& 6148914691236517205)).toUInt64 >>> ((iI 2).toInt64.toUInt64 &&& Int64.toUInt64 63)).toInt64) &&& 3689348814741910323)).toUInt64 >>> ((iI 4).toInt64.toUInt64 &&& Int64.toUInt64 63)).toInt64)) &&& 1085102592571150095) + (((((((v_q0 - (((v_q0.toUInt64 >>> ((iI 1).toInt64.toUInt64 &&& Int64.toUInt64 63)).toInt64) &&& 6148914691236517205)) &&& 3689348814741910323) + ((((v_q0 - (((v_q0.toUInt64 >>> ((iI 1).toInt64.toUInt64 &&& Int64.toUInt64 63)).toInt64) &&& 6148914691236517205)).toUInt64 >>> ((iI 2).toInt64.toUInt64 &&& Int64.toUInt64 63)).toInt64) &&& 3689348814741910323)) + (((((v_q0 - (((v_q0.toUInt64 >>> ((iI 1).toInt64.toUInt64 &&& Int64.toUInt64 63)).toInt64) &&& 6148914691236517205)) &&& 3689348814741910323) + ((((v_q0 - (((v_q0.toUInt64 >>> ((iI 1).toInt64.toUInt64 &&& Int64.toUInt64 63)).toInt64) &&& 6148914691236517205)).toUInt64 >>> ((iI 2).toInt64.toUInt64 &&& Int64.toUInt64 63)).toInt64) &&& 3689348814741910323)).toUInt64 >>> ((iI 4).toInt64.toUInt64 &&& Int64.toUInt64 63)).toInt64)) &&& 1085102592571150095).toUInt64 >>> ((iI 8).toInt64.toUInt64 &&& Int64.toUInt64 63)).toInt64)).toUInt64 >>> ((iI 16).toInt64.toUInt64 &&& Int64.toUInt64 63)).toInt64)).toUInt64 >>> ((iI 32).toInt64.toUInt64 &&& Int64.toUInt64 63)).toInt64)).toInt32) &&& (iI 127)) hx hb hr (fun t ht hW => ⟨⟨_, ozr hf ⟨trivial, rfl, rfl⟩, by rw [ht]; exact hP, hD⟩, hS.F ht⟩) hS.2.2 d_J_Long_bitCount_60)
set_option maxHeartbeats 8000000 in
set_option maxRecDepth 100000 in
theorem k_Ar_countInt (l : Launch) (htr : l.stackTraces = false) (G : va_G) (cB cI cJ cZ cG : ClassId) (v_op : Int) (v_a : Int32) (hv_op : R32 v_op) (fu : Nat) (R9 : Out Empty (Int32)) (hf : f_Ar_countInt fu v_op v_a = R9) (hnb : R9 ≠ .bad) (sz : Nat) : MetX l y_Ar_countInt (wx y_Ar_countInt b_Ar_countInt 2 (some .int)) { frames := 1, cells := 0, slots := 0, locals := 24 } (XP G classes (xtys cB cI cJ cZ cG) xE [.int (iI v_op), .int v_a] [] sz) (XQ G classes (va_A [] sz) (fun o w1 => ozp R9 (fun x9 => (True) ∧ o = .returned (some (.int x9)) ∧ w1 = []) (fun _ => False))) 0 0 (va_A [] sz) := by
  refine ex_ofW (cc := b_Ar_countInt) (maxL := 2) (ret := (some .int)) (by decide) rfl ?_
  intro p e s m args below meth c s₁ B hml hno hv
  obtain ⟨rfl, hsz, hP, hK, hD0, hE⟩ := hv
  have hx := B.exec
  have hb := B.bytes
  have hr := B.returns
  have hts : ∀ w ∈ lw_good, w.before _ s = true := fun w h => atoms_spec (ws := wx y_Ar_countInt b_Ar_countInt 2 (some .int)) B.pre w (List.mem_cons_of_mem _ h)
  have hown : s.vm.findClass R_Ar = some m.cls := findClass_of_methodNamed B.named
  have hlocks := B.notSynchronized
  subst hsz
  have hNS := xx_nostat hP
  have hD := hD0.self (sz := s.heap.size)
  generalize hAe : va_A [] s.heap.size = A at hD hE hNS ⊢
  have hA : ∀ q : Nat, s.heap.size ≤ q → A q := fun q h => by rw [← hAe]; exact Or.inr h
  have hS : va_S A s.heap s.heap [] := va_S.rf
  have hl := lv_entry ([.int (iI v_op), .int v_a]) (n := 2) (Nat.le_of_ble_eq_true rfl)
  rw [lg_entry_eq]
  generalize (lg_sl ([.int (iI v_op), .int v_a]) ++ List.replicate (2 - (lg_sl ([.int (iI v_op), .int v_a])).length) Slot.unset).toArray = ls at hl ⊢
  have hl : lv_has ls 2 [(0, .int (iI v_op)), (1, .int v_a)] := hl
  unfold f_Ar_countInt at hf
  refine lv_iload_n hx hb d_Ar_countInt_0 rfl (lv_at hl 0 rfl) ?_
  rcases Decidable.em (v_op = 103) with q_1 | q_1
  · replace hf := ifp q_1 hf
    refine lv_lookup (off := 27) (tgt := 28) hx hb d_Ar_countInt_1 (by decide) (by rw [(iI_t hv_op).trans q_1]; decide) (by decide) ?_
    refine lv_iload_n hx hb d_Ar_countInt_28 rfl (lv_at hl 1 rfl) ?_
    refine lv_i2l hx hb d_Ar_countInt_29 rfl ?_
    replace hf := obE hnb hf
    obtain ⟨x_2, e_3, hf⟩ := hf
    refine xx_callS (wc := []) (wr := []) (As := [.long v_a.toInt64]) (rest := []) ⟨hx, hb, hml, hown, hts⟩ xE_st hK hE hA (k_Ar_filled l htr G cB cI cJ cZ cG v_a.toInt64 fu (.ret x_2) e_3 ret_nb _) (xw_S 1 hts m_1042 m_1043 m_24 m_1044 (by decide +kernel) ⟨(Nat.le_of_ble_eq_true rfl), (Nat.le_of_ble_eq_true rfl)⟩) hP hD hS [] [] rfl rfl (by decide +kernel) (by decide +kernel) (by decide +kernel) rfl hl.1 rfl (Nat.le_of_ble_eq_true rfl) d_Ar_countInt_30 ⟨(Nat.le_of_ble_eq_true rfl), (Nat.le_of_ble_eq_true rfl)⟩ (fun v9 w9 H_1 locs_1 hp hP_1 hD_1 hS_1 => ?_) (fun x9 w9 H9 l9 hp _ _ _ => absurd hp (fun q9 => by obtain ⟨-, ho, -⟩ := q9; cases ho))
    clear hS hD hP
    obtain ⟨hx_2, ho, rfl⟩ := hp
    cases ho
    replace hP_1 : va_P G classes [] H_1 := hP_1
    replace hD_1 : va_D A [] := hD_1
    refine lv_l2i hx hb d_Ar_countInt_33 rfl ?_
    refine lv_iconst (v := iI (-1)) hx hb d_Ar_countInt_34 (by decide) ?_
    refine lv_ixor hx hb d_Ar_countInt_35 ?_
    replace hf := obE hnb hf
    obtain ⟨x_4, e_5, hf⟩ := hf
    refine xx_callS (wc := []) (wr := []) (As := [.int (x_2.toInt32 ^^^ (iI (-1)))]) (rest := []) ⟨hx, hb, hml, hown, hts⟩ xE_st hK hE hA (k_J_Integer_bitCount l htr G cB cI cJ cZ cG (x_2.toInt32 ^^^ (iI (-1))) (.ret x_4) e_5 ret_nb _) (xw_S 1 hts m_1045 m_1046 m_25 m_1047 (by decide +kernel) ⟨(Nat.le_of_ble_eq_true rfl), (Nat.le_of_ble_eq_true rfl)⟩) hP_1 hD_1 hS_1 [] [] rfl rfl (by decide +kernel) (by decide +kernel) (by decide +kernel) rfl hl.1 rfl (Nat.le_of_ble_eq_true rfl) d_Ar_countInt_36 ⟨(Nat.le_of_ble_eq_true rfl), (Nat.le_of_ble_eq_true rfl)⟩ (fun v9 w9 H_2 locs_2 hp hP_2 hD_2 hS_2 => ?_) (fun x9 w9 H9 l9 hp _ _ _ => absurd hp (fun q9 => by obtain ⟨-, ho, -⟩ := q9; cases ho))
    clear hS_1 hD_1 hP_1
    obtain ⟨hx_4, ho, rfl⟩ := hp
    cases ho
    replace hP_2 : va_P G classes [] H_2 := hP_2
    replace hD_2 : va_D A [] := hD_2
    exact ex_W (fun _ h => ex_mq h) (W.iret (v := x_4) hx hb hr (fun t ht hW => ⟨⟨_, ozr hf ⟨trivial, rfl, rfl⟩, by rw [ht]; exact hP_2, hD_2⟩, hS_2.F ht⟩) hS_2.2.2 d_Ar_countInt_39)
  replace hf := ifn q_1 hf
  rcases Decidable.em (v_op = 104) with q_6 | q_6
  · replace hf := ifp q_6 hf
    refine lv_lookup (off := 39) (tgt := 40) hx hb d_Ar_countInt_1 (by decide) (by rw [(iI_t hv_op).trans q_6]; decide) (by decide) ?_
    refine lv_iload_n hx hb d_Ar_countInt_40 rfl (lv_at hl 1 rfl) ?_
    refine lv_iconst (v := iI (-1)) hx hb d_Ar_countInt_41 (by decide) ?_
    refine lv_ixor hx hb d_Ar_countInt_42 ?_
    refine lv_iload_n hx hb d_Ar_countInt_43 rfl (lv_at hl 1 rfl) ?_
    refine lv_iconst (v := iI 1) hx hb d_Ar_countInt_44 (by decide) ?_
    refine lv_isub hx hb d_Ar_countInt_45 ?_
    refine lv_iand hx hb d_Ar_countInt_46 ?_
    replace hf := obE hnb hf
    obtain ⟨x_7, e_8, hf⟩ := hf
    refine xx_callS (wc := []) (wr := []) (As := [.int ((v_a ^^^ (iI (-1))) &&& (v_a - (iI 1)))]) (rest := []) ⟨hx, hb, hml, hown, hts⟩ xE_st hK hE hA (k_J_Integer_bitCount l htr G cB cI cJ cZ cG ((v_a ^^^ (iI (-1))) &&& (v_a - (iI 1))) (.ret x_7) e_8 ret_nb _) (xw_S 1 hts m_1045 m_1046 m_25 m_1047 (by decide +kernel) ⟨(Nat.le_of_ble_eq_true rfl), (Nat.le_of_ble_eq_true rfl)⟩) hP hD hS [] [] rfl rfl (by decide +kernel) (by decide +kernel) (by decide +kernel) rfl hl.1 rfl (Nat.le_of_ble_eq_true rfl) d_Ar_countInt_47 ⟨(Nat.le_of_ble_eq_true rfl), (Nat.le_of_ble_eq_true rfl)⟩ (fun v9 w9 H_3 locs_3 hp hP_3 hD_3 hS_3 => ?_) (fun x9 w9 H9 l9 hp _ _ _ => absurd hp (fun q9 => by obtain ⟨-, ho, -⟩ := q9; cases ho))
    clear hS hD hP
    obtain ⟨hx_7, ho, rfl⟩ := hp
    cases ho
    replace hP_3 : va_P G classes [] H_3 := hP_3
    replace hD_3 : va_D A [] := hD_3
    exact ex_W (fun _ h => ex_mq h) (W.iret (v := x_7) hx hb hr (fun t ht hW => ⟨⟨_, ozr hf ⟨trivial, rfl, rfl⟩, by rw [ht]; exact hP_3, hD_3⟩, hS_3.F ht⟩) hS_3.2.2 d_Ar_countInt_50)
  replace hf := ifn q_6 hf
  refine lv_lookup (off := 50) (tgt := 51) hx hb d_Ar_countInt_1 (by decide) (by rw [iI_t hv_op]; simp only [Op.lookupswitch.offset_cons, Op.lookupswitch.offset_nil, if_neg (Ne.symm q_1), if_neg (Ne.symm q_6)]) (by decide) ?_
  refine lv_iload_n hx hb d_Ar_countInt_51 rfl (lv_at hl 1 rfl) ?_
  replace hf := obE hnb hf
  obtain ⟨x_9, e_10, hf⟩ := hf
  refine xx_callS (wc := []) (wr := []) (As := [.int v_a]) (rest := []) ⟨hx, hb, hml, hown, hts⟩ xE_st hK hE hA (k_J_Integer_bitCount l htr G cB cI cJ cZ cG v_a (.ret x_9) e_10 ret_nb _) (xw_S 1 hts m_1045 m_1046 m_25 m_1047 (by decide +kernel) ⟨(Nat.le_of_ble_eq_true rfl), (Nat.le_of_ble_eq_true rfl)⟩) hP hD hS [] [] rfl rfl (by decide +kernel) (by decide +kernel) (by decide +kernel) rfl hl.1 rfl (Nat.le_of_ble_eq_true rfl) d_Ar_countInt_52 ⟨(Nat.le_of_ble_eq_true rfl), (Nat.le_of_ble_eq_true rfl)⟩ (fun v9 w9 H_4 locs_4 hp hP_4 hD_4 hS_4 => ?_) (fun x9 w9 H9 l9 hp _ _ _ => absurd hp (fun q9 => by obtain ⟨-, ho, -⟩ := q9; cases ho))
  clear hS hD hP
  obtain ⟨hx_9, ho, rfl⟩ := hp
  cases ho
  replace hP_4 : va_P G classes [] H_4 := hP_4
  replace hD_4 : va_D A [] := hD_4
  exact ex_W (fun _ h => ex_mq h) (W.iret (v := x_9) hx hb hr (fun t ht hW => ⟨⟨_, ozr hf ⟨trivial, rfl, rfl⟩, by rw [ht]; exact hP_4, hD_4⟩, hS_4.F ht⟩) hS_4.2.2 d_Ar_countInt_55)
set_option maxHeartbeats 8000000 in
set_option maxRecDepth 100000 in
theorem k_Ar_countLong (l : Launch) (htr : l.stackTraces = false) (G : va_G) (cB cI cJ cZ cG : ClassId) (v_op : Int) (v_a : Int64) (hv_op : R32 v_op) (fu : Nat) (R9 : Out Empty (Int32)) (hf : f_Ar_countLong fu v_op v_a = R9) (hnb : R9 ≠ .bad) (sz : Nat) : MetX l y_Ar_countLong (wx y_Ar_countLong b_Ar_countLong 3 (some .int)) { frames := 1, cells := 0, slots := 0, locals := 24 } (XP G classes (xtys cB cI cJ cZ cG) xE [.int (iI v_op), .long v_a] [] sz) (XQ G classes (va_A [] sz) (fun o w1 => ozp R9 (fun x9 => (True) ∧ o = .returned (some (.int x9)) ∧ w1 = []) (fun _ => False))) 0 0 (va_A [] sz) := by
  refine ex_ofW (cc := b_Ar_countLong) (maxL := 3) (ret := (some .int)) (by decide) rfl ?_
  intro p e s m args below meth c s₁ B hml hno hv
  obtain ⟨rfl, hsz, hP, hK, hD0, hE⟩ := hv
  have hx := B.exec
  have hb := B.bytes
  have hr := B.returns
  have hts : ∀ w ∈ lw_good, w.before _ s = true := fun w h => atoms_spec (ws := wx y_Ar_countLong b_Ar_countLong 3 (some .int)) B.pre w (List.mem_cons_of_mem _ h)
  have hown : s.vm.findClass R_Ar = some m.cls := findClass_of_methodNamed B.named
  have hlocks := B.notSynchronized
  subst hsz
  have hNS := xx_nostat hP
  have hD := hD0.self (sz := s.heap.size)
  generalize hAe : va_A [] s.heap.size = A at hD hE hNS ⊢
  have hA : ∀ q : Nat, s.heap.size ≤ q → A q := fun q h => by rw [← hAe]; exact Or.inr h
  have hS : va_S A s.heap s.heap [] := va_S.rf
  have hl := lv_entry ([.int (iI v_op), .long v_a]) (n := 3) (Nat.le_of_ble_eq_true rfl)
  rw [lg_entry_eq]
  generalize (lg_sl ([.int (iI v_op), .long v_a]) ++ List.replicate (3 - (lg_sl ([.int (iI v_op), .long v_a])).length) Slot.unset).toArray = ls at hl ⊢
  have hl : lv_has ls 3 [(0, .int (iI v_op)), (1, .long v_a)] := hl
  unfold f_Ar_countLong at hf
  refine lv_iload_n hx hb d_Ar_countLong_0 rfl (lv_at hl 0 rfl) ?_
  rcases Decidable.em (v_op = 103) with q_1 | q_1
  · replace hf := ifp q_1 hf
    refine lv_lookup (off := 27) (tgt := 28) hx hb d_Ar_countLong_1 (by decide) (by rw [(iI_t hv_op).trans q_1]; decide) (by decide) ?_
    refine lv_lload_n hx hb d_Ar_countLong_28 rfl (lv_at hl 1 rfl) ?_
    replace hf := obE hnb hf
    obtain ⟨x_2, e_3, hf⟩ := hf
    refine xx_callS (wc := []) (wr := []) (As := [.long v_a]) (rest := []) ⟨hx, hb, hml, hown, hts⟩ xE_st hK hE hA (k_Ar_filled l htr G cB cI cJ cZ cG v_a fu (.ret x_2) e_3 ret_nb _) (xw_S 1 hts m_1042 m_1043 m_24 m_1044 (by decide +kernel) ⟨(Nat.le_of_ble_eq_true rfl), (Nat.le_of_ble_eq_true rfl)⟩) hP hD hS [] [] rfl rfl (by decide +kernel) (by decide +kernel) (by decide +kernel) rfl hl.1 rfl (Nat.le_of_ble_eq_true rfl) d_Ar_countLong_29 ⟨(Nat.le_of_ble_eq_true rfl), (Nat.le_of_ble_eq_true rfl)⟩ (fun v9 w9 H_1 locs_1 hp hP_1 hD_1 hS_1 => ?_) (fun x9 w9 H9 l9 hp _ _ _ => absurd hp (fun q9 => by obtain ⟨-, ho, -⟩ := q9; cases ho))
    clear hS hD hP
    obtain ⟨hx_2, ho, rfl⟩ := hp
    cases ho
    replace hP_1 : va_P G classes [] H_1 := hP_1
    replace hD_1 : va_D A [] := hD_1
    refine lv_ldc2 (v := (-1)) hx hb hown (hts _ m_1055) d_Ar_countLong_32 ?_
    refine lv_lxor hx hb d_Ar_countLong_35 ?_
    replace hf := obE hnb hf
    obtain ⟨x_4, e_5, hf⟩ := hf
    refine xx_callS (wc := []) (wr := []) (As := [.long (x_2 ^^^ (-1))]) (rest := []) ⟨hx, hb, hml, hown, hts⟩ xE_st hK hE hA (k_J_Long_bitCount l htr G cB cI cJ cZ cG (x_2 ^^^ (-1)) (.ret x_4) e_5 ret_nb _) (xw_S 1 hts m_1073 m_1074 m_26 m_1075 (by decide +kernel) ⟨(Nat.le_of_ble_eq_true rfl), (Nat.le_of_ble_eq_true rfl)⟩) hP_1 hD_1 hS_1 [] [] rfl rfl (by decide +kernel) (by decide +kernel) (by decide +kernel) rfl hl.1 rfl (Nat.le_of_ble_eq_true rfl) d_Ar_countLong_36 ⟨(Nat.le_of_ble_eq_true rfl), (Nat.le_of_ble_eq_true rfl)⟩ (fun v9 w9 H_2 locs_2 hp hP_2 hD_2 hS_2 => ?_) (fun x9 w9 H9 l9 hp _ _ _ => absurd hp (fun q9 => by obtain ⟨-, ho, -⟩ := q9; cases ho))
    clear hS_1 hD_1 hP_1
    obtain ⟨hx_4, ho, rfl⟩ := hp
    cases ho
    replace hP_2 : va_P G classes [] H_2 := hP_2
    replace hD_2 : va_D A [] := hD_2
    exact ex_W (fun _ h => ex_mq h) (W.iret (v := x_4) hx hb hr (fun t ht hW => ⟨⟨_, ozr hf ⟨trivial, rfl, rfl⟩, by rw [ht]; exact hP_2, hD_2⟩, hS_2.F ht⟩) hS_2.2.2 d_Ar_countLong_39)
  replace hf := ifn q_1 hf
  rcases Decidable.em (v_op = 104) with q_6 | q_6
  · replace hf := ifp q_6 hf
    refine lv_lookup (off := 39) (tgt := 40) hx hb d_Ar_countLong_1 (by decide) (by rw [(iI_t hv_op).trans q_6]; decide) (by decide) ?_
    refine lv_lload_n hx hb d_Ar_countLong_40 rfl (lv_at hl 1 rfl) ?_
    refine lv_ldc2 (v := (-1)) hx hb hown (hts _ m_1055) d_Ar_countLong_41 ?_
    refine lv_lxor hx hb d_Ar_countLong_44 ?_
    refine lv_lload_n hx hb d_Ar_countLong_45 rfl (lv_at hl 1 rfl) ?_
    refine lv_lconst (v := 1) hx hb d_Ar_countLong_46 (by decide) ?_
    refine lv_lsub hx hb d_Ar_countLong_47 ?_
    refine lv_land hx hb d_Ar_countLong_48 ?_
    replace hf := obE hnb hf
    obtain ⟨x_7, e_8, hf⟩ := hf
    refine xx_callS (wc := []) (wr := []) (As := [.long ((v_a ^^^ (-1)) &&& (v_a - 1))]) (rest := []) ⟨hx, hb, hml, hown, hts⟩ xE_st hK hE hA (k_J_Long_bitCount l htr G cB cI cJ cZ cG ((v_a ^^^ (-1)) &&& (v_a - 1)) (.ret x_7) e_8 ret_nb _) (xw_S 1 hts m_1073 m_1074 m_26 m_1075 (by decide +kernel) ⟨(Nat.le_of_ble_eq_true rfl), (Nat.le_of_ble_eq_true rfl)⟩) hP hD hS [] [] rfl rfl (by decide +kernel) (by decide +kernel) (by decide +kernel) rfl hl.1 rfl (Nat.le_of_ble_eq_true rfl) d_Ar_countLong_49 ⟨(Nat.le_of_ble_eq_true rfl), (Nat.le_of_ble_eq_true rfl)⟩ (fun v9 w9 H_3 locs_3 hp hP_3 hD_3 hS_3 => ?_) (fun x9 w9 H9 l9 hp _ _ _ => absurd hp (fun q9 => by obtain ⟨-, ho, -⟩ := q9; cases ho))
    clear hS hD hP
    obtain ⟨hx_7, ho, rfl⟩ := hp
    cases ho
    replace hP_3 : va_P G classes [] H_3 := hP_3
    replace hD_3 : va_D A [] := hD_3
    exact ex_W (fun _ h => ex_mq h) (W.iret (v := x_7) hx hb hr (fun t ht hW => ⟨⟨_, ozr hf ⟨trivial, rfl, rfl⟩, by rw [ht]; exact hP_3, hD_3⟩, hS_3.F ht⟩) hS_3.2.2 d_Ar_countLong_52)
  replace hf := ifn q_6 hf
  refine lv_lookup (off := 52) (tgt := 53) hx hb d_Ar_countLong_1 (by decide) (by rw [iI_t hv_op]; simp only [Op.lookupswitch.offset_cons, Op.lookupswitch.offset_nil, if_neg (Ne.symm q_1), if_neg (Ne.symm q_6)]) (by decide) ?_
  refine lv_lload_n hx hb d_Ar_countLong_53 rfl (lv_at hl 1 rfl) ?_
  replace hf := obE hnb hf
  obtain ⟨x_9, e_10, hf⟩ := hf
  refine xx_callS (wc := []) (wr := []) (As := [.long v_a]) (rest := []) ⟨hx, hb, hml, hown, hts⟩ xE_st hK hE hA (k_J_Long_bitCount l htr G cB cI cJ cZ cG v_a (.ret x_9) e_10 ret_nb _) (xw_S 1 hts m_1073 m_1074 m_26 m_1075 (by decide +kernel) ⟨(Nat.le_of_ble_eq_true rfl), (Nat.le_of_ble_eq_true rfl)⟩) hP hD hS [] [] rfl rfl (by decide +kernel) (by decide +kernel) (by decide +kernel) rfl hl.1 rfl (Nat.le_of_ble_eq_true rfl) d_Ar_countLong_54 ⟨(Nat.le_of_ble_eq_true rfl), (Nat.le_of_ble_eq_true rfl)⟩ (fun v9 w9 H_4 locs_4 hp hP_4 hD_4 hS_4 => ?_) (fun x9 w9 H9 l9 hp _ _ _ => absurd hp (fun q9 => by obtain ⟨-, ho, -⟩ := q9; cases ho))
  clear hS hD hP
  obtain ⟨hx_9, ho, rfl⟩ := hp
  cases ho
  replace hP_4 : va_P G classes [] H_4 := hP_4
  replace hD_4 : va_D A [] := hD_4
  exact ex_W (fun _ h => ex_mq h) (W.iret (v := x_9) hx hb hr (fun t ht hW => ⟨⟨_, ozr hf ⟨trivial, rfl, rfl⟩, by rw [ht]; exact hP_4, hD_4⟩, hS_4.F ht⟩) hS_4.2.2 d_Ar_countLong_57)
set_option maxHeartbeats 8000000 in
set_option maxRecDepth 100000 in
theorem k_Ar_quotient (l : Launch) (htr : l.stackTraces = false) (G : va_G) (cB cI cJ cZ cG : ClassId) (v_a : Int64) (v_b : Int64) (R9 : Out Empty (Int64)) (hf : f_Ar_quotient v_a v_b = R9) (hnb : R9 ≠ .bad) (sz : Nat) : MetX l y_Ar_quotient (wx y_Ar_quotient b_Ar_quotient 6 (some .long)) { frames := 1, cells := 0, slots := 0, locals := 23 } (XP G classes (xtys cB cI cJ cZ cG) xE [.long v_a, .long v_b] [] sz) (XQ G classes (va_A [] sz) (fun o w1 => ozp R9 (fun x9 => (True) ∧ o = .returned (some (.long x9)) ∧ w1 = []) (fun _ => False))) 0 0 (va_A [] sz) := by
  refine ex_ofW (cc := b_Ar_quotient) (maxL := 6) (ret := (some .long)) (by decide) rfl ?_
  intro p e s m args below meth c s₁ B hml hno hv
  obtain ⟨rfl, hsz, hP, hK, hD0, hE⟩ := hv
  have hx := B.exec
  have hb := B.bytes
  have hr := B.returns
  have hts : ∀ w ∈ lw_good, w.before _ s = true := fun w h => atoms_spec (ws := wx y_Ar_quotient b_Ar_quotient 6 (some .long)) B.pre w (List.mem_cons_of_mem _ h)
  have hown : s.vm.findClass R_Ar = some m.cls := findClass_of_methodNamed B.named
  have hlocks := B.notSynchronized
  subst hsz
  have hNS := xx_nostat hP
  have hD := hD0.self (sz := s.heap.size)
  generalize hAe : va_A [] s.heap.size = A at hD hE hNS ⊢
  have hA : ∀ q : Nat, s.heap.size ≤ q → A q := fun q h => by rw [← hAe]; exact Or.inr h
  have hS : va_S A s.heap s.heap [] := va_S.rf
  have hl := lv_entry ([.long v_a, .long v_b]) (n := 6) (Nat.le_of_ble_eq_true rfl)
  rw [lg_entry_eq]
  generalize (lg_sl ([.long v_a, .long v_b]) ++ List.replicate (6 - (lg_sl ([.long v_a, .long v_b])).length) Slot.unset).toArray = ls at hl ⊢
  have hl : lv_has ls 6 [(0, .long v_a), (2, .long v_b)] := hl
  unfold f_Ar_quotient at hf
  refine lv_lload_n hx hb d_Ar_quotient_0 rfl (lv_at hl 1 rfl) ?_
  refine lv_lconst (v := 0) hx hb d_Ar_quotient_1 (by decide) ?_
  refine W.lcmp hx hb d_Ar_quotient_2 ?_
  refine lv_if_ne (tgt := 8) hx hb d_Ar_quotient_3 (by decide) (fun c_1 => ?_) (fun c_1 => ?_)
  · have c_1 := (fun q9 => c_1 ((lc_eq).mpr q9))
    replace hf := ifn c_1 hf
    refine lv_lload_n hx hb d_Ar_quotient_8 rfl (lv_at hl 1 rfl) ?_
    refine lv_lconst (v := 0) hx hb d_Ar_quotient_9 (by decide) ?_
    refine W.lcmp hx hb d_Ar_quotient_10 ?_
    refine lv_if_ge (tgt := 28) hx hb d_Ar_quotient_11 (by decide) (fun c_2 => ?_) (fun c_2 => ?_)
    · have c_2 := (lc_ge).mp c_2
      replace hf := ifp c_2 hf
      refine lv_lload_n hx hb d_Ar_quotient_28 rfl (lv_at hl 0 rfl) ?_
      refine lv_iconst (v := iI 1) hx hb d_Ar_quotient_29 (by decide) ?_
      refine lv_lushr hx hb d_Ar_quotient_30 rfl ?_
      refine lv_lload_n hx hb d_Ar_quotient_31 rfl (lv_at hl 1 rfl) ?_
      replace hf := grd hnb hf
      obtain ⟨g_3, hf⟩ := hf
      refine lv_ldiv hx hb d_Ar_quotient_32 g_3 ?_
      refine lv_iconst (v := iI 1) hx hb d_Ar_quotient_33 (by decide) ?_
      refine lv_lshl hx hb d_Ar_quotient_34 rfl ?_
      refine lv_lstore (lv' := [(4, .long ((((v_a.toUInt64 >>> ((iI 1).toInt64.toUInt64 &&& Int64.toUInt64 63)).toInt64) / v_b) <<< ((iI 1).toInt64 &&& 63))), (0, .long v_a), (2, .long v_b)]) hx hb d_Ar_quotient_35 hl (by decide) rfl (fun ls hl => ?_)
      refine lv_lload_n hx hb d_Ar_quotient_37 rfl (lv_at hl 1 rfl) ?_
      refine lv_lload hx hb d_Ar_quotient_38 (lv_at hl 0 rfl) ?_
      refine lv_lload_n hx hb d_Ar_quotient_40 rfl (lv_at hl 2 rfl) ?_
      refine lv_lmul hx hb d_Ar_quotient_41 ?_
      refine lv_lsub hx hb d_Ar_quotient_42 ?_
      refine lv_lload_n hx hb d_Ar_quotient_43 rfl (lv_at hl 2 rfl) ?_
      replace hf := obE hnb hf
      obtain ⟨x_4, e_5, hf⟩ := hf
      refine xx_callS (wc := []) (wr := []) (As := [.long (v_a - (((((v_a.toUInt64 >>> ((iI 1).toInt64.toUInt64 &&& Int64.toUInt64 63)).toInt64) / v_b) <<< ((iI 1).toInt64 &&& 63)) * v_b)), .long v_b]) (rest := []) ⟨hx, hb, hml, hown, hts⟩ xE_st hK hE hA (k_Ar_isBelow l htr G cB cI cJ cZ cG (v_a - (((((v_a.toUInt64 >>> ((iI 1).toInt64.toUInt64 &&& Int64.toUInt64 63)).toInt64) / v_b) <<< ((iI 1).toInt64 &&& 63)) * v_b)) v_b (.ret x_4) e_5 ret_nb _) (xw_S 2 hts m_1031 m_1032 m_24 m_1033 (by decide +kernel) ⟨(Nat.le_of_ble_eq_true rfl), (Nat.le_of_ble_eq_true rfl)⟩) hP hD hS [] [] rfl rfl (by decide +kernel) (by decide +kernel) (by decide +kernel) rfl hl.1 rfl (Nat.le_of_ble_eq_true rfl) d_Ar_quotient_44 ⟨(Nat.le_of_ble_eq_true rfl), (Nat.le_of_ble_eq_true rfl)⟩ (fun v9 w9 H_1 locs_1 hp hP_1 hD_1 hS_1 => ?_) (fun x9 w9 H9 l9 hp _ _ _ => absurd hp (fun q9 => by obtain ⟨-, ho, -⟩ := q9; cases ho))
      clear hS hD hP
      obtain ⟨hx_4, ho, rfl⟩ := hp
      cases ho
      replace hP_1 : va_P G classes [] H_1 := hP_1
      replace hD_1 : va_D A [] := hD_1
      refine jpE hf (fun K_7 hK_7 hf9 => ?_)
      replace hf := hf9
      clear hf9
      have hJK_7 : ∀ (y_6 : Int64), True → K_7 y_6 = R9 → ∀ (H_1 : Heap) (locs_1 : List Loc), va_P G classes [] H_1 → va_D A [] → va_S A s.heap H_1 locs_1 → ∀ (ls : Array Slot), lv_has ls 6 [(0, .long v_a), (2, .long v_b), (4, .long ((((v_a.toUInt64 >>> ((iI 1).toInt64.toUInt64 &&& Int64.toUInt64 63)).toInt64) / v_b) <<< ((iI 1).toInt64 &&& 63)))] → W p l e (headSpec (wx y_Ar_quotient b_Ar_quotient 6 (some .long)) { frames := 1, cells := 0, slots := 0, locals := 23 }).room s m ([.long v_a, .long v_b] : List Value).toArray below meth c H_1 locs_1 0 0 (MX below (XQ G classes A (fun o w1 => ozp R9 (fun x9 => (True) ∧ o = .returned (some (.long x9)) ∧ w1 = []) (fun _ => False))) ([.long v_a, .long v_b] : List Value).toArray s 0 0 A) (F0 m 59 ls [.long y_6]) := by
        intro y_6 hy_6 hf H_2 locs_2 hP_2 hD_2 hS_2 ls hl
        clear hS_1 hD_1 hP_1
        replace hf := (congrFun hK_7 y_6).symm.trans hf
        clear hK_7
        exact ex_W (fun _ h => ex_mq h) (W.lret (v := y_6) hx hb hr (fun t ht hW => ⟨⟨_, ozr hf ⟨trivial, rfl, rfl⟩, by rw [ht]; exact hP_2, hD_2⟩, hS_2.F ht⟩) hS_2.2.2 d_Ar_quotient_59)
      clear hK_7
      refine lv_if_eq (tgt := 55) hx hb d_Ar_quotient_47 (by decide) (fun c_8 => ?_) (fun c_8 => ?_)
      · have c_8 := (zb_f c_8)
        replace hf := ifn c_8 hf
        refine lv_lload hx hb d_Ar_quotient_55 (lv_at hl 0 rfl) ?_
        refine lv_lconst (v := 1) hx hb d_Ar_quotient_57 (by decide) ?_
        refine lv_ladd hx hb d_Ar_quotient_58 ?_
        exact hJK_7 (((((v_a.toUInt64 >>> ((iI 1).toInt64.toUInt64 &&& Int64.toUInt64 63)).toInt64) / v_b) <<< ((iI 1).toInt64 &&& 63)) + 1) trivial hf _ _ hP_1 hD_1 hS_1 _ (lv_sub hl [1, 2, 0] rfl)
      · have c_8 := (zb_t c_8)
        replace hf := ifp c_8 hf
        refine lv_lload hx hb d_Ar_quotient_50 (lv_at hl 0 rfl) ?_
        refine lv_goto (tgt := 59) hx hb d_Ar_quotient_52 (by decide) ?_
        exact hJK_7 ((((v_a.toUInt64 >>> ((iI 1).toInt64.toUInt64 &&& Int64.toUInt64 63)).toInt64) / v_b) <<< ((iI 1).toInt64 &&& 63)) trivial hf _ _ hP_1 hD_1 hS_1 _ (lv_sub hl [1, 2, 0] rfl)
    · have c_2 := (fun q9 => c_2 ((lc_ge).mpr q9))
      replace hf := ifn c_2 hf
      refine lv_lload_n hx hb d_Ar_quotient_14 rfl (lv_at hl 0 rfl) ?_
      refine lv_lload_n hx hb d_Ar_quotient_15 rfl (lv_at hl 1 rfl) ?_
      replace hf := obE hnb hf
      obtain ⟨x_9, e_10, hf⟩ := hf
      refine xx_callS (wc := []) (wr := []) (As := [.long v_a, .long v_b]) (rest := []) ⟨hx, hb, hml, hown, hts⟩ xE_st hK hE hA (k_Ar_isBelow l htr G cB cI cJ cZ cG v_a v_b (.ret x_9) e_10 ret_nb _) (xw_S 2 hts m_1031 m_1032 m_24 m_1033 (by decide +kernel) ⟨(Nat.le_of_ble_eq_true rfl), (Nat.le_of_ble_eq_true rfl)⟩) hP hD hS [] [] rfl rfl (by decide +kernel) (by decide +kernel) (by decide +kernel) rfl hl.1 rfl (Nat.le_of_ble_eq_true rfl) d_Ar_quotient_16 ⟨(Nat.le_of_ble_eq_true rfl), (Nat.le_of_ble_eq_true rfl)⟩ (fun v9 w9 H_3 locs_3 hp hP_3 hD_3 hS_3 => ?_) (fun x9 w9 H9 l9 hp _ _ _ => absurd hp (fun q9 => by obtain ⟨-, ho, -⟩ := q9; cases ho))
      clear hS hD hP
      obtain ⟨hx_9, ho, rfl⟩ := hp
      cases ho
      replace hP_3 : va_P G classes [] H_3 := hP_3
      replace hD_3 : va_D A [] := hD_3
      refine jpE hf (fun K_12 hK_12 hf9 => ?_)
      replace hf := hf9
      clear hf9
      have hJK_12 : ∀ (y_11 : Int64), True → K_12 y_11 = R9 → ∀ (H_3 : Heap) (locs_3 : List Loc), va_P G classes [] H_3 → va_D A [] → va_S A s.heap H_3 locs_3 → ∀ (ls : Array Slot), lv_has ls 6 [(0, .long v_a), (2, .long v_b)] → W p l e (headSpec (wx y_Ar_quotient b_Ar_quotient 6 (some .long)) { frames := 1, cells := 0, slots := 0, locals := 23 }).room s m ([.long v_a, .long v_b] : List Value).toArray below meth c H_3 locs_3 0 0 (MX below (XQ G classes A (fun o w1 => ozp R9 (fun x9 => (True) ∧ o = .returned (some (.long x9)) ∧ w1 = []) (fun _ => False))) ([.long v_a, .long v_b] : List Value).toArray s 0 0 A) (F0 m 27 ls [.long y_11]) := by
        intro y_11 hy_11 hf H_4 locs_4 hP_4 hD_4 hS_4 ls hl
        clear hS_3 hD_3 hP_3
        replace hf := (congrFun hK_12 y_11).symm.trans hf
        clear hK_12
        exact ex_W (fun _ h => ex_mq h) (W.lret (v := y_11) hx hb hr (fun t ht hW => ⟨⟨_, ozr hf ⟨trivial, rfl, rfl⟩, by rw [ht]; exact hP_4, hD_4⟩, hS_4.F ht⟩) hS_4.2.2 d_Ar_quotient_27)
      clear hK_12
      refine lv_if_eq (tgt := 26) hx hb d_Ar_quotient_19 (by decide) (fun c_13 => ?_) (fun c_13 => ?_)
      · have c_13 := (zb_f c_13)
        replace hf := ifn c_13 hf
        refine lv_lconst (v := 1) hx hb d_Ar_quotient_26 (by decide) ?_
        exact hJK_12 1 trivial hf _ _ hP_3 hD_3 hS_3 _ (lv_sub hl [0, 1] rfl)
      · have c_13 := (zb_t c_13)
        replace hf := ifp c_13 hf
        refine lv_lconst (v := 0) hx hb d_Ar_quotient_22 (by decide) ?_
        refine lv_goto (tgt := 27) hx hb d_Ar_quotient_23 (by decide) ?_
        exact hJK_12 0 trivial hf _ _ hP_3 hD_3 hS_3 _ (lv_sub hl [0, 1] rfl)
  · have c_1 := (lc_eq).mp c_1
    replace hf := ifp c_1 hf
    refine lv_lconst (v := 0) hx hb d_Ar_quotient_6 (by decide) ?_
    exact ex_W (fun _ h => ex_mq h) (W.lret (v := 0) hx hb hr (fun t ht hW => ⟨⟨_, ozr hf ⟨trivial, rfl, rfl⟩, by rw [ht]; exact hP, hD⟩, hS.F ht⟩) hS.2.2 d_Ar_quotient_7)
set_option maxHeartbeats 8000000 in
set_option maxRecDepth 100000 in
theorem k_Ar_joinLongs (l : Launch) (htr : l.stackTraces = false) (G : va_G) (cB cI cJ cZ cG : ClassId) (v_op : Int) (v_a : Int64) (v_b : Int64) (hv_op : R32 v_op) (R9 : Out Empty (Int64)) (hf : f_Ar_joinLongs v_op v_a v_b = R9) (hnb : R9 ≠ .bad) (sz : Nat) : MetX l y_Ar_joinLongs (wx y_Ar_joinLongs b_Ar_joinLongs 5 (some .long)) { frames := 2, cells := 0, slots := 0, locals := 48 } (XP G classes (xtys cB cI cJ cZ cG) xE [.int (iI v_op), .long v_a, .long v_b] [] sz) (XQ G classes (va_A [] sz) (fun o w1 => ozp R9 (fun x9 => (True) ∧ o = .returned (some (.long x9)) ∧ w1 = []) (fun _ => False))) 0 0 (va_A [] sz) := by
  refine ex_ofW (cc := b_Ar_joinLongs) (maxL := 5) (ret := (some .long)) (by decide) rfl ?_
  intro p e s m args below meth c s₁ B hml hno hv
  obtain ⟨rfl, hsz, hP, hK, hD0, hE⟩ := hv
  have hx := B.exec
  have hb := B.bytes
  have hr := B.returns
  have hts : ∀ w ∈ lw_good, w.before _ s = true := fun w h => atoms_spec (ws := wx y_Ar_joinLongs b_Ar_joinLongs 5 (some .long)) B.pre w (List.mem_cons_of_mem _ h)
  have hown : s.vm.findClass R_Ar = some m.cls := findClass_of_methodNamed B.named
  have hlocks := B.notSynchronized
  subst hsz
  have hNS := xx_nostat hP
  have hD := hD0.self (sz := s.heap.size)
  generalize hAe : va_A [] s.heap.size = A at hD hE hNS ⊢
  have hA : ∀ q : Nat, s.heap.size ≤ q → A q := fun q h => by rw [← hAe]; exact Or.inr h
  have hS : va_S A s.heap s.heap [] := va_S.rf
  have hl := lv_entry ([.int (iI v_op), .long v_a, .long v_b]) (n := 5) (Nat.le_of_ble_eq_true rfl)
  rw [lg_entry_eq]
  generalize (lg_sl ([.int (iI v_op), .long v_a, .long v_b]) ++ List.replicate (5 - (lg_sl ([.int (iI v_op), .long v_a, .long v_b])).length) Slot.unset).toArray = ls at hl ⊢
  have hl : lv_has ls 5 [(0, .int (iI v_op)), (1, .long v_a), (3, .long v_b)] := hl
  unfold f_Ar_joinLongs at hf
  refine lv_iload_n hx hb d_Ar_joinLongs_0 rfl (lv_at hl 0 rfl) ?_
  rcases Decidable.em (v_op = 106) with q_1 | q_1
  · replace hf := ifp q_1 hf
    refine lv_tableIn (off := 71) (tgt := 72) hx hb d_Ar_joinLongs_1 (by rw [(iI_t hv_op).trans q_1]; decide) (by rw [(iI_t hv_op).trans q_1]; decide) (by rw [(iI_t hv_op).trans q_1]; rfl) (by decide) ?_
    refine lv_lload_n hx hb d_Ar_joinLongs_72 rfl (lv_at hl 1 rfl) ?_
    refine lv_lload_n hx hb d_Ar_joinLongs_73 rfl (lv_at hl 2 rfl) ?_
    refine lv_ladd hx hb d_Ar_joinLongs_74 ?_
    exact ex_W (fun _ h => ex_mq h) (W.lret (v := v_a + v_b) hx hb hr (fun t ht hW => ⟨⟨_, ozr hf ⟨trivial, rfl, rfl⟩, by rw [ht]; exact hP, hD⟩, hS.F ht⟩) hS.2.2 d_Ar_joinLongs_75)
  replace hf := ifn q_1 hf
  rcases Decidable.em (v_op = 107) with q_2 | q_2
  · replace hf := ifp q_2 hf
    refine lv_tableIn (off := 75) (tgt := 76) hx hb d_Ar_joinLongs_1 (by rw [(iI_t hv_op).trans q_2]; decide) (by rw [(iI_t hv_op).trans q_2]; decide) (by rw [(iI_t hv_op).trans q_2]; rfl) (by decide) ?_
    refine lv_lload_n hx hb d_Ar_joinLongs_76 rfl (lv_at hl 1 rfl) ?_
    refine lv_lload_n hx hb d_Ar_joinLongs_77 rfl (lv_at hl 2 rfl) ?_
    refine lv_lsub hx hb d_Ar_joinLongs_78 ?_
    exact ex_W (fun _ h => ex_mq h) (W.lret (v := v_a - v_b) hx hb hr (fun t ht hW => ⟨⟨_, ozr hf ⟨trivial, rfl, rfl⟩, by rw [ht]; exact hP, hD⟩, hS.F ht⟩) hS.2.2 d_Ar_joinLongs_79)
  replace hf := ifn q_2 hf
  rcases Decidable.em (v_op = 108) with q_3 | q_3
  · replace hf := ifp q_3 hf
    refine lv_tableIn (off := 79) (tgt := 80) hx hb d_Ar_joinLongs_1 (by rw [(iI_t hv_op).trans q_3]; decide) (by rw [(iI_t hv_op).trans q_3]; decide) (by rw [(iI_t hv_op).trans q_3]; rfl) (by decide) ?_
    refine lv_lload_n hx hb d_Ar_joinLongs_80 rfl (lv_at hl 1 rfl) ?_
    refine lv_lload_n hx hb d_Ar_joinLongs_81 rfl (lv_at hl 2 rfl) ?_
    refine lv_lmul hx hb d_Ar_joinLongs_82 ?_
    exact ex_W (fun _ h => ex_mq h) (W.lret (v := v_a * v_b) hx hb hr (fun t ht hW => ⟨⟨_, ozr hf ⟨trivial, rfl, rfl⟩, by rw [ht]; exact hP, hD⟩, hS.F ht⟩) hS.2.2 d_Ar_joinLongs_83)
  replace hf := ifn q_3 hf
  rcases Decidable.em (v_op = 109) with q_4 | q_4
  · replace hf := ifp q_4 hf
    refine lv_tableIn (off := 83) (tgt := 84) hx hb d_Ar_joinLongs_1 (by rw [(iI_t hv_op).trans q_4]; decide) (by rw [(iI_t hv_op).trans q_4]; decide) (by rw [(iI_t hv_op).trans q_4]; rfl) (by decide) ?_
    refine lv_lload_n hx hb d_Ar_joinLongs_84 rfl (lv_at hl 2 rfl) ?_
    refine lv_lconst (v := 0) hx hb d_Ar_joinLongs_85 (by decide) ?_
    refine W.lcmp hx hb d_Ar_joinLongs_86 ?_
    refine jpE hf (fun K_6 hK_6 hf9 => ?_)
    replace hf := hf9
    clear hf9
    have hJK_6 : ∀ (y_5 : Int64), True → K_6 y_5 = R9 → ∀ (H : Heap) (locs : List Loc), va_P G classes [] H → va_D A [] → va_S A s.heap H locs → ∀ (ls : Array Slot), lv_has ls 5 [(0, .int (iI v_op)), (1, .long v_a), (3, .long v_b)] → W p l e (headSpec (wx y_Ar_joinLongs b_Ar_joinLongs 5 (some .long)) { frames := 2, cells := 0, slots := 0, locals := 48 }).room s m ([.int (iI v_op), .long v_a, .long v_b] : List Value).toArray below meth c H locs 0 0 (MX below (XQ G classes A (fun o w1 => ozp R9 (fun x9 => (True) ∧ o = .returned (some (.long x9)) ∧ w1 = []) (fun _ => False))) ([.int (iI v_op), .long v_a, .long v_b] : List Value).toArray s 0 0 A) (F0 m 97 ls [.long y_5]) := by
      intro y_5 hy_5 hf H_1 locs_1 hP_1 hD_1 hS_1 ls hl
      clear hS hD hP
      replace hf := (congrFun hK_6 y_5).symm.trans hf
      clear hK_6
      exact ex_W (fun _ h => ex_mq h) (W.lret (v := y_5) hx hb hr (fun t ht hW => ⟨⟨_, ozr hf ⟨trivial, rfl, rfl⟩, by rw [ht]; exact hP_1, hD_1⟩, hS_1.F ht⟩) hS_1.2.2 d_Ar_joinLongs_97)
    clear hK_6
    refine lv_if_ne (tgt := 94) hx hb d_Ar_joinLongs_87 (by decide) (fun c_7 => ?_) (fun c_7 => ?_)
    · have c_7 := (fun q9 => c_7 ((lc_eq).mpr q9))
      replace hf := ifn c_7 hf
      refine lv_lload_n hx hb d_Ar_joinLongs_94 rfl (lv_at hl 1 rfl) ?_
      refine lv_lload_n hx hb d_Ar_joinLongs_95 rfl (lv_at hl 2 rfl) ?_
      replace hf := grd hnb hf
      obtain ⟨g_8, hf⟩ := hf
      refine lv_ldiv hx hb d_Ar_joinLongs_96 g_8 ?_
      exact hJK_6 (v_a / v_b) trivial hf _ _ hP hD hS _ (lv_sub hl [0, 1, 2] rfl)
    · have c_7 := (lc_eq).mp c_7
      replace hf := ifp c_7 hf
      refine lv_lconst (v := 0) hx hb d_Ar_joinLongs_90 (by decide) ?_
      refine lv_goto (tgt := 97) hx hb d_Ar_joinLongs_91 (by decide) ?_
      exact hJK_6 0 trivial hf _ _ hP hD hS _ (lv_sub hl [0, 1, 2] rfl)
  replace hf := ifn q_4 hf
  rcases Decidable.em (v_op = 110) with q_9 | q_9
  · replace hf := ifp q_9 hf
    refine lv_tableIn (off := 97) (tgt := 98) hx hb d_Ar_joinLongs_1 (by rw [(iI_t hv_op).trans q_9]; decide) (by rw [(iI_t hv_op).trans q_9]; decide) (by rw [(iI_t hv_op).trans q_9]; rfl) (by decide) ?_
    refine lv_lload_n hx hb d_Ar_joinLongs_98 rfl (lv_at hl 1 rfl) ?_
    refine lv_lload_n hx hb d_Ar_joinLongs_99 rfl (lv_at hl 2 rfl) ?_
    replace hf := obE hnb hf
    obtain ⟨x_10, e_11, hf⟩ := hf
    refine xx_callS (wc := []) (wr := []) (As := [.long v_a, .long v_b]) (rest := []) ⟨hx, hb, hml, hown, hts⟩ xE_st hK hE hA (k_Ar_quotient l htr G cB cI cJ cZ cG v_a v_b (.ret x_10) e_11 ret_nb _) (xw_S 2 hts m_1063 m_1064 m_24 m_1065 (by decide +kernel) ⟨(Nat.le_of_ble_eq_true rfl), (Nat.le_of_ble_eq_true rfl)⟩) hP hD hS [] [] rfl rfl (by decide +kernel) (by decide +kernel) (by decide +kernel) rfl hl.1 rfl (Nat.le_of_ble_eq_true rfl) d_Ar_joinLongs_100 ⟨(Nat.le_of_ble_eq_true rfl), (Nat.le_of_ble_eq_true rfl)⟩ (fun v9 w9 H_2 locs_2 hp hP_2 hD_2 hS_2 => ?_) (fun x9 w9 H9 l9 hp _ _ _ => absurd hp (fun q9 => by obtain ⟨-, ho, -⟩ := q9; cases ho))
    clear hS hD hP
    obtain ⟨hx_10, ho, rfl⟩ := hp
    cases ho
    replace hP_2 : va_P G classes [] H_2 := hP_2
    replace hD_2 : va_D A [] := hD_2
    exact ex_W (fun _ h => ex_mq h) (W.lret (v := x_10) hx hb hr (fun t ht hW => ⟨⟨_, ozr hf ⟨trivial, rfl, rfl⟩, by rw [ht]; exact hP_2, hD_2⟩, hS_2.F ht⟩) hS_2.2.2 d_Ar_joinLongs_103)
  replace hf := ifn q_9 hf
  rcases Decidable.em (v_op = 111) with q_12 | q_12
  · replace hf := ifp q_12 hf
    refine lv_tableIn (off := 103) (tgt := 104) hx hb d_Ar_joinLongs_1 (by rw [(iI_t hv_op).trans q_12]; decide) (by rw [(iI_t hv_op).trans q_12]; decide) (by rw [(iI_t hv_op).trans q_12]; rfl) (by decide) ?_
    refine lv_lload_n hx hb d_Ar_joinLongs_104 rfl (lv_at hl 2 rfl) ?_
    refine lv_lconst (v := 0) hx hb d_Ar_joinLongs_105 (by decide) ?_
    refine W.lcmp hx hb d_Ar_joinLongs_106 ?_
    refine jpE hf (fun K_14 hK_14 hf9 => ?_)
    replace hf := hf9
    clear hf9
    have hJK_14 : ∀ (y_13 : Int64), True → K_14 y_13 = R9 → ∀ (H : Heap) (locs : List Loc), va_P G classes [] H → va_D A [] → va_S A s.heap H locs → ∀ (ls : Array Slot), lv_has ls 5 [(0, .int (iI v_op)), (1, .long v_a), (3, .long v_b)] → W p l e (headSpec (wx y_Ar_joinLongs b_Ar_joinLongs 5 (some .long)) { frames := 2, cells := 0, slots := 0, locals := 48 }).room s m ([.int (iI v_op), .long v_a, .long v_b] : List Value).toArray below meth c H locs 0 0 (MX below (XQ G classes A (fun o w1 => ozp R9 (fun x9 => (True) ∧ o = .returned (some (.long x9)) ∧ w1 = []) (fun _ => False))) ([.int (iI v_op), .long v_a, .long v_b] : List Value).toArray s 0 0 A) (F0 m 117 ls [.long y_13]) := by
      intro y_13 hy_13 hf H_3 locs_3 hP_3 hD_3 hS_3 ls hl
      clear hS hD hP
      replace hf := (congrFun hK_14 y_13).symm.trans hf
      clear hK_14
      exact ex_W (fun _ h => ex_mq h) (W.lret (v := y_13) hx hb hr (fun t ht hW => ⟨⟨_, ozr hf ⟨trivial, rfl, rfl⟩, by rw [ht]; exact hP_3, hD_3⟩, hS_3.F ht⟩) hS_3.2.2 d_Ar_joinLongs_117)
    clear hK_14
    refine lv_if_ne (tgt := 114) hx hb d_Ar_joinLongs_107 (by decide) (fun c_15 => ?_) (fun c_15 => ?_)
    · have c_15 := (fun q9 => c_15 ((lc_eq).mpr q9))
      replace hf := ifn c_15 hf
      refine lv_lload_n hx hb d_Ar_joinLongs_114 rfl (lv_at hl 1 rfl) ?_
      refine lv_lload_n hx hb d_Ar_joinLongs_115 rfl (lv_at hl 2 rfl) ?_
      replace hf := grd hnb hf
      obtain ⟨g_16, hf⟩ := hf
      refine lv_lrem hx hb d_Ar_joinLongs_116 g_16 ?_
      exact hJK_14 (v_a - (v_a / v_b) * v_b) trivial hf _ _ hP hD hS _ (lv_sub hl [0, 1, 2] rfl)
    · have c_15 := (lc_eq).mp c_15
      replace hf := ifp c_15 hf
      refine lv_lconst (v := 0) hx hb d_Ar_joinLongs_110 (by decide) ?_
      refine lv_goto (tgt := 117) hx hb d_Ar_joinLongs_111 (by decide) ?_
      exact hJK_14 0 trivial hf _ _ hP hD hS _ (lv_sub hl [0, 1, 2] rfl)
  replace hf := ifn q_12 hf
  rcases Decidable.em (v_op = 112) with q_17 | q_17
  · replace hf := ifp q_17 hf
    refine lv_tableIn (off := 117) (tgt := 118) hx hb d_Ar_joinLongs_1 (by rw [(iI_t hv_op).trans q_17]; decide) (by rw [(iI_t hv_op).trans q_17]; decide) (by rw [(iI_t hv_op).trans q_17]; rfl) (by decide) ?_
    refine lv_lload_n hx hb d_Ar_joinLongs_118 rfl (lv_at hl 1 rfl) ?_
    refine lv_lload_n hx hb d_Ar_joinLongs_119 rfl (lv_at hl 1 rfl) ?_
    refine lv_lload_n hx hb d_Ar_joinLongs_120 rfl (lv_at hl 2 rfl) ?_
    replace hf := obE hnb hf
    obtain ⟨x_18, e_19, hf⟩ := hf
    refine xx_callS (wc := []) (wr := []) (As := [.long v_a, .long v_b]) (rest := [.long v_a]) ⟨hx, hb, hml, hown, hts⟩ xE_st hK hE hA (k_Ar_quotient l htr G cB cI cJ cZ cG v_a v_b (.ret x_18) e_19 ret_nb _) (xw_S 2 hts m_1063 m_1064 m_24 m_1065 (by decide +kernel) ⟨(Nat.le_of_ble_eq_true rfl), (Nat.le_of_ble_eq_true rfl)⟩) hP hD hS [] [] rfl rfl (by decide +kernel) (by decide +kernel) (by decide +kernel) rfl hl.1 rfl (Nat.le_of_ble_eq_true rfl) d_Ar_joinLongs_121 ⟨(Nat.le_of_ble_eq_true rfl), (Nat.le_of_ble_eq_true rfl)⟩ (fun v9 w9 H_4 locs_4 hp hP_4 hD_4 hS_4 => ?_) (fun x9 w9 H9 l9 hp _ _ _ => absurd hp (fun q9 => by obtain ⟨-, ho, -⟩ := q9; cases ho))
    clear hS hD hP
    obtain ⟨hx_18, ho, rfl⟩ := hp
    cases ho
    replace hP_4 : va_P G classes [] H_4 := hP_4
    replace hD_4 : va_D A [] := hD_4
    refine lv_lload_n hx hb d_Ar_joinLongs_124 rfl (lv_at hl 2 rfl) ?_
    refine lv_lmul hx hb d_Ar_joinLongs_125 ?_
    refine lv_lsub hx hb d_Ar_joinLongs_126 ?_
    exact ex_W (fun _ h => ex_mq h) (W.lret (v := v_a - (x_18 * v_b)) hx hb hr (fun t ht hW => ⟨⟨_, ozr hf ⟨trivial, rfl, rfl⟩, by rw [ht]; exact hP_4, hD_4⟩, hS_4.F ht⟩) hS_4.2.2 d_Ar_joinLongs_127)
  replace hf := ifn q_17 hf
  rcases Decidable.em (v_op = 113) with q_20 | q_20
  · replace hf := ifp q_20 hf
    refine lv_tableIn (off := 127) (tgt := 128) hx hb d_Ar_joinLongs_1 (by rw [(iI_t hv_op).trans q_20]; decide) (by rw [(iI_t hv_op).trans q_20]; decide) (by rw [(iI_t hv_op).trans q_20]; rfl) (by decide) ?_
    refine lv_lload_n hx hb d_Ar_joinLongs_128 rfl (lv_at hl 1 rfl) ?_
    refine lv_lload_n hx hb d_Ar_joinLongs_129 rfl (lv_at hl 2 rfl) ?_
    refine lv_land hx hb d_Ar_joinLongs_130 ?_
    exact ex_W (fun _ h => ex_mq h) (W.lret (v := v_a &&& v_b) hx hb hr (fun t ht hW => ⟨⟨_, ozr hf ⟨trivial, rfl, rfl⟩, by rw [ht]; exact hP, hD⟩, hS.F ht⟩) hS.2.2 d_Ar_joinLongs_131)
  replace hf := ifn q_20 hf
  rcases Decidable.em (v_op = 114) with q_21 | q_21
  · replace hf := ifp q_21 hf
    refine lv_tableIn (off := 131) (tgt := 132) hx hb d_Ar_joinLongs_1 (by rw [(iI_t hv_op).trans q_21]; decide) (by rw [(iI_t hv_op).trans q_21]; decide) (by rw [(iI_t hv_op).trans q_21]; rfl) (by decide) ?_
    refine lv_lload_n hx hb d_Ar_joinLongs_132 rfl (lv_at hl 1 rfl) ?_
    refine lv_lload_n hx hb d_Ar_joinLongs_133 rfl (lv_at hl 2 rfl) ?_
    refine lv_lor hx hb d_Ar_joinLongs_134 ?_
    exact ex_W (fun _ h => ex_mq h) (W.lret (v := v_a ||| v_b) hx hb hr (fun t ht hW => ⟨⟨_, ozr hf ⟨trivial, rfl, rfl⟩, by rw [ht]; exact hP, hD⟩, hS.F ht⟩) hS.2.2 d_Ar_joinLongs_135)
  replace hf := ifn q_21 hf
  rcases Decidable.em (v_op = 115) with q_22 | q_22
  · replace hf := ifp q_22 hf
    refine lv_tableIn (off := 135) (tgt := 136) hx hb d_Ar_joinLongs_1 (by rw [(iI_t hv_op).trans q_22]; decide) (by rw [(iI_t hv_op).trans q_22]; decide) (by rw [(iI_t hv_op).trans q_22]; rfl) (by decide) ?_
    refine lv_lload_n hx hb d_Ar_joinLongs_136 rfl (lv_at hl 1 rfl) ?_
    refine lv_lload_n hx hb d_Ar_joinLongs_137 rfl (lv_at hl 2 rfl) ?_
    refine lv_lxor hx hb d_Ar_joinLongs_138 ?_
    exact ex_W (fun _ h => ex_mq h) (W.lret (v := v_a ^^^ v_b) hx hb hr (fun t ht hW => ⟨⟨_, ozr hf ⟨trivial, rfl, rfl⟩, by rw [ht]; exact hP, hD⟩, hS.F ht⟩) hS.2.2 d_Ar_joinLongs_139)
  replace hf := ifn q_22 hf
  rcases Decidable.em (v_op = 116) with q_23 | q_23
  · replace hf := ifp q_23 hf
    refine lv_tableIn (off := 139) (tgt := 140) hx hb d_Ar_joinLongs_1 (by rw [(iI_t hv_op).trans q_23]; decide) (by rw [(iI_t hv_op).trans q_23]; decide) (by rw [(iI_t hv_op).trans q_23]; rfl) (by decide) ?_
    refine lv_lload_n hx hb d_Ar_joinLongs_140 rfl (lv_at hl 1 rfl) ?_
    refine lv_lload_n hx hb d_Ar_joinLongs_141 rfl (lv_at hl 2 rfl) ?_
    refine lv_l2i hx hb d_Ar_joinLongs_142 rfl ?_
    refine lv_lshl hx hb d_Ar_joinLongs_143 rfl ?_
    exact ex_W (fun _ h => ex_mq h) (W.lret (v := v_a <<< (v_b.toInt32.toInt64 &&& 63)) hx hb hr (fun t ht hW => ⟨⟨_, ozr hf ⟨trivial, rfl, rfl⟩, by rw [ht]; exact hP, hD⟩, hS.F ht⟩) hS.2.2 d_Ar_joinLongs_144)
  replace hf := ifn q_23 hf
  rcases Decidable.em (v_op = 117) with q_24 | q_24
  · replace hf := ifp q_24 hf
    refine lv_tableIn (off := 144) (tgt := 145) hx hb d_Ar_joinLongs_1 (by rw [(iI_t hv_op).trans q_24]; decide) (by rw [(iI_t hv_op).trans q_24]; decide) (by rw [(iI_t hv_op).trans q_24]; rfl) (by decide) ?_
    refine lv_lload_n hx hb d_Ar_joinLongs_145 rfl (lv_at hl 1 rfl) ?_
    refine lv_lload_n hx hb d_Ar_joinLongs_146 rfl (lv_at hl 2 rfl) ?_
    refine lv_l2i hx hb d_Ar_joinLongs_147 rfl ?_
    refine lv_lshr hx hb d_Ar_joinLongs_148 rfl ?_
    exact ex_W (fun _ h => ex_mq h) (W.lret (v := v_a >>> (v_b.toInt32.toInt64 &&& 63)) hx hb hr (fun t ht hW => ⟨⟨_, ozr hf ⟨trivial, rfl, rfl⟩, by rw [ht]; exact hP, hD⟩, hS.F ht⟩) hS.2.2 d_Ar_joinLongs_149)
  replace hf := ifn q_24 hf
  rcases Decidable.em (v_op = 118) with q_25 | q_25
  · replace hf := ifp q_25 hf
    refine lv_tableIn (off := 149) (tgt := 150) hx hb d_Ar_joinLongs_1 (by rw [(iI_t hv_op).trans q_25]; decide) (by rw [(iI_t hv_op).trans q_25]; decide) (by rw [(iI_t hv_op).trans q_25]; rfl) (by decide) ?_
    refine lv_lload_n hx hb d_Ar_joinLongs_150 rfl (lv_at hl 1 rfl) ?_
    refine lv_lload_n hx hb d_Ar_joinLongs_151 rfl (lv_at hl 2 rfl) ?_
    refine lv_l2i hx hb d_Ar_joinLongs_152 rfl ?_
    refine lv_lushr hx hb d_Ar_joinLongs_153 rfl ?_
    exact ex_W (fun _ h => ex_mq h) (W.lret (v := (v_a.toUInt64 >>> (v_b.toInt32.toInt64.toUInt64 &&& Int64.toUInt64 63)).toInt64) hx hb hr (fun t ht hW => ⟨⟨_, ozr hf ⟨trivial, rfl, rfl⟩, by rw [ht]; exact hP, hD⟩, hS.F ht⟩) hS.2.2 d_Ar_joinLongs_154)
  replace hf := ifn q_25 hf
  rcases Decidable.em (v_op = 119) with q_26 | q_26
  · replace hf := ifp q_26 hf
    refine lv_tableIn (off := 154) (tgt := 155) hx hb d_Ar_joinLongs_1 (by rw [(iI_t hv_op).trans q_26]; decide) (by rw [(iI_t hv_op).trans q_26]; decide) (by rw [(iI_t hv_op).trans q_26]; rfl) (by decide) ?_
    refine lv_lload_n hx hb d_Ar_joinLongs_155 rfl (lv_at hl 1 rfl) ?_
    refine lv_lload_n hx hb d_Ar_joinLongs_156 rfl (lv_at hl 2 rfl) ?_
    refine lv_l2i hx hb d_Ar_joinLongs_157 rfl ?_
    refine lv_lshl hx hb d_Ar_joinLongs_158 rfl ?_
    refine lv_lload_n hx hb d_Ar_joinLongs_159 rfl (lv_at hl 1 rfl) ?_
    refine lv_lload_n hx hb d_Ar_joinLongs_160 rfl (lv_at hl 2 rfl) ?_
    refine lv_lneg hx hb d_Ar_joinLongs_161 ?_
    refine lv_l2i hx hb d_Ar_joinLongs_162 rfl ?_
    refine lv_lushr hx hb d_Ar_joinLongs_163 rfl ?_
    refine lv_lor hx hb d_Ar_joinLongs_164 ?_
    exact ex_W (fun _ h => ex_mq h) (W.lret (v := (v_a <<< (v_b.toInt32.toInt64 &&& 63)) ||| ((v_a.toUInt64 >>> (((-v_b).toInt32).toInt64.toUInt64 &&& Int64.toUInt64 63)).toInt64)) hx hb hr (fun t ht hW => ⟨⟨_, ozr hf ⟨trivial, rfl, rfl⟩, by rw [ht]; exact hP, hD⟩, hS.F ht⟩) hS.2.2 d_Ar_joinLongs_165)
  replace hf := ifn q_26 hf
  rcases Decidable.em (v_op < 106 ∨ 119 < v_op) with q_27 | q_27
  · refine lv_tableOut (tgt := 166) hx hb d_Ar_joinLongs_1 (by rw [iI_t hv_op]; exact q_27) (by decide) ?_
    refine lv_lload_n hx hb d_Ar_joinLongs_166 rfl (lv_at hl 1 rfl) ?_
    refine lv_lload_n hx hb d_Ar_joinLongs_167 rfl (lv_at hl 2 rfl) ?_
    refine lv_l2i hx hb d_Ar_joinLongs_168 rfl ?_
    refine lv_lushr hx hb d_Ar_joinLongs_169 rfl ?_
    refine lv_lload_n hx hb d_Ar_joinLongs_170 rfl (lv_at hl 1 rfl) ?_
    refine lv_lload_n hx hb d_Ar_joinLongs_171 rfl (lv_at hl 2 rfl) ?_
    refine lv_lneg hx hb d_Ar_joinLongs_172 ?_
    refine lv_l2i hx hb d_Ar_joinLongs_173 rfl ?_
    refine lv_lshl hx hb d_Ar_joinLongs_174 rfl ?_
    refine lv_lor hx hb d_Ar_joinLongs_175 ?_
    exact ex_W (fun _ h => ex_mq h) (W.lret (v := ((v_a.toUInt64 >>> (v_b.toInt32.toInt64.toUInt64 &&& Int64.toUInt64 63)).toInt64) ||| (v_a <<< (((-v_b).toInt32).toInt64 &&& 63))) hx hb hr (fun t ht hW => ⟨⟨_, ozr hf ⟨trivial, rfl, rfl⟩, by rw [ht]; exact hP, hD⟩, hS.F ht⟩) hS.2.2 d_Ar_joinLongs_176)
  exact absurd q_27 (by omega)
set_option maxHeartbeats 8000000 in
set_option maxRecDepth 100000 in
theorem k_Ar_joinInts (l : Launch) (htr : l.stackTraces = false) (G : va_G) (cB cI cJ cZ cG : ClassId) (v_op : Int) (v_a : Int32) (v_b : Int32) (hv_op : R32 v_op) (R9 : Out Empty (Int32)) (hf : f_Ar_joinInts v_op v_a v_b = R9) (hnb : R9 ≠ .bad) (sz : Nat) : MetX l y_Ar_joinInts (wx y_Ar_joinInts b_Ar_joinInts 3 (some .int)) { frames := 3, cells := 0, slots := 0, locals := 72 } (XP G classes (xtys cB cI cJ cZ cG) xE [.int (iI v_op), .int v_a, .int v_b] [] sz) (XQ G classes (va_A [] sz) (fun o w1 => ozp R9 (fun x9 => (True) ∧ o = .returned (some (.int x9)) ∧ w1 = []) (fun _ => False))) 0 0 (va_A [] sz) := by
  refine ex_ofW (cc := b_Ar_joinInts) (maxL := 3) (ret := (some .int)) (by decide) rfl ?_
  intro p e s m args below meth c s₁ B hml hno hv
  obtain ⟨rfl, hsz, hP, hK, hD0, hE⟩ := hv
  have hx := B.exec
  have hb := B.bytes
  have hr := B.returns
  have hts : ∀ w ∈ lw_good, w.before _ s = true := fun w h => atoms_spec (ws := wx y_Ar_joinInts b_Ar_joinInts 3 (some .int)) B.pre w (List.mem_cons_of_mem _ h)
  have hown : s.vm.findClass R_Ar = some m.cls := findClass_of_methodNamed B.named
  have hlocks := B.notSynchronized
  subst hsz
  have hNS := xx_nostat hP
  have hD := hD0.self (sz := s.heap.size)
  generalize hAe : va_A [] s.heap.size = A at hD hE hNS ⊢
  have hA : ∀ q : Nat, s.heap.size ≤ q → A q := fun q h => by rw [← hAe]; exact Or.inr h
  have hS : va_S A s.heap s.heap [] := va_S.rf
  have hl := lv_entry ([.int (iI v_op), .int v_a, .int v_b]) (n := 3) (Nat.le_of_ble_eq_true rfl)
  rw [lg_entry_eq]
  generalize (lg_sl ([.int (iI v_op), .int v_a, .int v_b]) ++ List.replicate (3 - (lg_sl ([.int (iI v_op), .int v_a, .int v_b])).length) Slot.unset).toArray = ls at hl ⊢
  have hl : lv_has ls 3 [(0, .int (iI v_op)), (1, .int v_a), (2, .int v_b)] := hl
  unfold f_Ar_joinInts at hf
  refine lv_iload_n hx hb d_Ar_joinInts_0 rfl (lv_at hl 0 rfl) ?_
  refine jpE hf (fun K_2 hK_2 hf9 => ?_)
  replace hf := hf9
  clear hf9
  have hJK_2 : ∀ (y_1 : Unit), True → K_2 y_1 = R9 → ∀ (H : Heap) (locs : List Loc), va_P G classes [] H → va_D A [] → va_S A s.heap H locs → ∀ (ls : Array Slot), lv_has ls 3 [(0, .int (iI v_op)), (1, .int v_a), (2, .int v_b)] → W p l e (headSpec (wx y_Ar_joinInts b_Ar_joinInts 3 (some .int)) { frames := 3, cells := 0, slots := 0, locals := 72 }).room s m ([.int (iI v_op), .int v_a, .int v_b] : List Value).toArray below meth c H locs 0 0 (MX below (XQ G classes A (fun o w1 => ozp R9 (fun x9 => (True) ∧ o = .returned (some (.int x9)) ∧ w1 = []) (fun _ => False))) ([.int (iI v_op), .int v_a, .int v_b] : List Value).toArray s 0 0 A) (F0 m 60 ls []) := by
    intro y_1 hy_1 hf H_3 locs_3 hP_3 hD_3 hS_3 ls hl
    clear hS hD hP
    replace hf := (congrFun hK_2 y_1).symm.trans hf
    clear hK_2
    refine lv_iload_n hx hb d_Ar_joinInts_60 rfl (lv_at hl 0 rfl) ?_
    refine lv_iload_n hx hb d_Ar_joinInts_61 rfl (lv_at hl 1 rfl) ?_
    refine lv_i2l hx hb d_Ar_joinInts_62 rfl ?_
    refine lv_ldc2 (v := 4294967295) hx hb hown (hts _ m_1059) d_Ar_joinInts_63 ?_
    refine lv_land hx hb d_Ar_joinInts_66 ?_
    refine lv_iload_n hx hb d_Ar_joinInts_67 rfl (lv_at hl 2 rfl) ?_
    refine lv_i2l hx hb d_Ar_joinInts_68 rfl ?_
    refine lv_ldc2 (v := 4294967295) hx hb hown (hts _ m_1059) d_Ar_joinInts_69 ?_
    refine lv_land hx hb d_Ar_joinInts_72 ?_
    replace hf := obE hnb hf
    obtain ⟨x_3, e_4, hf⟩ := hf
    refine xx_callS (wc := []) (wr := []) (As := [.int (iI v_op), .long (v_a.toInt64 &&& 4294967295), .long (v_b.toInt64 &&& 4294967295)]) (rest := []) ⟨hx, hb, hml, hown, hts⟩ xE_st hK hE hA (k_Ar_joinLongs l htr G cB cI cJ cZ cG v_op (v_a.toInt64 &&& 4294967295) (v_b.toInt64 &&& 4294967295) hv_op (.ret x_3) e_4 ret_nb _) (xw_S 3 hts m_1060 m_1061 m_24 m_1062 (by decide +kernel) ⟨(Nat.le_of_ble_eq_true rfl), (Nat.le_of_ble_eq_true rfl)⟩) hP_3 hD_3 hS_3 [] [] rfl rfl (by decide +kernel) (by decide +kernel) (by decide +kernel) rfl hl.1 rfl (Nat.le_of_ble_eq_true rfl) d_Ar_joinInts_73 ⟨(Nat.le_of_ble_eq_true rfl), (Nat.le_of_ble_eq_true rfl)⟩ (fun v9 w9 H_4 locs_4 hp hP_4 hD_4 hS_4 => ?_) (fun x9 w9 H9 l9 hp _ _ _ => absurd hp (fun q9 => by obtain ⟨-, ho, -⟩ := q9; cases ho))
    clear hS_3 hD_3 hP_3
    obtain ⟨hx_3, ho, rfl⟩ := hp
    cases ho
    replace hP_4 : va_P G classes [] H_4 := hP_4
    replace hD_4 : va_D A [] := hD_4
    refine lv_l2i hx hb d_Ar_joinInts_76 rfl ?_
    exact ex_W (fun _ h => ex_mq h) (W.iret (v := x_3.toInt32) hx hb hr (fun t ht hW => ⟨⟨_, ozr hf ⟨trivial, rfl, rfl⟩, by rw [ht]; exact hP_4, hD_4⟩, hS_4.F ht⟩) hS_4.2.2 d_Ar_joinInts_77)
  clear hK_2
  refine jpE hf (fun K_6 hK_6 hf9 => ?_)
  replace hf := hf9
  clear hf9
  have hJK_6 : ∀ (y_5 : Unit), True → K_6 y_5 = R9 → ∀ (H : Heap) (locs : List Loc), va_P G classes [] H → va_D A [] → va_S A s.heap H locs → ∀ (ls : Array Slot), lv_has ls 3 [(0, .int (iI v_op)), (1, .int v_a), (2, .int v_b)] → W p l e (headSpec (wx y_Ar_joinInts b_Ar_joinInts 3 (some .int)) { frames := 3, cells := 0, slots := 0, locals := 72 }).room s m ([.int (iI v_op), .int v_a, .int v_b] : List Value).toArray below meth c H locs 0 0 (MX below (XQ G classes A (fun o w1 => ozp R9 (fun x9 => (True) ∧ o = .returned (some (.int x9)) ∧ w1 = []) (fun _ => False))) ([.int (iI v_op), .int v_a, .int v_b] : List Value).toArray s 0 0 A) (F0 m 108 ls []) := by
    intro y_5 hy_5 hf H_5 locs_5 hP_5 hD_5 hS_5 ls hl
    clear hS hD hP
    replace hf := (congrFun hK_6 y_5).symm.trans hf
    clear hK_6
    refine lv_iload_n hx hb d_Ar_joinInts_108 rfl (lv_at hl 0 rfl) ?_
    refine lv_iload_n hx hb d_Ar_joinInts_109 rfl (lv_at hl 1 rfl) ?_
    refine lv_i2l hx hb d_Ar_joinInts_110 rfl ?_
    refine lv_iload_n hx hb d_Ar_joinInts_111 rfl (lv_at hl 2 rfl) ?_
    refine lv_i2l hx hb d_Ar_joinInts_112 rfl ?_
    replace hf := obE hnb hf
    obtain ⟨x_7, e_8, hf⟩ := hf
    refine xx_callS (wc := []) (wr := []) (As := [.int (iI v_op), .long v_a.toInt64, .long v_b.toInt64]) (rest := []) ⟨hx, hb, hml, hown, hts⟩ xE_st hK hE hA (k_Ar_joinLongs l htr G cB cI cJ cZ cG v_op v_a.toInt64 v_b.toInt64 hv_op (.ret x_7) e_8 ret_nb _) (xw_S 3 hts m_1060 m_1061 m_24 m_1062 (by decide +kernel) ⟨(Nat.le_of_ble_eq_true rfl), (Nat.le_of_ble_eq_true rfl)⟩) hP_5 hD_5 hS_5 [] [] rfl rfl (by decide +kernel) (by decide +kernel) (by decide +kernel) rfl hl.1 rfl (Nat.le_of_ble_eq_true rfl) d_Ar_joinInts_113 ⟨(Nat.le_of_ble_eq_true rfl), (Nat.le_of_ble_eq_true rfl)⟩ (fun v9 w9 H_6 locs_6 hp hP_6 hD_6 hS_6 => ?_) (fun x9 w9 H9 l9 hp _ _ _ => absurd hp (fun q9 => by obtain ⟨-, ho, -⟩ := q9; cases ho))
    clear hS_5 hD_5 hP_5
    obtain ⟨hx_7, ho, rfl⟩ := hp
    cases ho
    replace hP_6 : va_P G classes [] H_6 := hP_6
    replace hD_6 : va_D A [] := hD_6
    refine lv_l2i hx hb d_Ar_joinInts_116 rfl ?_
    exact ex_W (fun _ h => ex_mq h) (W.iret (v := x_7.toInt32) hx hb hr (fun t ht hW => ⟨⟨_, ozr hf ⟨trivial, rfl, rfl⟩, by rw [ht]; exact hP_6, hD_6⟩, hS_6.F ht⟩) hS_6.2.2 d_Ar_joinInts_117)
  clear hK_6
  rcases Decidable.em (v_op = 110) with q_9 | q_9
  · replace hf := ifp q_9 hf
    refine lv_tableIn (off := 59) (tgt := 60) hx hb d_Ar_joinInts_1 (by rw [(iI_t hv_op).trans q_9]; decide) (by rw [(iI_t hv_op).trans q_9]; decide) (by rw [(iI_t hv_op).trans q_9]; rfl) (by decide) ?_
    exact hJK_2 () trivial hf _ _ hP hD hS _ (lv_sub hl [0, 1, 2] rfl)
  replace hf := ifn q_9 hf
  rcases Decidable.em (v_op = 112) with q_10 | q_10
  · replace hf := ifp q_10 hf
    refine lv_tableIn (off := 59) (tgt := 60) hx hb d_Ar_joinInts_1 (by rw [(iI_t hv_op).trans q_10]; decide) (by rw [(iI_t hv_op).trans q_10]; decide) (by rw [(iI_t hv_op).trans q_10]; rfl) (by decide) ?_
    exact hJK_2 () trivial hf _ _ hP hD hS _ (lv_sub hl [0, 1, 2] rfl)
  replace hf := ifn q_10 hf
  rcases Decidable.em (v_op = 116) with q_11 | q_11
  · replace hf := ifp q_11 hf
    refine lv_tableIn (off := 77) (tgt := 78) hx hb d_Ar_joinInts_1 (by rw [(iI_t hv_op).trans q_11]; decide) (by rw [(iI_t hv_op).trans q_11]; decide) (by rw [(iI_t hv_op).trans q_11]; rfl) (by decide) ?_
    refine lv_iload_n hx hb d_Ar_joinInts_78 rfl (lv_at hl 1 rfl) ?_
    refine lv_iload_n hx hb d_Ar_joinInts_79 rfl (lv_at hl 2 rfl) ?_
    refine lv_ishl hx hb d_Ar_joinInts_80 ?_
    exact ex_W (fun _ h => ex_mq h) (W.iret (v := v_a <<< (v_b &&& 31)) hx hb hr (fun t ht hW => ⟨⟨_, ozr hf ⟨trivial, rfl, rfl⟩, by rw [ht]; exact hP, hD⟩, hS.F ht⟩) hS.2.2 d_Ar_joinInts_81)
  replace hf := ifn q_11 hf
  rcases Decidable.em (v_op = 117) with q_12 | q_12
  · replace hf := ifp q_12 hf
    refine lv_tableIn (off := 81) (tgt := 82) hx hb d_Ar_joinInts_1 (by rw [(iI_t hv_op).trans q_12]; decide) (by rw [(iI_t hv_op).trans q_12]; decide) (by rw [(iI_t hv_op).trans q_12]; rfl) (by decide) ?_
    refine lv_iload_n hx hb d_Ar_joinInts_82 rfl (lv_at hl 1 rfl) ?_
    refine lv_iload_n hx hb d_Ar_joinInts_83 rfl (lv_at hl 2 rfl) ?_
    refine lv_ishr hx hb d_Ar_joinInts_84 ?_
    exact ex_W (fun _ h => ex_mq h) (W.iret (v := v_a >>> (v_b &&& 31)) hx hb hr (fun t ht hW => ⟨⟨_, ozr hf ⟨trivial, rfl, rfl⟩, by rw [ht]; exact hP, hD⟩, hS.F ht⟩) hS.2.2 d_Ar_joinInts_85)
  replace hf := ifn q_12 hf
  rcases Decidable.em (v_op = 118) with q_13 | q_13
  · replace hf := ifp q_13 hf
    refine lv_tableIn (off := 85) (tgt := 86) hx hb d_Ar_joinInts_1 (by rw [(iI_t hv_op).trans q_13]; decide) (by rw [(iI_t hv_op).trans q_13]; decide) (by rw [(iI_t hv_op).trans q_13]; rfl) (by decide) ?_
    refine lv_iload_n hx hb d_Ar_joinInts_86 rfl (lv_at hl 1 rfl) ?_
    refine lv_iload_n hx hb d_Ar_joinInts_87 rfl (lv_at hl 2 rfl) ?_
    refine lv_iushr hx hb d_Ar_joinInts_88 rfl ?_
    exact ex_W (fun _ h => ex_mq h) (W.iret (v := (v_a.toUInt32 >>> (v_b.toUInt32 &&& Int32.toUInt32 31)).toInt32) hx hb hr (fun t ht hW => ⟨⟨_, ozr hf ⟨trivial, rfl, rfl⟩, by rw [ht]; exact hP, hD⟩, hS.F ht⟩) hS.2.2 d_Ar_joinInts_89)
  replace hf := ifn q_13 hf
  rcases Decidable.em (v_op = 119) with q_14 | q_14
  · replace hf := ifp q_14 hf
    refine lv_tableIn (off := 89) (tgt := 90) hx hb d_Ar_joinInts_1 (by rw [(iI_t hv_op).trans q_14]; decide) (by rw [(iI_t hv_op).trans q_14]; decide) (by rw [(iI_t hv_op).trans q_14]; rfl) (by decide) ?_
    refine lv_iload_n hx hb d_Ar_joinInts_90 rfl (lv_at hl 1 rfl) ?_
    refine lv_iload_n hx hb d_Ar_joinInts_91 rfl (lv_at hl 2 rfl) ?_
    refine lv_ishl hx hb d_Ar_joinInts_92 ?_
    refine lv_iload_n hx hb d_Ar_joinInts_93 rfl (lv_at hl 1 rfl) ?_
    refine lv_iload_n hx hb d_Ar_joinInts_94 rfl (lv_at hl 2 rfl) ?_
    refine lv_ineg hx hb d_Ar_joinInts_95 ?_
    refine lv_iushr hx hb d_Ar_joinInts_96 rfl ?_
    refine lv_ior hx hb d_Ar_joinInts_97 ?_
    exact ex_W (fun _ h => ex_mq h) (W.iret (v := (v_a <<< (v_b &&& 31)) ||| ((v_a.toUInt32 >>> ((-v_b).toUInt32 &&& Int32.toUInt32 31)).toInt32)) hx hb hr (fun t ht hW => ⟨⟨_, ozr hf ⟨trivial, rfl, rfl⟩, by rw [ht]; exact hP, hD⟩, hS.F ht⟩) hS.2.2 d_Ar_joinInts_98)
  replace hf := ifn q_14 hf
  rcases Decidable.em (v_op = 120) with q_15 | q_15
  · replace hf := ifp q_15 hf
    refine lv_tableIn (off := 98) (tgt := 99) hx hb d_Ar_joinInts_1 (by rw [(iI_t hv_op).trans q_15]; decide) (by rw [(iI_t hv_op).trans q_15]; decide) (by rw [(iI_t hv_op).trans q_15]; rfl) (by decide) ?_
    refine lv_iload_n hx hb d_Ar_joinInts_99 rfl (lv_at hl 1 rfl) ?_
    refine lv_iload_n hx hb d_Ar_joinInts_100 rfl (lv_at hl 2 rfl) ?_
    refine lv_iushr hx hb d_Ar_joinInts_101 rfl ?_
    refine lv_iload_n hx hb d_Ar_joinInts_102 rfl (lv_at hl 1 rfl) ?_
    refine lv_iload_n hx hb d_Ar_joinInts_103 rfl (lv_at hl 2 rfl) ?_
    refine lv_ineg hx hb d_Ar_joinInts_104 ?_
    refine lv_ishl hx hb d_Ar_joinInts_105 ?_
    refine lv_ior hx hb d_Ar_joinInts_106 ?_
    exact ex_W (fun _ h => ex_mq h) (W.iret (v := ((v_a.toUInt32 >>> (v_b.toUInt32 &&& Int32.toUInt32 31)).toInt32) ||| (v_a <<< ((-v_b) &&& 31))) hx hb hr (fun t ht hW => ⟨⟨_, ozr hf ⟨trivial, rfl, rfl⟩, by rw [ht]; exact hP, hD⟩, hS.F ht⟩) hS.2.2 d_Ar_joinInts_107)
  replace hf := ifn q_15 hf
  rcases Decidable.em (v_op < 110 ∨ 120 < v_op) with q_16 | q_16
  · refine lv_tableOut (tgt := 108) hx hb d_Ar_joinInts_1 (by rw [iI_t hv_op]; exact q_16) (by decide) ?_
    exact hJK_6 () trivial hf _ _ hP hD hS _ (lv_sub hl [0, 1, 2] rfl)
  rcases (show v_op = 111 ∨ v_op = 113 ∨ v_op = 114 ∨ v_op = 115 by omega) with q_17 | q_18 | q_19 | q_20
  · refine lv_tableIn (off := 107) (tgt := 108) hx hb d_Ar_joinInts_1 (by rw [(iI_t hv_op).trans q_17]; decide) (by rw [(iI_t hv_op).trans q_17]; decide) (by rw [(iI_t hv_op).trans q_17]; rfl) (by decide) ?_
    exact hJK_6 () trivial hf _ _ hP hD hS _ (lv_sub hl [0, 1, 2] rfl)
  · refine lv_tableIn (off := 107) (tgt := 108) hx hb d_Ar_joinInts_1 (by rw [(iI_t hv_op).trans q_18]; decide) (by rw [(iI_t hv_op).trans q_18]; decide) (by rw [(iI_t hv_op).trans q_18]; rfl) (by decide) ?_
    exact hJK_6 () trivial hf _ _ hP hD hS _ (lv_sub hl [0, 1, 2] rfl)
  · refine lv_tableIn (off := 107) (tgt := 108) hx hb d_Ar_joinInts_1 (by rw [(iI_t hv_op).trans q_19]; decide) (by rw [(iI_t hv_op).trans q_19]; decide) (by rw [(iI_t hv_op).trans q_19]; rfl) (by decide) ?_
    exact hJK_6 () trivial hf _ _ hP hD hS _ (lv_sub hl [0, 1, 2] rfl)
  · refine lv_tableIn (off := 107) (tgt := 108) hx hb d_Ar_joinInts_1 (by rw [(iI_t hv_op).trans q_20]; decide) (by rw [(iI_t hv_op).trans q_20]; decide) (by rw [(iI_t hv_op).trans q_20]; rfl) (by decide) ?_
    exact hJK_6 () trivial hf _ _ hP hD hS _ (lv_sub hl [0, 1, 2] rfl)
